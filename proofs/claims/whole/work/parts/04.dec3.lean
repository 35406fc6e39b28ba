theorem dX5_findRooms_48 : decode cX5_findRooms 48 = .ok (.if_icmp .ge 119, 3) := by decide +kernel
theorem dX5_findRooms_51 : decode cX5_findRooms 51 = .ok (.iconst 0, 1) := by decide +kernel
theorem dX5_findRooms_52 : decode cX5_findRooms 52 = .ok (.istore_n 2, 1) := by decide +kernel
theorem dX5_findRooms_53 : decode cX5_findRooms 53 = .ok (.iload_n 2, 1) := by decide +kernel
theorem dX5_findRooms_54 : decode cX5_findRooms 54 = .ok (.aload_n 0, 1) := by decide +kernel
theorem dX5_findRooms_55 : decode cX5_findRooms 55 = .ok (.getfield 51, 3) := by decide +kernel
theorem dX5_findRooms_58 : decode cX5_findRooms 58 = .ok (.if_icmp .ge 103, 3) := by decide +kernel
theorem dX5_findRooms_61 : decode cX5_findRooms 61 = .ok (.iconst (-1), 1) := by decide +kernel
theorem dX5_findRooms_62 : decode cX5_findRooms 62 = .ok (.istore_n 3, 1) := by decide +kernel
theorem dX5_findRooms_63 : decode cX5_findRooms 63 = .ok (.iload_n 3, 1) := by decide +kernel
theorem dX5_findRooms_64 : decode cX5_findRooms 64 = .ok (.iconst 2, 1) := by decide +kernel
theorem dX5_findRooms_65 : decode cX5_findRooms 65 = .ok (.if_icmp .ge 90, 3) := by decide +kernel
theorem dX5_findRooms_68 : decode cX5_findRooms 68 = .ok (.aload_n 0, 1) := by decide +kernel
theorem dX5_findRooms_69 : decode cX5_findRooms 69 = .ok (.iload_n 2, 1) := by decide +kernel
theorem dX5_findRooms_70 : decode cX5_findRooms 70 = .ok (.iload_n 1, 1) := by decide +kernel
theorem dX5_findRooms_71 : decode cX5_findRooms 71 = .ok (.invokevirtual 89, 3) := by decide +kernel
theorem dX5_findRooms_74 : decode cX5_findRooms 74 = .ok (.ifCond .ne 81, 3) := by decide +kernel
theorem dX5_findRooms_77 : decode cX5_findRooms 77 = .ok (.iconst 0, 1) := by decide +kernel
theorem dX5_findRooms_78 : decode cX5_findRooms 78 = .ok (.istore 4, 2) := by decide +kernel
theorem dX5_findRooms_80 : decode cX5_findRooms 80 = .ok (.iconst 0, 1) := by decide +kernel
theorem dX5_findRooms_81 : decode cX5_findRooms 81 = .ok (.istore 5, 2) := by decide +kernel
theorem dX5_findRooms_83 : decode cX5_findRooms 83 = .ok (.iload 5, 2) := by decide +kernel
theorem dX5_findRooms_85 : decode cX5_findRooms 85 = .ok (.aload_n 0, 1) := by decide +kernel
theorem dX5_findRooms_86 : decode cX5_findRooms 86 = .ok (.getfield 51, 3) := by decide +kernel
theorem dX5_findRooms_89 : decode cX5_findRooms 89 = .ok (.if_icmp .ge 40, 3) := by decide +kernel
theorem dX5_findRooms_92 : decode cX5_findRooms 92 = .ok (.iload 4, 2) := by decide +kernel
theorem dX5_findRooms_94 : decode cX5_findRooms 94 = .ok (.iload 5, 2) := by decide +kernel
theorem dX5_findRooms_96 : decode cX5_findRooms 96 = .ok (.iload_n 2, 1) := by decide +kernel
theorem dX5_findRooms_97 : decode cX5_findRooms 97 = .ok (.if_icmp .eq 22, 3) := by decide +kernel
theorem dX5_findRooms_100 : decode cX5_findRooms 100 = .ok (.aload_n 0, 1) := by decide +kernel
theorem dX5_findRooms_101 : decode cX5_findRooms 101 = .ok (.iload 5, 2) := by decide +kernel
theorem dX5_findRooms_103 : decode cX5_findRooms 103 = .ok (.iload_n 1, 1) := by decide +kernel
theorem dX5_findRooms_104 : decode cX5_findRooms 104 = .ok (.iload_n 2, 1) := by decide +kernel
theorem dX5_findRooms_105 : decode cX5_findRooms 105 = .ok (.iload_n 3, 1) := by decide +kernel
theorem dX5_findRooms_106 : decode cX5_findRooms 106 = .ok (.invokevirtual 104, 3) := by decide +kernel
theorem dX5_findRooms_109 : decode cX5_findRooms 109 = .ok (.ifCond .le 10, 3) := by decide +kernel
theorem dX5_findRooms_112 : decode cX5_findRooms 112 = .ok (.iconst 1, 1) := by decide +kernel
theorem dX5_findRooms_113 : decode cX5_findRooms 113 = .ok (.iload 5, 2) := by decide +kernel
theorem dX5_findRooms_115 : decode cX5_findRooms 115 = .ok (.ishl, 1) := by decide +kernel
theorem dX5_findRooms_116 : decode cX5_findRooms 116 = .ok (.goto 4, 3) := by decide +kernel
theorem dX5_findRooms_119 : decode cX5_findRooms 119 = .ok (.iconst 0, 1) := by decide +kernel
theorem dX5_findRooms_120 : decode cX5_findRooms 120 = .ok (.ior, 1) := by decide +kernel
theorem dX5_findRooms_121 : decode cX5_findRooms 121 = .ok (.istore 4, 2) := by decide +kernel
theorem dX5_findRooms_123 : decode cX5_findRooms 123 = .ok (.iinc 5 1, 3) := by decide +kernel
theorem dX5_findRooms_126 : decode cX5_findRooms 126 = .ok (.goto (-43), 3) := by decide +kernel
theorem dX5_findRooms_129 : decode cX5_findRooms 129 = .ok (.aload_n 0, 1) := by decide +kernel
theorem dX5_findRooms_130 : decode cX5_findRooms 130 = .ok (.getfield 28, 3) := by decide +kernel
theorem dX5_findRooms_133 : decode cX5_findRooms 133 = .ok (.iload 4, 2) := by decide +kernel
theorem dX5_findRooms_135 : decode cX5_findRooms 135 = .ok (.iconst 1, 1) := by decide +kernel
theorem dX5_findRooms_136 : decode cX5_findRooms 136 = .ok (.bastore, 1) := by decide +kernel
theorem dX5_findRooms_137 : decode cX5_findRooms 137 = .ok (.aload_n 0, 1) := by decide +kernel
theorem dX5_findRooms_138 : decode cX5_findRooms 138 = .ok (.getfield 28, 3) := by decide +kernel
theorem dX5_findRooms_141 : decode cX5_findRooms 141 = .ok (.iload 4, 2) := by decide +kernel
theorem dX5_findRooms_143 : decode cX5_findRooms 143 = .ok (.iconst 1, 1) := by decide +kernel
theorem dX5_findRooms_144 : decode cX5_findRooms 144 = .ok (.iload_n 2, 1) := by decide +kernel
theorem dX5_findRooms_145 : decode cX5_findRooms 145 = .ok (.ishl, 1) := by decide +kernel
theorem dX5_findRooms_146 : decode cX5_findRooms 146 = .ok (.ior, 1) := by decide +kernel
theorem dX5_findRooms_147 : decode cX5_findRooms 147 = .ok (.iconst 1, 1) := by decide +kernel
theorem dX5_findRooms_148 : decode cX5_findRooms 148 = .ok (.bastore, 1) := by decide +kernel
theorem dX5_findRooms_149 : decode cX5_findRooms 149 = .ok (.iinc 3 2, 3) := by decide +kernel
theorem dX5_findRooms_152 : decode cX5_findRooms 152 = .ok (.goto (-89), 3) := by decide +kernel
theorem dX5_findRooms_155 : decode cX5_findRooms 155 = .ok (.iinc 2 1, 3) := by decide +kernel
theorem dX5_findRooms_158 : decode cX5_findRooms 158 = .ok (.goto (-105), 3) := by decide +kernel
theorem dX5_findRooms_161 : decode cX5_findRooms 161 = .ok (.iinc 1 1, 3) := by decide +kernel
theorem dX5_findRooms_164 : decode cX5_findRooms 164 = .ok (.goto (-121), 3) := by decide +kernel
theorem dX5_findRooms_167 : decode cX5_findRooms 167 = .ok (.iconst 0, 1) := by decide +kernel
theorem dX5_findRooms_168 : decode cX5_findRooms 168 = .ok (.istore_n 1, 1) := by decide +kernel
theorem dX5_findRooms_169 : decode cX5_findRooms 169 = .ok (.iload_n 1, 1) := by decide +kernel
theorem dX5_findRooms_170 : decode cX5_findRooms 170 = .ok (.aload_n 0, 1) := by decide +kernel
theorem dX5_findRooms_171 : decode cX5_findRooms 171 = .ok (.getfield 51, 3) := by decide +kernel
theorem dX5_findRooms_174 : decode cX5_findRooms 174 = .ok (.if_icmp .ge 157, 3) := by decide +kernel
theorem dX5_findRooms_177 : decode cX5_findRooms 177 = .ok (.aload_n 0, 1) := by decide +kernel
theorem dX5_findRooms_178 : decode cX5_findRooms 178 = .ok (.getfield 78, 3) := by decide +kernel
theorem dX5_findRooms_181 : decode cX5_findRooms 181 = .ok (.ifCond .ne 150, 3) := by decide +kernel
theorem dX5_findRooms_184 : decode cX5_findRooms 184 = .ok (.aload_n 0, 1) := by decide +kernel
theorem dX5_findRooms_185 : decode cX5_findRooms 185 = .ok (.getfield 7, 3) := by decide +kernel
theorem dX5_findRooms_188 : decode cX5_findRooms 188 = .ok (.iload_n 1, 1) := by decide +kernel
theorem dX5_findRooms_189 : decode cX5_findRooms 189 = .ok (.iaload, 1) := by decide +kernel
theorem dX5_findRooms_190 : decode cX5_findRooms 190 = .ok (.aload_n 0, 1) := by decide +kernel
theorem dX5_findRooms_191 : decode cX5_findRooms 191 = .ok (.getfield 7, 3) := by decide +kernel
theorem dX5_findRooms_194 : decode cX5_findRooms 194 = .ok (.iconst 0, 1) := by decide +kernel
theorem dX5_findRooms_195 : decode cX5_findRooms 195 = .ok (.iaload, 1) := by decide +kernel
theorem dX5_findRooms_196 : decode cX5_findRooms 196 = .ok (.imul, 1) := by decide +kernel
theorem dX5_findRooms_197 : decode cX5_findRooms 197 = .ok (.aload_n 0, 1) := by decide +kernel
theorem dX5_findRooms_198 : decode cX5_findRooms 198 = .ok (.getfield 13, 3) := by decide +kernel
theorem dX5_findRooms_201 : decode cX5_findRooms 201 = .ok (.iload_n 1, 1) := by decide +kernel
theorem dX5_findRooms_202 : decode cX5_findRooms 202 = .ok (.iaload, 1) := by decide +kernel
theorem dX5_findRooms_203 : decode cX5_findRooms 203 = .ok (.aload_n 0, 1) := by decide +kernel
theorem dX5_findRooms_204 : decode cX5_findRooms 204 = .ok (.getfield 13, 3) := by decide +kernel
theorem dX5_findRooms_207 : decode cX5_findRooms 207 = .ok (.iconst 0, 1) := by decide +kernel
theorem dX5_findRooms_208 : decode cX5_findRooms 208 = .ok (.iaload, 1) := by decide +kernel
theorem dX5_findRooms_209 : decode cX5_findRooms 209 = .ok (.imul, 1) := by decide +kernel
theorem dX5_findRooms_210 : decode cX5_findRooms 210 = .ok (.iadd, 1) := by decide +kernel
theorem dX5_findRooms_211 : decode cX5_findRooms 211 = .ok (.istore_n 2, 1) := by decide +kernel
theorem dX5_findRooms_212 : decode cX5_findRooms 212 = .ok (.iconst 0, 1) := by decide +kernel
theorem dX5_findRooms_213 : decode cX5_findRooms 213 = .ok (.istore_n 3, 1) := by decide +kernel
theorem dX5_findRooms_214 : decode cX5_findRooms 214 = .ok (.iconst 0, 1) := by decide +kernel
theorem dX5_findRooms_215 : decode cX5_findRooms 215 = .ok (.istore 4, 2) := by decide +kernel
theorem dX5_findRooms_217 : decode cX5_findRooms 217 = .ok (.iload 4, 2) := by decide +kernel
theorem dX5_findRooms_219 : decode cX5_findRooms 219 = .ok (.aload_n 0, 1) := by decide +kernel
theorem dX5_findRooms_220 : decode cX5_findRooms 220 = .ok (.getfield 51, 3) := by decide +kernel
theorem dX5_findRooms_223 : decode cX5_findRooms 223 = .ok (.if_icmp .ge 84, 3) := by decide +kernel
theorem dX5_findRooms_226 : decode cX5_findRooms 226 = .ok (.aload_n 0, 1) := by decide +kernel
theorem dX5_findRooms_227 : decode cX5_findRooms 227 = .ok (.getfield 7, 3) := by decide +kernel
theorem dX5_findRooms_230 : decode cX5_findRooms 230 = .ok (.iload 4, 2) := by decide +kernel
theorem dX5_findRooms_232 : decode cX5_findRooms 232 = .ok (.iaload, 1) := by decide +kernel
theorem dX5_findRooms_233 : decode cX5_findRooms 233 = .ok (.aload_n 0, 1) := by decide +kernel
theorem dX5_findRooms_234 : decode cX5_findRooms 234 = .ok (.getfield 7, 3) := by decide +kernel
theorem dX5_findRooms_237 : decode cX5_findRooms 237 = .ok (.iconst 0, 1) := by decide +kernel
theorem dX5_findRooms_238 : decode cX5_findRooms 238 = .ok (.iaload, 1) := by decide +kernel
theorem dX5_findRooms_239 : decode cX5_findRooms 239 = .ok (.imul, 1) := by decide +kernel
theorem dX5_findRooms_240 : decode cX5_findRooms 240 = .ok (.aload_n 0, 1) := by decide +kernel
theorem dX5_findRooms_241 : decode cX5_findRooms 241 = .ok (.getfield 13, 3) := by decide +kernel
theorem dX5_findRooms_244 : decode cX5_findRooms 244 = .ok (.iload 4, 2) := by decide +kernel
theorem dX5_findRooms_246 : decode cX5_findRooms 246 = .ok (.iaload, 1) := by decide +kernel
theorem dX5_findRooms_247 : decode cX5_findRooms 247 = .ok (.aload_n 0, 1) := by decide +kernel
theorem dX5_findRooms_248 : decode cX5_findRooms 248 = .ok (.getfield 13, 3) := by decide +kernel
theorem dX5_findRooms_251 : decode cX5_findRooms 251 = .ok (.iconst 0, 1) := by decide +kernel
theorem dX5_findRooms_252 : decode cX5_findRooms 252 = .ok (.iaload, 1) := by decide +kernel
theorem dX5_findRooms_253 : decode cX5_findRooms 253 = .ok (.imul, 1) := by decide +kernel
theorem dX5_findRooms_254 : decode cX5_findRooms 254 = .ok (.iadd, 1) := by decide +kernel
theorem dX5_findRooms_255 : decode cX5_findRooms 255 = .ok (.istore 5, 2) := by decide +kernel
theorem dX5_findRooms_257 : decode cX5_findRooms 257 = .ok (.iload_n 3, 1) := by decide +kernel
theorem dX5_findRooms_258 : decode cX5_findRooms 258 = .ok (.iload 4, 2) := by decide +kernel
theorem dX5_findRooms_260 : decode cX5_findRooms 260 = .ok (.iload_n 1, 1) := by decide +kernel
theorem dX5_findRooms_261 : decode cX5_findRooms 261 = .ok (.if_icmp .eq 37, 3) := by decide +kernel
theorem dX5_findRooms_264 : decode cX5_findRooms 264 = .ok (.aload_n 0, 1) := by decide +kernel
theorem dX5_findRooms_265 : decode cX5_findRooms 265 = .ok (.getfield 16, 3) := by decide +kernel
theorem dX5_findRooms_268 : decode cX5_findRooms 268 = .ok (.iload_n 1, 1) := by decide +kernel
theorem dX5_findRooms_269 : decode cX5_findRooms 269 = .ok (.iaload, 1) := by decide +kernel
theorem dX5_findRooms_270 : decode cX5_findRooms 270 = .ok (.iload 5, 2) := by decide +kernel
theorem dX5_findRooms_272 : decode cX5_findRooms 272 = .ok (.imul, 1) := by decide +kernel
theorem dX5_findRooms_273 : decode cX5_findRooms 273 = .ok (.aload_n 0, 1) := by decide +kernel
theorem dX5_findRooms_274 : decode cX5_findRooms 274 = .ok (.getfield 16, 3) := by decide +kernel
theorem dX5_findRooms_277 : decode cX5_findRooms 277 = .ok (.iload 4, 2) := by decide +kernel
theorem dX5_findRooms_279 : decode cX5_findRooms 279 = .ok (.iaload, 1) := by decide +kernel
theorem dX5_findRooms_280 : decode cX5_findRooms 280 = .ok (.iload_n 2, 1) := by decide +kernel
theorem dX5_findRooms_281 : decode cX5_findRooms 281 = .ok (.imul, 1) := by decide +kernel
theorem dX5_findRooms_282 : decode cX5_findRooms 282 = .ok (.isub, 1) := by decide +kernel
theorem dX5_findRooms_283 : decode cX5_findRooms 283 = .ok (.iload_n 2, 1) := by decide +kernel
theorem dX5_findRooms_284 : decode cX5_findRooms 284 = .ok (.invokestatic 74, 3) := by decide +kernel
theorem dX5_findRooms_287 : decode cX5_findRooms 287 = .ok (.imul, 1) := by decide +kernel
theorem dX5_findRooms_288 : decode cX5_findRooms 288 = .ok (.ifCond .le 10, 3) := by decide +kernel
theorem dX5_findRooms_291 : decode cX5_findRooms 291 = .ok (.iconst 1, 1) := by decide +kernel
theorem dX5_findRooms_292 : decode cX5_findRooms 292 = .ok (.iload 4, 2) := by decide +kernel
theorem dX5_findRooms_294 : decode cX5_findRooms 294 = .ok (.ishl, 1) := by decide +kernel
theorem dX5_findRooms_295 : decode cX5_findRooms 295 = .ok (.goto 4, 3) := by decide +kernel
theorem dX5_findRooms_298 : decode cX5_findRooms 298 = .ok (.iconst 0, 1) := by decide +kernel
theorem dX5_findRooms_299 : decode cX5_findRooms 299 = .ok (.ior, 1) := by decide +kernel
theorem dX5_findRooms_300 : decode cX5_findRooms 300 = .ok (.istore_n 3, 1) := by decide +kernel
theorem dX5_findRooms_301 : decode cX5_findRooms 301 = .ok (.iinc 4 1, 3) := by decide +kernel
theorem dX5_findRooms_304 : decode cX5_findRooms 304 = .ok (.goto (-87), 3) := by decide +kernel
theorem dX5_findRooms_307 : decode cX5_findRooms 307 = .ok (.aload_n 0, 1) := by decide +kernel
theorem dX5_findRooms_308 : decode cX5_findRooms 308 = .ok (.getfield 28, 3) := by decide +kernel
theorem dX5_findRooms_311 : decode cX5_findRooms 311 = .ok (.iload_n 3, 1) := by decide +kernel
theorem dX5_findRooms_312 : decode cX5_findRooms 312 = .ok (.iconst 1, 1) := by decide +kernel
theorem dX5_findRooms_313 : decode cX5_findRooms 313 = .ok (.bastore, 1) := by decide +kernel
theorem dX5_findRooms_314 : decode cX5_findRooms 314 = .ok (.aload_n 0, 1) := by decide +kernel
theorem dX5_findRooms_315 : decode cX5_findRooms 315 = .ok (.getfield 28, 3) := by decide +kernel
theorem dX5_findRooms_318 : decode cX5_findRooms 318 = .ok (.iload_n 3, 1) := by decide +kernel
theorem dX5_findRooms_319 : decode cX5_findRooms 319 = .ok (.iconst 1, 1) := by decide +kernel
theorem dX5_findRooms_320 : decode cX5_findRooms 320 = .ok (.iload_n 1, 1) := by decide +kernel
theorem dX5_findRooms_321 : decode cX5_findRooms 321 = .ok (.ishl, 1) := by decide +kernel
theorem dX5_findRooms_322 : decode cX5_findRooms 322 = .ok (.ior, 1) := by decide +kernel
theorem dX5_findRooms_323 : decode cX5_findRooms 323 = .ok (.iconst 1, 1) := by decide +kernel
theorem dX5_findRooms_324 : decode cX5_findRooms 324 = .ok (.bastore, 1) := by decide +kernel
theorem dX5_findRooms_325 : decode cX5_findRooms 325 = .ok (.iinc 1 1, 3) := by decide +kernel
theorem dX5_findRooms_328 : decode cX5_findRooms 328 = .ok (.goto (-159), 3) := by decide +kernel
theorem dX5_findRooms_331 : decode cX5_findRooms 331 = .ok (.return_, 1) := by decide +kernel
theorem dX5_countRooms_0 : decode cX5_countRooms 0 = .ok (.iconst 0, 1) := by decide +kernel
theorem dX5_countRooms_1 : decode cX5_countRooms 1 = .ok (.istore_n 1, 1) := by decide +kernel
theorem dX5_countRooms_2 : decode cX5_countRooms 2 = .ok (.iconst 0, 1) := by decide +kernel
theorem dX5_countRooms_3 : decode cX5_countRooms 3 = .ok (.istore_n 2, 1) := by decide +kernel
theorem dX5_countRooms_4 : decode cX5_countRooms 4 = .ok (.iload_n 2, 1) := by decide +kernel
theorem dX5_countRooms_5 : decode cX5_countRooms 5 = .ok (.sipush 512, 3) := by decide +kernel
theorem dX5_countRooms_8 : decode cX5_countRooms 8 = .ok (.if_icmp .ge 26, 3) := by decide +kernel
theorem dX5_countRooms_11 : decode cX5_countRooms 11 = .ok (.iload_n 1, 1) := by decide +kernel
theorem dX5_countRooms_12 : decode cX5_countRooms 12 = .ok (.aload_n 0, 1) := by decide +kernel
theorem dX5_countRooms_13 : decode cX5_countRooms 13 = .ok (.getfield 28, 3) := by decide +kernel
theorem dX5_countRooms_16 : decode cX5_countRooms 16 = .ok (.iload_n 2, 1) := by decide +kernel
theorem dX5_countRooms_17 : decode cX5_countRooms 17 = .ok (.baload, 1) := by decide +kernel
theorem dX5_countRooms_18 : decode cX5_countRooms 18 = .ok (.ifCond .eq 7, 3) := by decide +kernel
theorem dX5_countRooms_21 : decode cX5_countRooms 21 = .ok (.iconst 1, 1) := by decide +kernel
theorem dX5_countRooms_22 : decode cX5_countRooms 22 = .ok (.goto 4, 3) := by decide +kernel
theorem dX5_countRooms_25 : decode cX5_countRooms 25 = .ok (.iconst 0, 1) := by decide +kernel
theorem dX5_countRooms_26 : decode cX5_countRooms 26 = .ok (.iadd, 1) := by decide +kernel
theorem dX5_countRooms_27 : decode cX5_countRooms 27 = .ok (.istore_n 1, 1) := by decide +kernel
theorem dX5_countRooms_28 : decode cX5_countRooms 28 = .ok (.iinc 2 1, 3) := by decide +kernel
theorem dX5_countRooms_31 : decode cX5_countRooms 31 = .ok (.goto (-27), 3) := by decide +kernel
theorem dX5_countRooms_34 : decode cX5_countRooms 34 = .ok (.iload_n 1, 1) := by decide +kernel
theorem dX5_countRooms_35 : decode cX5_countRooms 35 = .ok (.ireturn, 1) := by decide +kernel
theorem dX5_setOf_0 : decode cX5_setOf 0 = .ok (.iload_n 1, 1) := by decide +kernel
theorem dX5_setOf_1 : decode cX5_setOf 1 = .ok (.istore_n 2, 1) := by decide +kernel
theorem dX5_setOf_2 : decode cX5_setOf 2 = .ok (.iconst 0, 1) := by decide +kernel
theorem dX5_setOf_3 : decode cX5_setOf 3 = .ok (.istore_n 3, 1) := by decide +kernel
theorem dX5_setOf_4 : decode cX5_setOf 4 = .ok (.aload_n 0, 1) := by decide +kernel
theorem dX5_setOf_5 : decode cX5_setOf 5 = .ok (.getfield 28, 3) := by decide +kernel
theorem dX5_setOf_8 : decode cX5_setOf 8 = .ok (.iload_n 3, 1) := by decide +kernel
theorem dX5_setOf_9 : decode cX5_setOf 9 = .ok (.baload, 1) := by decide +kernel
theorem dX5_setOf_10 : decode cX5_setOf 10 = .ok (.ifCond .eq 7, 3) := by decide +kernel
theorem dX5_setOf_13 : decode cX5_setOf 13 = .ok (.iload_n 2, 1) := by decide +kernel
theorem dX5_setOf_14 : decode cX5_setOf 14 = .ok (.ifCond .le 26, 3) := by decide +kernel
theorem dX5_setOf_17 : decode cX5_setOf 17 = .ok (.iload_n 2, 1) := by decide +kernel
theorem dX5_setOf_18 : decode cX5_setOf 18 = .ok (.aload_n 0, 1) := by decide +kernel
theorem dX5_setOf_19 : decode cX5_setOf 19 = .ok (.getfield 28, 3) := by decide +kernel
theorem dX5_setOf_22 : decode cX5_setOf 22 = .ok (.iload_n 3, 1) := by decide +kernel
theorem dX5_setOf_23 : decode cX5_setOf 23 = .ok (.baload, 1) := by decide +kernel
theorem dX5_setOf_24 : decode cX5_setOf 24 = .ok (.ifCond .eq 7, 3) := by decide +kernel
theorem dX5_setOf_27 : decode cX5_setOf 27 = .ok (.iconst 1, 1) := by decide +kernel
theorem dX5_setOf_28 : decode cX5_setOf 28 = .ok (.goto 4, 3) := by decide +kernel
theorem dX5_setOf_31 : decode cX5_setOf 31 = .ok (.iconst 0, 1) := by decide +kernel
theorem dX5_setOf_32 : decode cX5_setOf 32 = .ok (.isub, 1) := by decide +kernel
theorem dX5_setOf_33 : decode cX5_setOf 33 = .ok (.istore_n 2, 1) := by decide +kernel
theorem dX5_setOf_34 : decode cX5_setOf 34 = .ok (.iinc 3 1, 3) := by decide +kernel
theorem dX5_setOf_37 : decode cX5_setOf 37 = .ok (.goto (-33), 3) := by decide +kernel
theorem dX5_setOf_40 : decode cX5_setOf 40 = .ok (.iload_n 3, 1) := by decide +kernel
theorem dX5_setOf_41 : decode cX5_setOf 41 = .ok (.ireturn, 1) := by decide +kernel
theorem dX5_numberOf_0 : decode cX5_numberOf 0 = .ok (.iconst 0, 1) := by decide +kernel
theorem dX5_numberOf_1 : decode cX5_numberOf 1 = .ok (.istore_n 2, 1) := by decide +kernel
theorem dX5_numberOf_2 : decode cX5_numberOf 2 = .ok (.iconst 0, 1) := by decide +kernel
theorem dX5_numberOf_3 : decode cX5_numberOf 3 = .ok (.istore_n 3, 1) := by decide +kernel
theorem dX5_numberOf_4 : decode cX5_numberOf 4 = .ok (.iload_n 3, 1) := by decide +kernel
theorem dX5_numberOf_5 : decode cX5_numberOf 5 = .ok (.iload_n 1, 1) := by decide +kernel
theorem dX5_numberOf_6 : decode cX5_numberOf 6 = .ok (.if_icmp .ge 26, 3) := by decide +kernel
theorem dX5_numberOf_9 : decode cX5_numberOf 9 = .ok (.iload_n 2, 1) := by decide +kernel
theorem dX5_numberOf_10 : decode cX5_numberOf 10 = .ok (.aload_n 0, 1) := by decide +kernel
theorem dX5_numberOf_11 : decode cX5_numberOf 11 = .ok (.getfield 28, 3) := by decide +kernel
theorem dX5_numberOf_14 : decode cX5_numberOf 14 = .ok (.iload_n 3, 1) := by decide +kernel
theorem dX5_numberOf_15 : decode cX5_numberOf 15 = .ok (.baload, 1) := by decide +kernel
theorem dX5_numberOf_16 : decode cX5_numberOf 16 = .ok (.ifCond .eq 7, 3) := by decide +kernel
theorem dX5_numberOf_19 : decode cX5_numberOf 19 = .ok (.iconst 1, 1) := by decide +kernel
theorem dX5_numberOf_20 : decode cX5_numberOf 20 = .ok (.goto 4, 3) := by decide +kernel
theorem dX5_numberOf_23 : decode cX5_numberOf 23 = .ok (.iconst 0, 1) := by decide +kernel
theorem dX5_numberOf_24 : decode cX5_numberOf 24 = .ok (.iadd, 1) := by decide +kernel
theorem dX5_numberOf_25 : decode cX5_numberOf 25 = .ok (.istore_n 2, 1) := by decide +kernel
theorem dX5_numberOf_26 : decode cX5_numberOf 26 = .ok (.iinc 3 1, 3) := by decide +kernel
theorem dX5_numberOf_29 : decode cX5_numberOf 29 = .ok (.goto (-25), 3) := by decide +kernel
theorem dX5_numberOf_32 : decode cX5_numberOf 32 = .ok (.iload_n 2, 1) := by decide +kernel
theorem dX5_numberOf_33 : decode cX5_numberOf 33 = .ok (.ireturn, 1) := by decide +kernel
set_option maxRecDepth 20000 in
theorem ggX5_roomIs_X5_findRooms : GoodIn wsX5_roomIs wsX5_findRooms := goodIn_r _ [5, 6, 7, 8, 9, 10, 11, 12, 13, 14, 4, 15, 16, 17, 18, 19, 20, 21, 22, 23, 24, 25, 26, 27, 28, 29, 30, 31, 32, 33, 34, 35, 36, 44, 45, 46, 47, 48, 49, 50, 51, 52, 53, 54, 55, 56, 57, 58, 59, 60, 61, 62] (by decide +kernel) (by decide +kernel)
set_option maxRecDepth 20000 in
theorem gX5_roomIs_X5_findRooms : GoodIn wsX5_roomIs (wsV RX5 108 RX5 yX5_findRooms wsX5_findRooms) := goodIn_app (goodIn_of _ (by decide +kernel)) ggX5_roomIs_X5_findRooms
set_option maxRecDepth 20000 in
theorem ggX5_roomIs_X5_countRooms : GoodIn wsX5_roomIs wsX5_countRooms := goodIn_r _ [40, 6, 44, 45, 46, 47, 48, 49, 50, 51, 52, 53, 54, 55, 56, 57, 58, 59, 60, 61, 62] (by decide +kernel) (by decide +kernel)
set_option maxRecDepth 20000 in
theorem gX5_roomIs_X5_countRooms : GoodIn wsX5_roomIs (wsV RX5 111 RX5 yX5_countRooms wsX5_countRooms) := goodIn_app (goodIn_of _ (by decide +kernel)) ggX5_roomIs_X5_countRooms
set_option maxRecDepth 20000 in
theorem ggX5_roomIs_X5_in : GoodIn wsX5_roomIs wsX5_in := goodIn_r _ [43] (by decide +kernel) (by decide +kernel)
set_option maxRecDepth 20000 in
theorem gX5_roomIs_X5_in : GoodIn wsX5_roomIs (va_wsS RX5 54 yX5_in wsX5_in) := goodIn_app (goodIn_of _ (by decide +kernel)) ggX5_roomIs_X5_in
theorem dX5_roomIs_0 : decode cX5_roomIs 0 = .ok (.aload_n 0, 1) := by decide +kernel
theorem dX5_roomIs_1 : decode cX5_roomIs 1 = .ok (.invokevirtual 108, 3) := by decide +kernel
theorem dX5_roomIs_4 : decode cX5_roomIs 4 = .ok (.iload_n 1, 1) := by decide +kernel
theorem dX5_roomIs_5 : decode cX5_roomIs 5 = .ok (.iconst 0, 1) := by decide +kernel
theorem dX5_roomIs_6 : decode cX5_roomIs 6 = .ok (.aload_n 0, 1) := by decide +kernel
theorem dX5_roomIs_7 : decode cX5_roomIs 7 = .ok (.invokevirtual 111, 3) := by decide +kernel
theorem dX5_roomIs_10 : decode cX5_roomIs 10 = .ok (.iconst 1, 1) := by decide +kernel
theorem dX5_roomIs_11 : decode cX5_roomIs 11 = .ok (.isub, 1) := by decide +kernel
theorem dX5_roomIs_12 : decode cX5_roomIs 12 = .ok (.invokestatic 54, 3) := by decide +kernel
theorem dX5_roomIs_15 : decode cX5_roomIs 15 = .ok (.ireturn, 1) := by decide +kernel
theorem dX5_goesOn_0 : decode cX5_goesOn 0 = .ok (.iconst 1, 1) := by decide +kernel
theorem dX5_goesOn_1 : decode cX5_goesOn 1 = .ok (.istore 4, 2) := by decide +kernel
theorem dX5_goesOn_3 : decode cX5_goesOn 3 = .ok (.iconst 0, 1) := by decide +kernel
theorem dX5_goesOn_4 : decode cX5_goesOn 4 = .ok (.istore 5, 2) := by decide +kernel
theorem dX5_goesOn_6 : decode cX5_goesOn 6 = .ok (.iload 5, 2) := by decide +kernel
theorem dX5_goesOn_8 : decode cX5_goesOn 8 = .ok (.aload_n 0, 1) := by decide +kernel
theorem dX5_goesOn_9 : decode cX5_goesOn 9 = .ok (.getfield 51, 3) := by decide +kernel
theorem dX5_goesOn_12 : decode cX5_goesOn 12 = .ok (.if_icmp .ge 68, 3) := by decide +kernel
theorem dX5_goesOn_15 : decode cX5_goesOn 15 = .ok (.aload_n 0, 1) := by decide +kernel
theorem dX5_goesOn_16 : decode cX5_goesOn 16 = .ok (.getfield 7, 3) := by decide +kernel
theorem dX5_goesOn_19 : decode cX5_goesOn 19 = .ok (.iload 5, 2) := by decide +kernel
theorem dX5_goesOn_21 : decode cX5_goesOn 21 = .ok (.iaload, 1) := by decide +kernel
theorem dX5_goesOn_22 : decode cX5_goesOn 22 = .ok (.iload_n 2, 1) := by decide +kernel
theorem dX5_goesOn_23 : decode cX5_goesOn 23 = .ok (.imul, 1) := by decide +kernel
theorem dX5_goesOn_24 : decode cX5_goesOn 24 = .ok (.aload_n 0, 1) := by decide +kernel
theorem dX5_goesOn_25 : decode cX5_goesOn 25 = .ok (.getfield 13, 3) := by decide +kernel
theorem dX5_goesOn_28 : decode cX5_goesOn 28 = .ok (.iload 5, 2) := by decide +kernel
theorem dX5_goesOn_30 : decode cX5_goesOn 30 = .ok (.iaload, 1) := by decide +kernel
theorem dX5_goesOn_31 : decode cX5_goesOn 31 = .ok (.iload_n 3, 1) := by decide +kernel
theorem dX5_goesOn_32 : decode cX5_goesOn 32 = .ok (.imul, 1) := by decide +kernel
theorem dX5_goesOn_33 : decode cX5_goesOn 33 = .ok (.iadd, 1) := by decide +kernel
theorem dX5_goesOn_34 : decode cX5_goesOn 34 = .ok (.istore 6, 2) := by decide +kernel
theorem dX5_goesOn_36 : decode cX5_goesOn 36 = .ok (.iload 4, 2) := by decide +kernel
theorem dX5_goesOn_38 : decode cX5_goesOn 38 = .ok (.iload_n 1, 1) := by decide +kernel
theorem dX5_goesOn_39 : decode cX5_goesOn 39 = .ok (.iload 5, 2) := by decide +kernel
theorem dX5_goesOn_41 : decode cX5_goesOn 41 = .ok (.ishr, 1) := by decide +kernel
theorem dX5_goesOn_42 : decode cX5_goesOn 42 = .ok (.iconst 1, 1) := by decide +kernel
theorem dX5_goesOn_43 : decode cX5_goesOn 43 = .ok (.iand, 1) := by decide +kernel
theorem dX5_goesOn_44 : decode cX5_goesOn 44 = .ok (.iconst 1, 1) := by decide +kernel
theorem dX5_goesOn_45 : decode cX5_goesOn 45 = .ok (.if_icmp .ne 16, 3) := by decide +kernel
theorem dX5_goesOn_48 : decode cX5_goesOn 48 = .ok (.iload 6, 2) := by decide +kernel
theorem dX5_goesOn_50 : decode cX5_goesOn 50 = .ok (.ifCond .lt 7, 3) := by decide +kernel
theorem dX5_goesOn_53 : decode cX5_goesOn 53 = .ok (.iconst 1, 1) := by decide +kernel
theorem dX5_goesOn_54 : decode cX5_goesOn 54 = .ok (.goto 17, 3) := by decide +kernel
theorem dX5_goesOn_57 : decode cX5_goesOn 57 = .ok (.iconst 0, 1) := by decide +kernel
theorem dX5_goesOn_58 : decode cX5_goesOn 58 = .ok (.goto 13, 3) := by decide +kernel
theorem dX5_goesOn_61 : decode cX5_goesOn 61 = .ok (.iload 6, 2) := by decide +kernel
theorem dX5_goesOn_63 : decode cX5_goesOn 63 = .ok (.ifCond .gt 7, 3) := by decide +kernel
theorem dX5_goesOn_66 : decode cX5_goesOn 66 = .ok (.iconst 1, 1) := by decide +kernel
theorem dX5_goesOn_67 : decode cX5_goesOn 67 = .ok (.goto 4, 3) := by decide +kernel
theorem dX5_goesOn_70 : decode cX5_goesOn 70 = .ok (.iconst 0, 1) := by decide +kernel
theorem dX5_goesOn_71 : decode cX5_goesOn 71 = .ok (.iand, 1) := by decide +kernel
theorem dX5_goesOn_72 : decode cX5_goesOn 72 = .ok (.istore 4, 2) := by decide +kernel
theorem dX5_goesOn_74 : decode cX5_goesOn 74 = .ok (.iinc 5 1, 3) := by decide +kernel
theorem dX5_goesOn_77 : decode cX5_goesOn 77 = .ok (.goto (-71), 3) := by decide +kernel
theorem dX5_goesOn_80 : decode cX5_goesOn 80 = .ok (.iload 4, 2) := by decide +kernel
theorem dX5_goesOn_82 : decode cX5_goesOn 82 = .ok (.ireturn, 1) := by decide +kernel
set_option maxRecDepth 20000 in
theorem ggX5_isBounded_X5_goesOn : GoodIn wsX5_isBounded wsX5_goesOn := goodIn_r _ [8, 1, 3, 2, 9, 10, 11, 12, 13, 14, 15, 16, 17, 18, 19, 20, 21, 22, 23, 24, 25, 26, 27] (by decide +kernel) (by decide +kernel)
set_option maxRecDepth 20000 in
theorem gX5_isBounded_X5_goesOn : GoodIn wsX5_isBounded (wsV RX5 115 RX5 yX5_goesOn wsX5_goesOn) := goodIn_app (goodIn_of _ (by decide +kernel)) ggX5_isBounded_X5_goesOn
theorem dX5_isBounded_0 : decode cX5_isBounded 0 = .ok (.aload_n 0, 1) := by decide +kernel
theorem dX5_isBounded_1 : decode cX5_isBounded 1 = .ok (.getfield 51, 3) := by decide +kernel
theorem dX5_isBounded_4 : decode cX5_isBounded 4 = .ok (.ifCond .le 7, 3) := by decide +kernel
theorem dX5_isBounded_7 : decode cX5_isBounded 7 = .ok (.iconst 1, 1) := by decide +kernel
theorem dX5_isBounded_8 : decode cX5_isBounded 8 = .ok (.goto 4, 3) := by decide +kernel
theorem dX5_isBounded_11 : decode cX5_isBounded 11 = .ok (.iconst 0, 1) := by decide +kernel
theorem dX5_isBounded_12 : decode cX5_isBounded 12 = .ok (.istore_n 2, 1) := by decide +kernel
theorem dX5_isBounded_13 : decode cX5_isBounded 13 = .ok (.iconst 0, 1) := by decide +kernel
theorem dX5_isBounded_14 : decode cX5_isBounded 14 = .ok (.istore_n 3, 1) := by decide +kernel
theorem dX5_isBounded_15 : decode cX5_isBounded 15 = .ok (.iload_n 3, 1) := by decide +kernel
theorem dX5_isBounded_16 : decode cX5_isBounded 16 = .ok (.aload_n 0, 1) := by decide +kernel
theorem dX5_isBounded_17 : decode cX5_isBounded 17 = .ok (.getfield 51, 3) := by decide +kernel
theorem dX5_isBounded_20 : decode cX5_isBounded 20 = .ok (.if_icmp .ge 59, 3) := by decide +kernel
theorem dX5_isBounded_23 : decode cX5_isBounded 23 = .ok (.iload_n 2, 1) := by decide +kernel
theorem dX5_isBounded_24 : decode cX5_isBounded 24 = .ok (.aload_n 0, 1) := by decide +kernel
theorem dX5_isBounded_25 : decode cX5_isBounded 25 = .ok (.iload_n 1, 1) := by decide +kernel
theorem dX5_isBounded_26 : decode cX5_isBounded 26 = .ok (.aload_n 0, 1) := by decide +kernel
theorem dX5_isBounded_27 : decode cX5_isBounded 27 = .ok (.getfield 13, 3) := by decide +kernel
theorem dX5_isBounded_30 : decode cX5_isBounded 30 = .ok (.iload_n 3, 1) := by decide +kernel
theorem dX5_isBounded_31 : decode cX5_isBounded 31 = .ok (.iaload, 1) := by decide +kernel
theorem dX5_isBounded_32 : decode cX5_isBounded 32 = .ok (.ineg, 1) := by decide +kernel
theorem dX5_isBounded_33 : decode cX5_isBounded 33 = .ok (.aload_n 0, 1) := by decide +kernel
theorem dX5_isBounded_34 : decode cX5_isBounded 34 = .ok (.getfield 7, 3) := by decide +kernel
theorem dX5_isBounded_37 : decode cX5_isBounded 37 = .ok (.iload_n 3, 1) := by decide +kernel
theorem dX5_isBounded_38 : decode cX5_isBounded 38 = .ok (.iaload, 1) := by decide +kernel
theorem dX5_isBounded_39 : decode cX5_isBounded 39 = .ok (.invokevirtual 115, 3) := by decide +kernel
theorem dX5_isBounded_42 : decode cX5_isBounded 42 = .ok (.ifCond .ne 28, 3) := by decide +kernel
theorem dX5_isBounded_45 : decode cX5_isBounded 45 = .ok (.aload_n 0, 1) := by decide +kernel
theorem dX5_isBounded_46 : decode cX5_isBounded 46 = .ok (.iload_n 1, 1) := by decide +kernel
theorem dX5_isBounded_47 : decode cX5_isBounded 47 = .ok (.aload_n 0, 1) := by decide +kernel
theorem dX5_isBounded_48 : decode cX5_isBounded 48 = .ok (.getfield 13, 3) := by decide +kernel
theorem dX5_isBounded_51 : decode cX5_isBounded 51 = .ok (.iload_n 3, 1) := by decide +kernel
theorem dX5_isBounded_52 : decode cX5_isBounded 52 = .ok (.iaload, 1) := by decide +kernel
theorem dX5_isBounded_53 : decode cX5_isBounded 53 = .ok (.aload_n 0, 1) := by decide +kernel
theorem dX5_isBounded_54 : decode cX5_isBounded 54 = .ok (.getfield 7, 3) := by decide +kernel
theorem dX5_isBounded_57 : decode cX5_isBounded 57 = .ok (.iload_n 3, 1) := by decide +kernel
theorem dX5_isBounded_58 : decode cX5_isBounded 58 = .ok (.iaload, 1) := by decide +kernel
theorem dX5_isBounded_59 : decode cX5_isBounded 59 = .ok (.ineg, 1) := by decide +kernel
theorem dX5_isBounded_60 : decode cX5_isBounded 60 = .ok (.invokevirtual 115, 3) := by decide +kernel
theorem dX5_isBounded_63 : decode cX5_isBounded 63 = .ok (.ifCond .ne 7, 3) := by decide +kernel
theorem dX5_isBounded_66 : decode cX5_isBounded 66 = .ok (.iconst 1, 1) := by decide +kernel
theorem dX5_isBounded_67 : decode cX5_isBounded 67 = .ok (.goto 4, 3) := by decide +kernel
theorem dX5_isBounded_70 : decode cX5_isBounded 70 = .ok (.iconst 0, 1) := by decide +kernel
theorem dX5_isBounded_71 : decode cX5_isBounded 71 = .ok (.iand, 1) := by decide +kernel
theorem dX5_isBounded_72 : decode cX5_isBounded 72 = .ok (.istore_n 2, 1) := by decide +kernel
theorem dX5_isBounded_73 : decode cX5_isBounded 73 = .ok (.iinc 3 1, 3) := by decide +kernel
theorem dX5_isBounded_76 : decode cX5_isBounded 76 = .ok (.goto (-61), 3) := by decide +kernel
theorem dX5_isBounded_79 : decode cX5_isBounded 79 = .ok (.iload_n 2, 1) := by decide +kernel
theorem dX5_isBounded_80 : decode cX5_isBounded 80 = .ok (.ireturn, 1) := by decide +kernel
set_option maxRecDepth 20000 in
theorem ggX5_isCorner_X5_side : GoodIn wsX5_isCorner wsX5_side := goodIn_r _ [6, 7, 8, 9, 10, 11, 12, 13, 14, 5, 15, 16, 17, 18, 19, 20, 21, 22, 23, 24, 25, 26, 27, 28, 29, 30, 31, 32, 33, 34] (by decide +kernel) (by decide +kernel)
set_option maxRecDepth 20000 in
theorem gX5_isCorner_X5_side : GoodIn wsX5_isCorner (wsV RX5 89 RX5 yX5_side wsX5_side) := goodIn_app (goodIn_of _ (by decide +kernel)) ggX5_isCorner_X5_side
theorem dX5_isCorner_0 : decode cX5_isCorner 0 = .ok (.iconst 1, 1) := by decide +kernel
theorem dX5_isCorner_1 : decode cX5_isCorner 1 = .ok (.istore_n 3, 1) := by decide +kernel
theorem dX5_isCorner_2 : decode cX5_isCorner 2 = .ok (.iconst 0, 1) := by decide +kernel
theorem dX5_isCorner_3 : decode cX5_isCorner 3 = .ok (.istore 4, 2) := by decide +kernel
theorem dX5_isCorner_5 : decode cX5_isCorner 5 = .ok (.iload 4, 2) := by decide +kernel
theorem dX5_isCorner_7 : decode cX5_isCorner 7 = .ok (.aload_n 0, 1) := by decide +kernel
theorem dX5_isCorner_8 : decode cX5_isCorner 8 = .ok (.getfield 51, 3) := by decide +kernel
theorem dX5_isCorner_11 : decode cX5_isCorner 11 = .ok (.if_icmp .ge 55, 3) := by decide +kernel
theorem dX5_isCorner_14 : decode cX5_isCorner 14 = .ok (.iload_n 3, 1) := by decide +kernel
theorem dX5_isCorner_15 : decode cX5_isCorner 15 = .ok (.iload_n 1, 1) := by decide +kernel
theorem dX5_isCorner_16 : decode cX5_isCorner 16 = .ok (.iload 4, 2) := by decide +kernel
theorem dX5_isCorner_18 : decode cX5_isCorner 18 = .ok (.ishr, 1) := by decide +kernel
theorem dX5_isCorner_19 : decode cX5_isCorner 19 = .ok (.iconst 1, 1) := by decide +kernel
theorem dX5_isCorner_20 : decode cX5_isCorner 20 = .ok (.iand, 1) := by decide +kernel
theorem dX5_isCorner_21 : decode cX5_isCorner 21 = .ok (.iconst 1, 1) := by decide +kernel
theorem dX5_isCorner_22 : decode cX5_isCorner 22 = .ok (.if_icmp .ne 21, 3) := by decide +kernel
theorem dX5_isCorner_25 : decode cX5_isCorner 25 = .ok (.aload_n 0, 1) := by decide +kernel
theorem dX5_isCorner_26 : decode cX5_isCorner 26 = .ok (.iload 4, 2) := by decide +kernel
theorem dX5_isCorner_28 : decode cX5_isCorner 28 = .ok (.iload_n 2, 1) := by decide +kernel
theorem dX5_isCorner_29 : decode cX5_isCorner 29 = .ok (.invokevirtual 89, 3) := by decide +kernel
theorem dX5_isCorner_32 : decode cX5_isCorner 32 = .ok (.ifCond .lt 7, 3) := by decide +kernel
theorem dX5_isCorner_35 : decode cX5_isCorner 35 = .ok (.iconst 1, 1) := by decide +kernel
theorem dX5_isCorner_36 : decode cX5_isCorner 36 = .ok (.goto 22, 3) := by decide +kernel
theorem dX5_isCorner_39 : decode cX5_isCorner 39 = .ok (.iconst 0, 1) := by decide +kernel
theorem dX5_isCorner_40 : decode cX5_isCorner 40 = .ok (.goto 18, 3) := by decide +kernel
theorem dX5_isCorner_43 : decode cX5_isCorner 43 = .ok (.aload_n 0, 1) := by decide +kernel
theorem dX5_isCorner_44 : decode cX5_isCorner 44 = .ok (.iload 4, 2) := by decide +kernel
theorem dX5_isCorner_46 : decode cX5_isCorner 46 = .ok (.iload_n 2, 1) := by decide +kernel
theorem dX5_isCorner_47 : decode cX5_isCorner 47 = .ok (.invokevirtual 89, 3) := by decide +kernel
theorem dX5_isCorner_50 : decode cX5_isCorner 50 = .ok (.ifCond .gt 7, 3) := by decide +kernel
theorem dX5_isCorner_53 : decode cX5_isCorner 53 = .ok (.iconst 1, 1) := by decide +kernel
theorem dX5_isCorner_54 : decode cX5_isCorner 54 = .ok (.goto 4, 3) := by decide +kernel
theorem dX5_isCorner_57 : decode cX5_isCorner 57 = .ok (.iconst 0, 1) := by decide +kernel
theorem dX5_isCorner_58 : decode cX5_isCorner 58 = .ok (.iand, 1) := by decide +kernel
theorem dX5_isCorner_59 : decode cX5_isCorner 59 = .ok (.istore_n 3, 1) := by decide +kernel
theorem dX5_isCorner_60 : decode cX5_isCorner 60 = .ok (.iinc 4 1, 3) := by decide +kernel
theorem dX5_isCorner_63 : decode cX5_isCorner 63 = .ok (.goto (-58), 3) := by decide +kernel
theorem dX5_isCorner_66 : decode cX5_isCorner 66 = .ok (.iload_n 3, 1) := by decide +kernel
theorem dX5_isCorner_67 : decode cX5_isCorner 67 = .ok (.ireturn, 1) := by decide +kernel
set_option maxRecDepth 20000 in
theorem ggX5_rooms_X5_findRooms : GoodIn wsX5_rooms wsX5_findRooms := goodIn_r _ [6, 7, 8, 9, 10, 11, 12, 13, 14, 15, 5, 16, 17, 18, 19, 20, 21, 22, 23, 24, 25, 26, 27, 28, 29, 30, 31, 32, 33, 34, 35, 36, 37, 42, 43, 44, 45, 46, 47, 48, 49, 50, 51, 52, 53, 54, 55, 56, 57, 58, 59, 60] (by decide +kernel) (by decide +kernel)
set_option maxRecDepth 20000 in
theorem gX5_rooms_X5_findRooms : GoodIn wsX5_rooms (wsV RX5 108 RX5 yX5_findRooms wsX5_findRooms) := goodIn_app (goodIn_of _ (by decide +kernel)) ggX5_rooms_X5_findRooms
set_option maxRecDepth 20000 in
theorem ggX5_rooms_X5_countRooms : GoodIn wsX5_rooms wsX5_countRooms := goodIn_r _ [41, 7, 42, 43, 44, 45, 46, 47, 48, 49, 50, 51, 52, 53, 54, 55, 56, 57, 58, 59, 60] (by decide +kernel) (by decide +kernel)
set_option maxRecDepth 20000 in
theorem gX5_rooms_X5_countRooms : GoodIn wsX5_rooms (wsV RX5 111 RX5 yX5_countRooms wsX5_countRooms) := goodIn_app (goodIn_of _ (by decide +kernel)) ggX5_rooms_X5_countRooms
theorem dX5_rooms_0 : decode cX5_rooms 0 = .ok (.aload_n 0, 1) := by decide +kernel
theorem dX5_rooms_1 : decode cX5_rooms 1 = .ok (.iconst 0, 1) := by decide +kernel
theorem dX5_rooms_2 : decode cX5_rooms 2 = .ok (.putfield 47, 3) := by decide +kernel
theorem dX5_rooms_5 : decode cX5_rooms 5 = .ok (.aload_n 0, 1) := by decide +kernel
theorem dX5_rooms_6 : decode cX5_rooms 6 = .ok (.invokevirtual 108, 3) := by decide +kernel
theorem dX5_rooms_9 : decode cX5_rooms 9 = .ok (.aload_n 0, 1) := by decide +kernel
theorem dX5_rooms_10 : decode cX5_rooms 10 = .ok (.invokevirtual 111, 3) := by decide +kernel
theorem dX5_rooms_13 : decode cX5_rooms 13 = .ok (.ireturn, 1) := by decide +kernel
set_option maxRecDepth 20000 in
theorem ggX5_bounded_X5_findRooms : GoodIn wsX5_bounded wsX5_findRooms := goodIn_r _ [7, 2, 8, 9, 10, 11, 12, 13, 14, 15, 6, 16, 17, 18, 19, 20, 21, 22, 23, 24, 25, 26, 27, 28, 29, 30, 31, 32, 33, 34, 35, 36, 37, 46, 47, 48, 49, 50, 51, 52, 53, 54, 55, 56, 57, 58, 59, 60, 61, 62, 63, 64] (by decide +kernel) (by decide +kernel)
set_option maxRecDepth 20000 in
theorem gX5_bounded_X5_findRooms : GoodIn wsX5_bounded (wsV RX5 108 RX5 yX5_findRooms wsX5_findRooms) := goodIn_app (goodIn_of _ (by decide +kernel)) ggX5_bounded_X5_findRooms
set_option maxRecDepth 20000 in
theorem ggX5_bounded_X5_isBounded : GoodIn wsX5_bounded wsX5_isBounded := goodIn_r _ [41, 8, 11, 10, 42, 43, 44, 6, 45, 46, 47, 48, 49, 50, 51, 52, 53, 54, 55, 56, 57, 58, 59, 60, 61, 62, 63, 64] (by decide +kernel) (by decide +kernel)
set_option maxRecDepth 20000 in
theorem gX5_bounded_X5_isBounded : GoodIn wsX5_bounded (wsV RX5 118 RX5 yX5_isBounded wsX5_isBounded) := goodIn_app (goodIn_of _ (by decide +kernel)) ggX5_bounded_X5_isBounded
theorem dX5_bounded_0 : decode cX5_bounded 0 = .ok (.aload_n 0, 1) := by decide +kernel
theorem dX5_bounded_1 : decode cX5_bounded 1 = .ok (.iconst 0, 1) := by decide +kernel
theorem dX5_bounded_2 : decode cX5_bounded 2 = .ok (.putfield 47, 3) := by decide +kernel
theorem dX5_bounded_5 : decode cX5_bounded 5 = .ok (.aload_n 0, 1) := by decide +kernel
theorem dX5_bounded_6 : decode cX5_bounded 6 = .ok (.invokevirtual 108, 3) := by decide +kernel
theorem dX5_bounded_9 : decode cX5_bounded 9 = .ok (.iconst 0, 1) := by decide +kernel
theorem dX5_bounded_10 : decode cX5_bounded 10 = .ok (.istore_n 1, 1) := by decide +kernel
theorem dX5_bounded_11 : decode cX5_bounded 11 = .ok (.iconst 0, 1) := by decide +kernel
theorem dX5_bounded_12 : decode cX5_bounded 12 = .ok (.istore_n 2, 1) := by decide +kernel
theorem dX5_bounded_13 : decode cX5_bounded 13 = .ok (.iload_n 2, 1) := by decide +kernel
theorem dX5_bounded_14 : decode cX5_bounded 14 = .ok (.sipush 512, 3) := by decide +kernel
theorem dX5_bounded_17 : decode cX5_bounded 17 = .ok (.if_icmp .ge 34, 3) := by decide +kernel
theorem dX5_bounded_20 : decode cX5_bounded 20 = .ok (.iload_n 1, 1) := by decide +kernel
theorem dX5_bounded_21 : decode cX5_bounded 21 = .ok (.aload_n 0, 1) := by decide +kernel
theorem dX5_bounded_22 : decode cX5_bounded 22 = .ok (.getfield 28, 3) := by decide +kernel
theorem dX5_bounded_25 : decode cX5_bounded 25 = .ok (.iload_n 2, 1) := by decide +kernel
theorem dX5_bounded_26 : decode cX5_bounded 26 = .ok (.baload, 1) := by decide +kernel
theorem dX5_bounded_27 : decode cX5_bounded 27 = .ok (.ifCond .eq 15, 3) := by decide +kernel
theorem dX5_bounded_30 : decode cX5_bounded 30 = .ok (.aload_n 0, 1) := by decide +kernel
theorem dX5_bounded_31 : decode cX5_bounded 31 = .ok (.iload_n 2, 1) := by decide +kernel
theorem dX5_bounded_32 : decode cX5_bounded 32 = .ok (.invokevirtual 118, 3) := by decide +kernel
theorem dX5_bounded_35 : decode cX5_bounded 35 = .ok (.ifCond .eq 7, 3) := by decide +kernel
theorem dX5_bounded_38 : decode cX5_bounded 38 = .ok (.iconst 1, 1) := by decide +kernel
theorem dX5_bounded_39 : decode cX5_bounded 39 = .ok (.goto 4, 3) := by decide +kernel
theorem dX5_bounded_42 : decode cX5_bounded 42 = .ok (.iconst 0, 1) := by decide +kernel
theorem dX5_bounded_43 : decode cX5_bounded 43 = .ok (.iadd, 1) := by decide +kernel
theorem dX5_bounded_44 : decode cX5_bounded 44 = .ok (.istore_n 1, 1) := by decide +kernel
theorem dX5_bounded_45 : decode cX5_bounded 45 = .ok (.iinc 2 1, 3) := by decide +kernel
theorem dX5_bounded_48 : decode cX5_bounded 48 = .ok (.goto (-35), 3) := by decide +kernel
theorem dX5_bounded_51 : decode cX5_bounded 51 = .ok (.iload_n 1, 1) := by decide +kernel
theorem dX5_bounded_52 : decode cX5_bounded 52 = .ok (.ireturn, 1) := by decide +kernel
set_option maxRecDepth 20000 in
theorem ggX5_room_X5_roomIs : GoodIn wsX5_room wsX5_roomIs := goodIn_r _ [8, 9, 10, 11, 7, 12, 2, 1, 3, 13, 14, 15, 16, 17, 18, 19, 20, 21, 22, 23, 24, 25, 26, 27, 28, 29, 30, 31, 32, 33, 34, 35, 36, 37, 38, 39, 40, 41, 42, 43, 44, 45, 46, 47, 69, 70, 71, 72, 73, 74, 75, 76, 77, 78, 79, 80, 81, 82, 83, 84, 85, 86, 87] (by decide +kernel) (by decide +kernel)
set_option maxRecDepth 20000 in
theorem gX5_room_X5_roomIs : GoodIn wsX5_room (wsV RX5 121 RX5 yX5_roomIs wsX5_roomIs) := goodIn_app (goodIn_of _ (by decide +kernel)) ggX5_room_X5_roomIs
set_option maxRecDepth 20000 in
theorem ggX5_room_X5_fails : GoodIn wsX5_room wsX5_fails := goodIn_r _ [51, 52, 69, 70, 71, 72, 73, 74, 75, 76, 77, 78, 79, 80, 81, 82, 83, 84, 85, 86, 87] (by decide +kernel) (by decide +kernel)
set_option maxRecDepth 20000 in
theorem gX5_room_X5_fails : GoodIn wsX5_room (wsV RX5 62 RX5 yX5_fails wsX5_fails) := goodIn_app (goodIn_of _ (by decide +kernel)) ggX5_room_X5_fails
set_option maxRecDepth 20000 in
theorem ggX5_room_X5_setOf : GoodIn wsX5_room wsX5_setOf := goodIn_r _ [56, 2, 69, 70, 71, 72, 73, 74, 75, 76, 77, 78, 79, 80, 81, 82, 83, 84, 85, 86, 87] (by decide +kernel) (by decide +kernel)
set_option maxRecDepth 20000 in
theorem gX5_room_X5_setOf : GoodIn wsX5_room (wsV RX5 124 RX5 yX5_setOf wsX5_setOf) := goodIn_app (goodIn_of _ (by decide +kernel)) ggX5_room_X5_setOf
set_option maxRecDepth 20000 in
theorem ggX5_room_X5_in : GoodIn wsX5_room wsX5_in := goodIn_r _ [47] (by decide +kernel) (by decide +kernel)
set_option maxRecDepth 20000 in
theorem gX5_room_X5_in : GoodIn wsX5_room (va_wsS RX5 54 yX5_in wsX5_in) := goodIn_app (goodIn_of _ (by decide +kernel)) ggX5_room_X5_in
set_option maxRecDepth 20000 in
theorem ggX5_room_X5_isBounded : GoodIn wsX5_room wsX5_isBounded := goodIn_r _ [60, 1, 14, 13, 61, 62, 63, 7, 64, 69, 70, 71, 72, 73, 74, 75, 76, 77, 78, 79, 80, 81, 82, 83, 84, 85, 86, 87] (by decide +kernel) (by decide +kernel)
set_option maxRecDepth 20000 in
theorem gX5_room_X5_isBounded : GoodIn wsX5_room (wsV RX5 118 RX5 yX5_isBounded wsX5_isBounded) := goodIn_app (goodIn_of _ (by decide +kernel)) ggX5_room_X5_isBounded
set_option maxRecDepth 20000 in
theorem ggX5_room_X5_isCorner : GoodIn wsX5_room wsX5_isCorner := goodIn_r _ [68, 1, 33, 34, 35, 7, 36, 13, 30, 14, 32, 15, 31, 23, 24, 25, 69, 70, 71, 72, 73, 74, 75, 76, 77, 78, 79, 80, 81, 82, 83, 84, 85, 86, 87] (by decide +kernel) (by decide +kernel)
set_option maxRecDepth 20000 in
theorem gX5_room_X5_isCorner : GoodIn wsX5_room (wsV RX5 127 RX5 yX5_isCorner wsX5_isCorner) := goodIn_app (goodIn_of _ (by decide +kernel)) ggX5_room_X5_isCorner
theorem dX5_room_0 : decode cX5_room 0 = .ok (.aload_n 0, 1) := by decide +kernel
theorem dX5_room_1 : decode cX5_room 1 = .ok (.aload_n 0, 1) := by decide +kernel
theorem dX5_room_2 : decode cX5_room 2 = .ok (.iload_n 1, 1) := by decide +kernel
theorem dX5_room_3 : decode cX5_room 3 = .ok (.invokevirtual 121, 3) := by decide +kernel
theorem dX5_room_6 : decode cX5_room 6 = .ok (.iconst 1, 1) := by decide +kernel
theorem dX5_room_7 : decode cX5_room 7 = .ok (.invokevirtual 62, 3) := by decide +kernel
theorem dX5_room_10 : decode cX5_room 10 = .ok (.ifCond .eq 5, 3) := by decide +kernel
theorem dX5_room_13 : decode cX5_room 13 = .ok (.iconst 0, 1) := by decide +kernel
theorem dX5_room_14 : decode cX5_room 14 = .ok (.ireturn, 1) := by decide +kernel
theorem dX5_room_15 : decode cX5_room 15 = .ok (.aload_n 0, 1) := by decide +kernel
theorem dX5_room_16 : decode cX5_room 16 = .ok (.iload_n 1, 1) := by decide +kernel
theorem dX5_room_17 : decode cX5_room 17 = .ok (.invokevirtual 124, 3) := by decide +kernel
theorem dX5_room_20 : decode cX5_room 20 = .ok (.istore_n 3, 1) := by decide +kernel
theorem dX5_room_21 : decode cX5_room 21 = .ok (.aload_n 0, 1) := by decide +kernel
theorem dX5_room_22 : decode cX5_room 22 = .ok (.iload_n 2, 1) := by decide +kernel
theorem dX5_room_23 : decode cX5_room 23 = .ok (.iconst 0, 1) := by decide +kernel
theorem dX5_room_24 : decode cX5_room 24 = .ok (.iconst 3, 1) := by decide +kernel
theorem dX5_room_25 : decode cX5_room 25 = .ok (.invokestatic 54, 3) := by decide +kernel
theorem dX5_room_28 : decode cX5_room 28 = .ok (.iconst 2, 1) := by decide +kernel
theorem dX5_room_29 : decode cX5_room 29 = .ok (.invokevirtual 62, 3) := by decide +kernel
theorem dX5_room_32 : decode cX5_room 32 = .ok (.ifCond .eq 5, 3) := by decide +kernel
theorem dX5_room_35 : decode cX5_room 35 = .ok (.iconst 0, 1) := by decide +kernel
theorem dX5_room_36 : decode cX5_room 36 = .ok (.ireturn, 1) := by decide +kernel
theorem dX5_room_37 : decode cX5_room 37 = .ok (.iload_n 2, 1) := by decide +kernel
theorem dX5_room_38 : decode cX5_room 38 = .ok (.iconst 2, 1) := by decide +kernel
theorem dX5_room_39 : decode cX5_room 39 = .ok (.if_icmp .ge 25, 3) := by decide +kernel
theorem dX5_room_42 : decode cX5_room 42 = .ok (.iload_n 2, 1) := by decide +kernel
theorem dX5_room_43 : decode cX5_room 43 = .ok (.ifCond .ne 7, 3) := by decide +kernel
theorem dX5_room_46 : decode cX5_room 46 = .ok (.iload_n 3, 1) := by decide +kernel
theorem dX5_room_47 : decode cX5_room 47 = .ok (.goto 16, 3) := by decide +kernel
theorem dX5_room_50 : decode cX5_room 50 = .ok (.aload_n 0, 1) := by decide +kernel
theorem dX5_room_51 : decode cX5_room 51 = .ok (.iload_n 3, 1) := by decide +kernel
theorem dX5_room_52 : decode cX5_room 52 = .ok (.invokevirtual 118, 3) := by decide +kernel
theorem dX5_room_55 : decode cX5_room 55 = .ok (.ifCond .eq 7, 3) := by decide +kernel
theorem dX5_room_58 : decode cX5_room 58 = .ok (.iconst 1, 1) := by decide +kernel
theorem dX5_room_59 : decode cX5_room 59 = .ok (.goto 4, 3) := by decide +kernel
theorem dX5_room_62 : decode cX5_room 62 = .ok (.iconst 0, 1) := by decide +kernel
theorem dX5_room_63 : decode cX5_room 63 = .ok (.ireturn, 1) := by decide +kernel
theorem dX5_room_64 : decode cX5_room 64 = .ok (.iconst 0, 1) := by decide +kernel
theorem dX5_room_65 : decode cX5_room 65 = .ok (.istore 4, 2) := by decide +kernel
theorem dX5_room_67 : decode cX5_room 67 = .ok (.iconst 0, 1) := by decide +kernel
theorem dX5_room_68 : decode cX5_room 68 = .ok (.istore 5, 2) := by decide +kernel
theorem dX5_room_70 : decode cX5_room 70 = .ok (.iload 5, 2) := by decide +kernel
theorem dX5_room_72 : decode cX5_room 72 = .ok (.aload_n 0, 1) := by decide +kernel
theorem dX5_room_73 : decode cX5_room 73 = .ok (.getfield 51, 3) := by decide +kernel
theorem dX5_room_76 : decode cX5_room 76 = .ok (.if_icmp .ge 36, 3) := by decide +kernel
theorem dX5_room_79 : decode cX5_room 79 = .ok (.iload 4, 2) := by decide +kernel
theorem dX5_room_81 : decode cX5_room 81 = .ok (.aload_n 0, 1) := by decide +kernel
theorem dX5_room_82 : decode cX5_room 82 = .ok (.getfield 28, 3) := by decide +kernel
theorem dX5_room_85 : decode cX5_room 85 = .ok (.iload_n 3, 1) := by decide +kernel
theorem dX5_room_86 : decode cX5_room 86 = .ok (.iconst 1, 1) := by decide +kernel
theorem dX5_room_87 : decode cX5_room 87 = .ok (.iload 5, 2) := by decide +kernel
theorem dX5_room_89 : decode cX5_room 89 = .ok (.ishl, 1) := by decide +kernel
theorem dX5_room_90 : decode cX5_room 90 = .ok (.ixor, 1) := by decide +kernel
theorem dX5_room_91 : decode cX5_room 91 = .ok (.baload, 1) := by decide +kernel
theorem dX5_room_92 : decode cX5_room 92 = .ok (.ifCond .eq 10, 3) := by decide +kernel
theorem dX5_room_95 : decode cX5_room 95 = .ok (.iconst 1, 1) := by decide +kernel
theorem dX5_room_96 : decode cX5_room 96 = .ok (.iload 5, 2) := by decide +kernel
theorem dX5_room_98 : decode cX5_room 98 = .ok (.ishl, 1) := by decide +kernel
theorem dX5_room_99 : decode cX5_room 99 = .ok (.goto 4, 3) := by decide +kernel
theorem dX5_room_102 : decode cX5_room 102 = .ok (.iconst 0, 1) := by decide +kernel
theorem dX5_room_103 : decode cX5_room 103 = .ok (.ior, 1) := by decide +kernel
theorem dX5_room_104 : decode cX5_room 104 = .ok (.istore 4, 2) := by decide +kernel
theorem dX5_room_106 : decode cX5_room 106 = .ok (.iinc 5 1, 3) := by decide +kernel
theorem dX5_room_109 : decode cX5_room 109 = .ok (.goto (-39), 3) := by decide +kernel
theorem dX5_room_112 : decode cX5_room 112 = .ok (.iconst 0, 1) := by decide +kernel
theorem dX5_room_113 : decode cX5_room 113 = .ok (.istore 5, 2) := by decide +kernel
theorem dX5_room_115 : decode cX5_room 115 = .ok (.iconst 0, 1) := by decide +kernel
theorem dX5_room_116 : decode cX5_room 116 = .ok (.istore 6, 2) := by decide +kernel
theorem dX5_room_118 : decode cX5_room 118 = .ok (.iload 6, 2) := by decide +kernel
theorem dX5_room_120 : decode cX5_room 120 = .ok (.aload_n 0, 1) := by decide +kernel
theorem dX5_room_121 : decode cX5_room 121 = .ok (.getfield 78, 3) := by decide +kernel
theorem dX5_room_124 : decode cX5_room 124 = .ok (.if_icmp .ge 29, 3) := by decide +kernel
theorem dX5_room_127 : decode cX5_room 127 = .ok (.iload 5, 2) := by decide +kernel
theorem dX5_room_129 : decode cX5_room 129 = .ok (.aload_n 0, 1) := by decide +kernel
theorem dX5_room_130 : decode cX5_room 130 = .ok (.iload_n 3, 1) := by decide +kernel
theorem dX5_room_131 : decode cX5_room 131 = .ok (.iload 6, 2) := by decide +kernel
theorem dX5_room_133 : decode cX5_room 133 = .ok (.invokevirtual 127, 3) := by decide +kernel
theorem dX5_room_136 : decode cX5_room 136 = .ok (.ifCond .eq 7, 3) := by decide +kernel
theorem dX5_room_139 : decode cX5_room 139 = .ok (.iconst 1, 1) := by decide +kernel
theorem dX5_room_140 : decode cX5_room 140 = .ok (.goto 4, 3) := by decide +kernel
theorem dX5_room_143 : decode cX5_room 143 = .ok (.iconst 0, 1) := by decide +kernel
theorem dX5_room_144 : decode cX5_room 144 = .ok (.iadd, 1) := by decide +kernel
theorem dX5_room_145 : decode cX5_room 145 = .ok (.istore 5, 2) := by decide +kernel
theorem dX5_room_147 : decode cX5_room 147 = .ok (.iinc 6 1, 3) := by decide +kernel
theorem dX5_room_150 : decode cX5_room 150 = .ok (.goto (-32), 3) := by decide +kernel
theorem dX5_room_153 : decode cX5_room 153 = .ok (.iload_n 2, 1) := by decide +kernel
theorem dX5_room_154 : decode cX5_room 154 = .ok (.iconst 2, 1) := by decide +kernel
theorem dX5_room_155 : decode cX5_room 155 = .ok (.if_icmp .ne 8, 3) := by decide +kernel
theorem dX5_room_158 : decode cX5_room 158 = .ok (.iload 4, 2) := by decide +kernel
theorem dX5_room_160 : decode cX5_room 160 = .ok (.goto 5, 3) := by decide +kernel
theorem dX5_room_163 : decode cX5_room 163 = .ok (.iload 5, 2) := by decide +kernel
theorem dX5_room_165 : decode cX5_room 165 = .ok (.ireturn, 1) := by decide +kernel
set_option maxRecDepth 20000 in
theorem ggX5_roomOf_X5_in : GoodIn wsX5_roomOf wsX5_in := goodIn_r _ [5] (by decide +kernel) (by decide +kernel)
set_option maxRecDepth 20000 in
theorem gX5_roomOf_X5_in : GoodIn wsX5_roomOf (va_wsS RX5 54 yX5_in wsX5_in) := goodIn_app (goodIn_of _ (by decide +kernel)) ggX5_roomOf_X5_in
set_option maxRecDepth 20000 in
theorem ggX5_roomOf_X5_fails : GoodIn wsX5_roomOf wsX5_fails := goodIn_r _ [9, 10, 49, 50, 51, 52, 53, 54, 55, 56, 57, 58, 59, 60, 61, 62, 63, 64, 65, 66, 67] (by decide +kernel) (by decide +kernel)
set_option maxRecDepth 20000 in
theorem gX5_roomOf_X5_fails : GoodIn wsX5_roomOf (wsV RX5 62 RX5 yX5_fails wsX5_fails) := goodIn_app (goodIn_of _ (by decide +kernel)) ggX5_roomOf_X5_fails
set_option maxRecDepth 20000 in
theorem ggX5_roomOf_X5_findRooms : GoodIn wsX5_roomOf wsX5_findRooms := goodIn_r _ [14, 1, 15, 16, 17, 18, 19, 20, 21, 22, 4, 23, 24, 25, 26, 27, 28, 29, 30, 31, 32, 33, 34, 35, 36, 37, 38, 39, 40, 41, 42, 43, 44, 49, 50, 51, 52, 53, 54, 55, 56, 57, 58, 59, 60, 61, 62, 63, 64, 65, 66, 67] (by decide +kernel) (by decide +kernel)
set_option maxRecDepth 20000 in
theorem gX5_roomOf_X5_findRooms : GoodIn wsX5_roomOf (wsV RX5 108 RX5 yX5_findRooms wsX5_findRooms) := goodIn_app (goodIn_of _ (by decide +kernel)) ggX5_roomOf_X5_findRooms
set_option maxRecDepth 20000 in
theorem ggX5_roomOf_X5_numberOf : GoodIn wsX5_roomOf wsX5_numberOf := goodIn_r _ [48, 1, 49, 50, 51, 52, 53, 54, 55, 56, 57, 58, 59, 60, 61, 62, 63, 64, 65, 66, 67] (by decide +kernel) (by decide +kernel)
set_option maxRecDepth 20000 in
theorem gX5_roomOf_X5_numberOf : GoodIn wsX5_roomOf (wsV RX5 131 RX5 yX5_numberOf wsX5_numberOf) := goodIn_app (goodIn_of _ (by decide +kernel)) ggX5_roomOf_X5_numberOf
theorem dX5_roomOf_0 : decode cX5_roomOf 0 = .ok (.aload_n 0, 1) := by decide +kernel
theorem dX5_roomOf_1 : decode cX5_roomOf 1 = .ok (.iload_n 1, 1) := by decide +kernel
theorem dX5_roomOf_2 : decode cX5_roomOf 2 = .ok (.iconst 0, 1) := by decide +kernel
theorem dX5_roomOf_3 : decode cX5_roomOf 3 = .ok (.sipush 511, 3) := by decide +kernel
theorem dX5_roomOf_6 : decode cX5_roomOf 6 = .ok (.invokestatic 54, 3) := by decide +kernel
theorem dX5_roomOf_9 : decode cX5_roomOf 9 = .ok (.iconst 1, 1) := by decide +kernel
theorem dX5_roomOf_10 : decode cX5_roomOf 10 = .ok (.invokevirtual 62, 3) := by decide +kernel
theorem dX5_roomOf_13 : decode cX5_roomOf 13 = .ok (.ifCond .eq 5, 3) := by decide +kernel
theorem dX5_roomOf_16 : decode cX5_roomOf 16 = .ok (.iconst 0, 1) := by decide +kernel
theorem dX5_roomOf_17 : decode cX5_roomOf 17 = .ok (.ireturn, 1) := by decide +kernel
theorem dX5_roomOf_18 : decode cX5_roomOf 18 = .ok (.aload_n 0, 1) := by decide +kernel
theorem dX5_roomOf_19 : decode cX5_roomOf 19 = .ok (.invokevirtual 108, 3) := by decide +kernel
theorem dX5_roomOf_22 : decode cX5_roomOf 22 = .ok (.aload_n 0, 1) := by decide +kernel
theorem dX5_roomOf_23 : decode cX5_roomOf 23 = .ok (.getfield 28, 3) := by decide +kernel
theorem dX5_roomOf_26 : decode cX5_roomOf 26 = .ok (.iload_n 1, 1) := by decide +kernel
theorem dX5_roomOf_27 : decode cX5_roomOf 27 = .ok (.baload, 1) := by decide +kernel
theorem dX5_roomOf_28 : decode cX5_roomOf 28 = .ok (.ifCond .eq 11, 3) := by decide +kernel
theorem dX5_roomOf_31 : decode cX5_roomOf 31 = .ok (.aload_n 0, 1) := by decide +kernel
theorem dX5_roomOf_32 : decode cX5_roomOf 32 = .ok (.iload_n 1, 1) := by decide +kernel
theorem dX5_roomOf_33 : decode cX5_roomOf 33 = .ok (.invokevirtual 131, 3) := by decide +kernel
theorem dX5_roomOf_36 : decode cX5_roomOf 36 = .ok (.goto 4, 3) := by decide +kernel
theorem dX5_roomOf_39 : decode cX5_roomOf 39 = .ok (.iconst (-1), 1) := by decide +kernel
theorem dX5_roomOf_40 : decode cX5_roomOf 40 = .ok (.ireturn, 1) := by decide +kernel
set_option maxRecDepth 20000 in
theorem ggX5_corner_X5_roomIs : GoodIn wsX5_corner wsX5_roomIs := goodIn_r _ [6, 7, 8, 9, 5, 10, 11, 12, 1, 13, 14, 15, 16, 17, 18, 19, 20, 21, 22, 23, 24, 25, 26, 27, 28, 29, 30, 31, 32, 33, 34, 35, 36, 37, 38, 39, 40, 41, 42, 43, 44, 45, 46, 47, 61, 62, 63, 64, 65, 66, 67, 68, 69, 70, 71, 72, 73, 74, 75, 76, 77, 78, 79] (by decide +kernel) (by decide +kernel)
set_option maxRecDepth 20000 in
theorem gX5_corner_X5_roomIs : GoodIn wsX5_corner (wsV RX5 121 RX5 yX5_roomIs wsX5_roomIs) := goodIn_app (goodIn_of _ (by decide +kernel)) ggX5_corner_X5_roomIs
set_option maxRecDepth 20000 in
theorem ggX5_corner_X5_fails : GoodIn wsX5_corner wsX5_fails := goodIn_r _ [51, 52, 61, 62, 63, 64, 65, 66, 67, 68, 69, 70, 71, 72, 73, 74, 75, 76, 77, 78, 79] (by decide +kernel) (by decide +kernel)
set_option maxRecDepth 20000 in
theorem gX5_corner_X5_fails : GoodIn wsX5_corner (wsV RX5 62 RX5 yX5_fails wsX5_fails) := goodIn_app (goodIn_of _ (by decide +kernel)) ggX5_corner_X5_fails
set_option maxRecDepth 20000 in
theorem ggX5_corner_X5_setOf : GoodIn wsX5_corner wsX5_setOf := goodIn_r _ [56, 11, 61, 62, 63, 64, 65, 66, 67, 68, 69, 70, 71, 72, 73, 74, 75, 76, 77, 78, 79] (by decide +kernel) (by decide +kernel)
set_option maxRecDepth 20000 in
theorem gX5_corner_X5_setOf : GoodIn wsX5_corner (wsV RX5 124 RX5 yX5_setOf wsX5_setOf) := goodIn_app (goodIn_of _ (by decide +kernel)) ggX5_corner_X5_setOf
set_option maxRecDepth 20000 in
theorem ggX5_corner_X5_isCorner : GoodIn wsX5_corner wsX5_isCorner := goodIn_r _ [60, 12, 33, 34, 35, 5, 36, 13, 30, 14, 32, 15, 31, 23, 24, 25, 61, 62, 63, 64, 65, 66, 67, 68, 69, 70, 71, 72, 73, 74, 75, 76, 77, 78, 79] (by decide +kernel) (by decide +kernel)
set_option maxRecDepth 20000 in
theorem gX5_corner_X5_isCorner : GoodIn wsX5_corner (wsV RX5 127 RX5 yX5_isCorner wsX5_isCorner) := goodIn_app (goodIn_of _ (by decide +kernel)) ggX5_corner_X5_isCorner
theorem dX5_corner_0 : decode cX5_corner 0 = .ok (.aload_n 0, 1) := by decide +kernel
theorem dX5_corner_1 : decode cX5_corner 1 = .ok (.aload_n 0, 1) := by decide +kernel
theorem dX5_corner_2 : decode cX5_corner 2 = .ok (.iload_n 1, 1) := by decide +kernel
theorem dX5_corner_3 : decode cX5_corner 3 = .ok (.invokevirtual 121, 3) := by decide +kernel
theorem dX5_corner_6 : decode cX5_corner 6 = .ok (.iconst 1, 1) := by decide +kernel
theorem dX5_corner_7 : decode cX5_corner 7 = .ok (.invokevirtual 62, 3) := by decide +kernel
theorem dX5_corner_10 : decode cX5_corner 10 = .ok (.ifCond .eq 5, 3) := by decide +kernel
theorem dX5_corner_13 : decode cX5_corner 13 = .ok (.iconst 0, 1) := by decide +kernel
theorem dX5_corner_14 : decode cX5_corner 14 = .ok (.ireturn, 1) := by decide +kernel
theorem dX5_corner_15 : decode cX5_corner 15 = .ok (.aload_n 0, 1) := by decide +kernel
theorem dX5_corner_16 : decode cX5_corner 16 = .ok (.iload_n 1, 1) := by decide +kernel
theorem dX5_corner_17 : decode cX5_corner 17 = .ok (.invokevirtual 124, 3) := by decide +kernel
theorem dX5_corner_20 : decode cX5_corner 20 = .ok (.istore_n 3, 1) := by decide +kernel
theorem dX5_corner_21 : decode cX5_corner 21 = .ok (.aload_n 0, 1) := by decide +kernel
theorem dX5_corner_22 : decode cX5_corner 22 = .ok (.iload_n 2, 1) := by decide +kernel
theorem dX5_corner_23 : decode cX5_corner 23 = .ok (.ifCond .lt 7, 3) := by decide +kernel
theorem dX5_corner_26 : decode cX5_corner 26 = .ok (.iconst 1, 1) := by decide +kernel
theorem dX5_corner_27 : decode cX5_corner 27 = .ok (.goto 4, 3) := by decide +kernel
theorem dX5_corner_30 : decode cX5_corner 30 = .ok (.iconst 0, 1) := by decide +kernel
theorem dX5_corner_31 : decode cX5_corner 31 = .ok (.iconst 1, 1) := by decide +kernel
theorem dX5_corner_32 : decode cX5_corner 32 = .ok (.invokevirtual 62, 3) := by decide +kernel
theorem dX5_corner_35 : decode cX5_corner 35 = .ok (.ifCond .eq 5, 3) := by decide +kernel
theorem dX5_corner_38 : decode cX5_corner 38 = .ok (.iconst 0, 1) := by decide +kernel
theorem dX5_corner_39 : decode cX5_corner 39 = .ok (.ireturn, 1) := by decide +kernel
theorem dX5_corner_40 : decode cX5_corner 40 = .ok (.iload_n 2, 1) := by decide +kernel
theorem dX5_corner_41 : decode cX5_corner 41 = .ok (.istore 4, 2) := by decide +kernel
theorem dX5_corner_43 : decode cX5_corner 43 = .ok (.iconst 0, 1) := by decide +kernel
theorem dX5_corner_44 : decode cX5_corner 44 = .ok (.istore 5, 2) := by decide +kernel
theorem dX5_corner_46 : decode cX5_corner 46 = .ok (.iload 5, 2) := by decide +kernel
theorem dX5_corner_48 : decode cX5_corner 48 = .ok (.aload_n 0, 1) := by decide +kernel
theorem dX5_corner_49 : decode cX5_corner 49 = .ok (.getfield 78, 3) := by decide +kernel
theorem dX5_corner_52 : decode cX5_corner 52 = .ok (.if_icmp .ge 30, 3) := by decide +kernel
theorem dX5_corner_55 : decode cX5_corner 55 = .ok (.aload_n 0, 1) := by decide +kernel
theorem dX5_corner_56 : decode cX5_corner 56 = .ok (.iload_n 3, 1) := by decide +kernel
theorem dX5_corner_57 : decode cX5_corner 57 = .ok (.iload 5, 2) := by decide +kernel
theorem dX5_corner_59 : decode cX5_corner 59 = .ok (.invokevirtual 127, 3) := by decide +kernel
theorem dX5_corner_62 : decode cX5_corner 62 = .ok (.ifCond .eq 14, 3) := by decide +kernel
theorem dX5_corner_65 : decode cX5_corner 65 = .ok (.iload 4, 2) := by decide +kernel
theorem dX5_corner_67 : decode cX5_corner 67 = .ok (.ifCond .ne 6, 3) := by decide +kernel
theorem dX5_corner_70 : decode cX5_corner 70 = .ok (.iload 5, 2) := by decide +kernel
theorem dX5_corner_72 : decode cX5_corner 72 = .ok (.ireturn, 1) := by decide +kernel
theorem dX5_corner_73 : decode cX5_corner 73 = .ok (.iinc 4 (-1), 3) := by decide +kernel
theorem dX5_corner_76 : decode cX5_corner 76 = .ok (.iinc 5 1, 3) := by decide +kernel
theorem dX5_corner_79 : decode cX5_corner 79 = .ok (.goto (-33), 3) := by decide +kernel
theorem dX5_corner_82 : decode cX5_corner 82 = .ok (.iconst (-1), 1) := by decide +kernel
theorem dX5_corner_83 : decode cX5_corner 83 = .ok (.ireturn, 1) := by decide +kernel
theorem dX5_findWays_0 : decode cX5_findWays 0 = .ok (.iconst 0, 1) := by decide +kernel
theorem dX5_findWays_1 : decode cX5_findWays 1 = .ok (.istore_n 3, 1) := by decide +kernel
theorem dX5_findWays_2 : decode cX5_findWays 2 = .ok (.iload_n 3, 1) := by decide +kernel
theorem dX5_findWays_3 : decode cX5_findWays 3 = .ok (.sipush 512, 3) := by decide +kernel
theorem dX5_findWays_6 : decode cX5_findWays 6 = .ok (.if_icmp .ge 112, 3) := by decide +kernel
theorem dX5_findWays_9 : decode cX5_findWays 9 = .ok (.aload_n 0, 1) := by decide +kernel
theorem dX5_findWays_10 : decode cX5_findWays 10 = .ok (.getfield 32, 3) := by decide +kernel
theorem dX5_findWays_13 : decode cX5_findWays 13 = .ok (.iload_n 3, 1) := by decide +kernel
theorem dX5_findWays_14 : decode cX5_findWays 14 = .ok (.iload_n 3, 1) := by decide +kernel
theorem dX5_findWays_15 : decode cX5_findWays 15 = .ok (.ifCond .ne 7, 3) := by decide +kernel
theorem dX5_findWays_18 : decode cX5_findWays 18 = .ok (.iconst 1, 1) := by decide +kernel
theorem dX5_findWays_19 : decode cX5_findWays 19 = .ok (.goto 4, 3) := by decide +kernel
theorem dX5_findWays_22 : decode cX5_findWays 22 = .ok (.iconst 0, 1) := by decide +kernel
theorem dX5_findWays_23 : decode cX5_findWays 23 = .ok (.iastore, 1) := by decide +kernel
theorem dX5_findWays_24 : decode cX5_findWays 24 = .ok (.iconst 0, 1) := by decide +kernel
theorem dX5_findWays_25 : decode cX5_findWays 25 = .ok (.istore 4, 2) := by decide +kernel
theorem dX5_findWays_27 : decode cX5_findWays 27 = .ok (.iload 4, 2) := by decide +kernel
theorem dX5_findWays_29 : decode cX5_findWays 29 = .ok (.aload_n 0, 1) := by decide +kernel
theorem dX5_findWays_30 : decode cX5_findWays 30 = .ok (.getfield 51, 3) := by decide +kernel
theorem dX5_findWays_33 : decode cX5_findWays 33 = .ok (.if_icmp .ge 79, 3) := by decide +kernel
theorem dX5_findWays_36 : decode cX5_findWays 36 = .ok (.iload_n 3, 1) := by decide +kernel
theorem dX5_findWays_37 : decode cX5_findWays 37 = .ok (.iload_n 2, 1) := by decide +kernel
theorem dX5_findWays_38 : decode cX5_findWays 38 = .ok (.iconst (-1), 1) := by decide +kernel
theorem dX5_findWays_39 : decode cX5_findWays 39 = .ok (.ixor, 1) := by decide +kernel
theorem dX5_findWays_40 : decode cX5_findWays 40 = .ok (.iand, 1) := by decide +kernel
theorem dX5_findWays_41 : decode cX5_findWays 41 = .ok (.ifCond .ne 71, 3) := by decide +kernel
theorem dX5_findWays_44 : decode cX5_findWays 44 = .ok (.iload_n 3, 1) := by decide +kernel
theorem dX5_findWays_45 : decode cX5_findWays 45 = .ok (.iload 4, 2) := by decide +kernel
theorem dX5_findWays_47 : decode cX5_findWays 47 = .ok (.ishr, 1) := by decide +kernel
theorem dX5_findWays_48 : decode cX5_findWays 48 = .ok (.iconst 1, 1) := by decide +kernel
theorem dX5_findWays_49 : decode cX5_findWays 49 = .ok (.iand, 1) := by decide +kernel
theorem dX5_findWays_50 : decode cX5_findWays 50 = .ok (.iconst 1, 1) := by decide +kernel
theorem dX5_findWays_51 : decode cX5_findWays 51 = .ok (.if_icmp .ne 23, 3) := by decide +kernel
theorem dX5_findWays_54 : decode cX5_findWays 54 = .ok (.aload_n 0, 1) := by decide +kernel
theorem dX5_findWays_55 : decode cX5_findWays 55 = .ok (.getfield 28, 3) := by decide +kernel
theorem dX5_findWays_58 : decode cX5_findWays 58 = .ok (.iload_n 1, 1) := by decide +kernel
theorem dX5_findWays_59 : decode cX5_findWays 59 = .ok (.iload_n 3, 1) := by decide +kernel
theorem dX5_findWays_60 : decode cX5_findWays 60 = .ok (.ixor, 1) := by decide +kernel
theorem dX5_findWays_61 : decode cX5_findWays 61 = .ok (.iconst 1, 1) := by decide +kernel
theorem dX5_findWays_62 : decode cX5_findWays 62 = .ok (.iload 4, 2) := by decide +kernel
theorem dX5_findWays_64 : decode cX5_findWays 64 = .ok (.ishl, 1) := by decide +kernel
theorem dX5_findWays_65 : decode cX5_findWays 65 = .ok (.ixor, 1) := by decide +kernel
theorem dX5_findWays_66 : decode cX5_findWays 66 = .ok (.baload, 1) := by decide +kernel
theorem dX5_findWays_67 : decode cX5_findWays 67 = .ok (.ifCond .eq 7, 3) := by decide +kernel
theorem dX5_findWays_70 : decode cX5_findWays 70 = .ok (.iconst 1, 1) := by decide +kernel
theorem dX5_findWays_71 : decode cX5_findWays 71 = .ok (.goto 4, 3) := by decide +kernel
theorem dX5_findWays_74 : decode cX5_findWays 74 = .ok (.iconst 0, 1) := by decide +kernel
theorem dX5_findWays_75 : decode cX5_findWays 75 = .ok (.istore 5, 2) := by decide +kernel
theorem dX5_findWays_77 : decode cX5_findWays 77 = .ok (.aload_n 0, 1) := by decide +kernel
theorem dX5_findWays_78 : decode cX5_findWays 78 = .ok (.getfield 32, 3) := by decide +kernel
theorem dX5_findWays_81 : decode cX5_findWays 81 = .ok (.iload_n 3, 1) := by decide +kernel
theorem dX5_findWays_82 : decode cX5_findWays 82 = .ok (.dup2, 1) := by decide +kernel
theorem dX5_findWays_83 : decode cX5_findWays 83 = .ok (.iaload, 1) := by decide +kernel
theorem dX5_findWays_84 : decode cX5_findWays 84 = .ok (.iload 5, 2) := by decide +kernel
theorem dX5_findWays_86 : decode cX5_findWays 86 = .ok (.ifCond .eq 17, 3) := by decide +kernel
theorem dX5_findWays_89 : decode cX5_findWays 89 = .ok (.aload_n 0, 1) := by decide +kernel
theorem dX5_findWays_90 : decode cX5_findWays 90 = .ok (.getfield 32, 3) := by decide +kernel
theorem dX5_findWays_93 : decode cX5_findWays 93 = .ok (.iload_n 3, 1) := by decide +kernel
theorem dX5_findWays_94 : decode cX5_findWays 94 = .ok (.iconst 1, 1) := by decide +kernel
theorem dX5_findWays_95 : decode cX5_findWays 95 = .ok (.iload 4, 2) := by decide +kernel
theorem dX5_findWays_97 : decode cX5_findWays 97 = .ok (.ishl, 1) := by decide +kernel
theorem dX5_findWays_98 : decode cX5_findWays 98 = .ok (.ixor, 1) := by decide +kernel
theorem dX5_findWays_99 : decode cX5_findWays 99 = .ok (.iaload, 1) := by decide +kernel
theorem dX5_findWays_100 : decode cX5_findWays 100 = .ok (.goto 4, 3) := by decide +kernel
theorem dX5_findWays_103 : decode cX5_findWays 103 = .ok (.iconst 0, 1) := by decide +kernel
theorem dX5_findWays_104 : decode cX5_findWays 104 = .ok (.iadd, 1) := by decide +kernel
theorem dX5_findWays_105 : decode cX5_findWays 105 = .ok (.iastore, 1) := by decide +kernel
theorem dX5_findWays_106 : decode cX5_findWays 106 = .ok (.iinc 4 1, 3) := by decide +kernel
theorem dX5_findWays_109 : decode cX5_findWays 109 = .ok (.goto (-82), 3) := by decide +kernel
theorem dX5_findWays_112 : decode cX5_findWays 112 = .ok (.iinc 3 1, 3) := by decide +kernel
theorem dX5_findWays_115 : decode cX5_findWays 115 = .ok (.goto (-113), 3) := by decide +kernel
theorem dX5_findWays_118 : decode cX5_findWays 118 = .ok (.return_, 1) := by decide +kernel
set_option maxRecDepth 20000 in
theorem ggX5_galleries_X5_roomIs : GoodIn wsX5_galleries wsX5_roomIs := goodIn_r _ [6, 7, 8, 9, 5, 10, 11, 12, 13, 14, 15, 16, 17, 18, 19, 20, 21, 22, 23, 24, 25, 26, 27, 28, 29, 30, 31, 32, 33, 34, 35, 36, 37, 38, 39, 40, 41, 42, 43, 44, 45, 46, 47, 48, 62, 63, 64, 65, 66, 67, 68, 69, 70, 71, 72, 73, 74, 75, 76, 77, 78, 79, 80] (by decide +kernel) (by decide +kernel)
set_option maxRecDepth 20000 in
theorem gX5_galleries_X5_roomIs : GoodIn wsX5_galleries (wsV RX5 121 RX5 yX5_roomIs wsX5_roomIs) := goodIn_app (goodIn_of _ (by decide +kernel)) ggX5_galleries_X5_roomIs
set_option maxRecDepth 20000 in
theorem ggX5_galleries_X5_fails : GoodIn wsX5_galleries wsX5_fails := goodIn_r _ [52, 53, 62, 63, 64, 65, 66, 67, 68, 69, 70, 71, 72, 73, 74, 75, 76, 77, 78, 79, 80] (by decide +kernel) (by decide +kernel)
set_option maxRecDepth 20000 in
theorem gX5_galleries_X5_fails : GoodIn wsX5_galleries (wsV RX5 62 RX5 yX5_fails wsX5_fails) := goodIn_app (goodIn_of _ (by decide +kernel)) ggX5_galleries_X5_fails
set_option maxRecDepth 20000 in
theorem ggX5_galleries_X5_setOf : GoodIn wsX5_galleries wsX5_setOf := goodIn_r _ [57, 11, 62, 63, 64, 65, 66, 67, 68, 69, 70, 71, 72, 73, 74, 75, 76, 77, 78, 79, 80] (by decide +kernel) (by decide +kernel)
set_option maxRecDepth 20000 in
theorem gX5_galleries_X5_setOf : GoodIn wsX5_galleries (wsV RX5 124 RX5 yX5_setOf wsX5_setOf) := goodIn_app (goodIn_of _ (by decide +kernel)) ggX5_galleries_X5_setOf
set_option maxRecDepth 20000 in
theorem ggX5_galleries_X5_findWays : GoodIn wsX5_galleries wsX5_findWays := goodIn_r _ [61, 1, 12, 11, 62, 63, 64, 65, 66, 67, 68, 69, 70, 71, 72, 73, 74, 75, 76, 77, 78, 79, 80] (by decide +kernel) (by decide +kernel)
set_option maxRecDepth 20000 in
theorem gX5_galleries_X5_findWays : GoodIn wsX5_galleries (wsV RX5 134 RX5 yX5_findWays wsX5_findWays) := goodIn_app (goodIn_of _ (by decide +kernel)) ggX5_galleries_X5_findWays
theorem dX5_galleries_0 : decode cX5_galleries 0 = .ok (.aload_n 0, 1) := by decide +kernel
theorem dX5_galleries_1 : decode cX5_galleries 1 = .ok (.aload_n 0, 1) := by decide +kernel
theorem dX5_galleries_2 : decode cX5_galleries 2 = .ok (.iload_n 1, 1) := by decide +kernel
theorem dX5_galleries_3 : decode cX5_galleries 3 = .ok (.invokevirtual 121, 3) := by decide +kernel
theorem dX5_galleries_6 : decode cX5_galleries 6 = .ok (.ifCond .eq 15, 3) := by decide +kernel
theorem dX5_galleries_9 : decode cX5_galleries 9 = .ok (.aload_n 0, 1) := by decide +kernel
theorem dX5_galleries_10 : decode cX5_galleries 10 = .ok (.iload_n 2, 1) := by decide +kernel
theorem dX5_galleries_11 : decode cX5_galleries 11 = .ok (.invokevirtual 121, 3) := by decide +kernel
theorem dX5_galleries_14 : decode cX5_galleries 14 = .ok (.ifCond .eq 7, 3) := by decide +kernel
theorem dX5_galleries_17 : decode cX5_galleries 17 = .ok (.iconst 1, 1) := by decide +kernel
theorem dX5_galleries_18 : decode cX5_galleries 18 = .ok (.goto 4, 3) := by decide +kernel
theorem dX5_galleries_21 : decode cX5_galleries 21 = .ok (.iconst 0, 1) := by decide +kernel
theorem dX5_galleries_22 : decode cX5_galleries 22 = .ok (.iconst 1, 1) := by decide +kernel
theorem dX5_galleries_23 : decode cX5_galleries 23 = .ok (.invokevirtual 62, 3) := by decide +kernel
theorem dX5_galleries_26 : decode cX5_galleries 26 = .ok (.ifCond .eq 5, 3) := by decide +kernel
theorem dX5_galleries_29 : decode cX5_galleries 29 = .ok (.iconst 0, 1) := by decide +kernel
theorem dX5_galleries_30 : decode cX5_galleries 30 = .ok (.ireturn, 1) := by decide +kernel
theorem dX5_galleries_31 : decode cX5_galleries 31 = .ok (.aload_n 0, 1) := by decide +kernel
theorem dX5_galleries_32 : decode cX5_galleries 32 = .ok (.iload_n 1, 1) := by decide +kernel
theorem dX5_galleries_33 : decode cX5_galleries 33 = .ok (.invokevirtual 124, 3) := by decide +kernel
theorem dX5_galleries_36 : decode cX5_galleries 36 = .ok (.istore_n 3, 1) := by decide +kernel
theorem dX5_galleries_37 : decode cX5_galleries 37 = .ok (.aload_n 0, 1) := by decide +kernel
theorem dX5_galleries_38 : decode cX5_galleries 38 = .ok (.iload_n 2, 1) := by decide +kernel
theorem dX5_galleries_39 : decode cX5_galleries 39 = .ok (.invokevirtual 124, 3) := by decide +kernel
theorem dX5_galleries_42 : decode cX5_galleries 42 = .ok (.istore 4, 2) := by decide +kernel
theorem dX5_galleries_44 : decode cX5_galleries 44 = .ok (.aload_n 0, 1) := by decide +kernel
theorem dX5_galleries_45 : decode cX5_galleries 45 = .ok (.iload 4, 2) := by decide +kernel
theorem dX5_galleries_47 : decode cX5_galleries 47 = .ok (.iload_n 3, 1) := by decide +kernel
theorem dX5_galleries_48 : decode cX5_galleries 48 = .ok (.iload 4, 2) := by decide +kernel
theorem dX5_galleries_50 : decode cX5_galleries 50 = .ok (.ixor, 1) := by decide +kernel
theorem dX5_galleries_51 : decode cX5_galleries 51 = .ok (.invokevirtual 134, 3) := by decide +kernel
theorem dX5_galleries_54 : decode cX5_galleries 54 = .ok (.aload_n 0, 1) := by decide +kernel
theorem dX5_galleries_55 : decode cX5_galleries 55 = .ok (.getfield 32, 3) := by decide +kernel
theorem dX5_galleries_58 : decode cX5_galleries 58 = .ok (.iload_n 3, 1) := by decide +kernel
theorem dX5_galleries_59 : decode cX5_galleries 59 = .ok (.iload 4, 2) := by decide +kernel
theorem dX5_galleries_61 : decode cX5_galleries 61 = .ok (.ixor, 1) := by decide +kernel
theorem dX5_galleries_62 : decode cX5_galleries 62 = .ok (.iaload, 1) := by decide +kernel
theorem dX5_galleries_63 : decode cX5_galleries 63 = .ok (.ireturn, 1) := by decide +kernel
set_option maxRecDepth 20000 in
theorem ggX5_gallery_X5_roomIs : GoodIn wsX5_gallery wsX5_roomIs := goodIn_r _ [8, 9, 10, 11, 7, 12, 2, 1, 13, 14, 15, 16, 17, 18, 19, 20, 21, 22, 23, 24, 25, 26, 27, 28, 29, 30, 31, 32, 33, 34, 35, 36, 37, 38, 39, 40, 41, 42, 43, 44, 45, 46, 47, 48, 66, 67, 68, 69, 70, 71, 72, 73, 74, 75, 76, 77, 78, 79, 80, 81, 82, 83, 84] (by decide +kernel) (by decide +kernel)
set_option maxRecDepth 20000 in
theorem gX5_gallery_X5_roomIs : GoodIn wsX5_gallery (wsV RX5 121 RX5 yX5_roomIs wsX5_roomIs) := goodIn_app (goodIn_of _ (by decide +kernel)) ggX5_gallery_X5_roomIs
set_option maxRecDepth 20000 in
theorem ggX5_gallery_X5_fails : GoodIn wsX5_gallery wsX5_fails := goodIn_r _ [52, 53, 66, 67, 68, 69, 70, 71, 72, 73, 74, 75, 76, 77, 78, 79, 80, 81, 82, 83, 84] (by decide +kernel) (by decide +kernel)
set_option maxRecDepth 20000 in
theorem gX5_gallery_X5_fails : GoodIn wsX5_gallery (wsV RX5 62 RX5 yX5_fails wsX5_fails) := goodIn_app (goodIn_of _ (by decide +kernel)) ggX5_gallery_X5_fails
set_option maxRecDepth 20000 in
theorem ggX5_gallery_X5_setOf : GoodIn wsX5_gallery wsX5_setOf := goodIn_r _ [57, 2, 66, 67, 68, 69, 70, 71, 72, 73, 74, 75, 76, 77, 78, 79, 80, 81, 82, 83, 84] (by decide +kernel) (by decide +kernel)
set_option maxRecDepth 20000 in
theorem gX5_gallery_X5_setOf : GoodIn wsX5_gallery (wsV RX5 124 RX5 yX5_setOf wsX5_setOf) := goodIn_app (goodIn_of _ (by decide +kernel)) ggX5_gallery_X5_setOf
set_option maxRecDepth 20000 in
theorem ggX5_gallery_X5_findWays : GoodIn wsX5_gallery wsX5_findWays := goodIn_r _ [61, 3, 1, 2, 66, 67, 68, 69, 70, 71, 72, 73, 74, 75, 76, 77, 78, 79, 80, 81, 82, 83, 84] (by decide +kernel) (by decide +kernel)
set_option maxRecDepth 20000 in
theorem gX5_gallery_X5_findWays : GoodIn wsX5_gallery (wsV RX5 134 RX5 yX5_findWays wsX5_findWays) := goodIn_app (goodIn_of _ (by decide +kernel)) ggX5_gallery_X5_findWays
set_option maxRecDepth 20000 in
theorem ggX5_gallery_X5_numberOf : GoodIn wsX5_gallery wsX5_numberOf := goodIn_r _ [65, 2, 66, 67, 68, 69, 70, 71, 72, 73, 74, 75, 76, 77, 78, 79, 80, 81, 82, 83, 84] (by decide +kernel) (by decide +kernel)
set_option maxRecDepth 20000 in
theorem gX5_gallery_X5_numberOf : GoodIn wsX5_gallery (wsV RX5 131 RX5 yX5_numberOf wsX5_numberOf) := goodIn_app (goodIn_of _ (by decide +kernel)) ggX5_gallery_X5_numberOf
theorem dX5_gallery_0 : decode cX5_gallery 0 = .ok (.aload_n 0, 1) := by decide +kernel
theorem dX5_gallery_1 : decode cX5_gallery 1 = .ok (.aload_n 0, 1) := by decide +kernel
theorem dX5_gallery_2 : decode cX5_gallery 2 = .ok (.iload_n 1, 1) := by decide +kernel
theorem dX5_gallery_3 : decode cX5_gallery 3 = .ok (.invokevirtual 121, 3) := by decide +kernel
theorem dX5_gallery_6 : decode cX5_gallery 6 = .ok (.ifCond .eq 15, 3) := by decide +kernel
theorem dX5_gallery_9 : decode cX5_gallery 9 = .ok (.aload_n 0, 1) := by decide +kernel
theorem dX5_gallery_10 : decode cX5_gallery 10 = .ok (.iload_n 2, 1) := by decide +kernel
theorem dX5_gallery_11 : decode cX5_gallery 11 = .ok (.invokevirtual 121, 3) := by decide +kernel
theorem dX5_gallery_14 : decode cX5_gallery 14 = .ok (.ifCond .eq 7, 3) := by decide +kernel
theorem dX5_gallery_17 : decode cX5_gallery 17 = .ok (.iconst 1, 1) := by decide +kernel
theorem dX5_gallery_18 : decode cX5_gallery 18 = .ok (.goto 4, 3) := by decide +kernel
theorem dX5_gallery_21 : decode cX5_gallery 21 = .ok (.iconst 0, 1) := by decide +kernel
theorem dX5_gallery_22 : decode cX5_gallery 22 = .ok (.iconst 1, 1) := by decide +kernel
theorem dX5_gallery_23 : decode cX5_gallery 23 = .ok (.invokevirtual 62, 3) := by decide +kernel
theorem dX5_gallery_26 : decode cX5_gallery 26 = .ok (.ifCond .eq 5, 3) := by decide +kernel
theorem dX5_gallery_29 : decode cX5_gallery 29 = .ok (.iconst 0, 1) := by decide +kernel
theorem dX5_gallery_30 : decode cX5_gallery 30 = .ok (.ireturn, 1) := by decide +kernel
theorem dX5_gallery_31 : decode cX5_gallery 31 = .ok (.aload_n 0, 1) := by decide +kernel
theorem dX5_gallery_32 : decode cX5_gallery 32 = .ok (.iload_n 1, 1) := by decide +kernel
theorem dX5_gallery_33 : decode cX5_gallery 33 = .ok (.invokevirtual 124, 3) := by decide +kernel
theorem dX5_gallery_36 : decode cX5_gallery 36 = .ok (.istore 4, 2) := by decide +kernel
theorem dX5_gallery_38 : decode cX5_gallery 38 = .ok (.aload_n 0, 1) := by decide +kernel
theorem dX5_gallery_39 : decode cX5_gallery 39 = .ok (.iload_n 2, 1) := by decide +kernel
theorem dX5_gallery_40 : decode cX5_gallery 40 = .ok (.invokevirtual 124, 3) := by decide +kernel
theorem dX5_gallery_43 : decode cX5_gallery 43 = .ok (.istore 5, 2) := by decide +kernel
theorem dX5_gallery_45 : decode cX5_gallery 45 = .ok (.aload_n 0, 1) := by decide +kernel
theorem dX5_gallery_46 : decode cX5_gallery 46 = .ok (.iload_n 3, 1) := by decide +kernel
theorem dX5_gallery_47 : decode cX5_gallery 47 = .ok (.ifCond .lt 7, 3) := by decide +kernel
theorem dX5_gallery_50 : decode cX5_gallery 50 = .ok (.iconst 1, 1) := by decide +kernel
theorem dX5_gallery_51 : decode cX5_gallery 51 = .ok (.goto 4, 3) := by decide +kernel
theorem dX5_gallery_54 : decode cX5_gallery 54 = .ok (.iconst 0, 1) := by decide +kernel
theorem dX5_gallery_55 : decode cX5_gallery 55 = .ok (.iconst 1, 1) := by decide +kernel
theorem dX5_gallery_56 : decode cX5_gallery 56 = .ok (.invokevirtual 62, 3) := by decide +kernel
theorem dX5_gallery_59 : decode cX5_gallery 59 = .ok (.ifCond .eq 5, 3) := by decide +kernel
theorem dX5_gallery_62 : decode cX5_gallery 62 = .ok (.iconst 0, 1) := by decide +kernel
theorem dX5_gallery_63 : decode cX5_gallery 63 = .ok (.ireturn, 1) := by decide +kernel
theorem dX5_gallery_64 : decode cX5_gallery 64 = .ok (.aload_n 0, 1) := by decide +kernel
theorem dX5_gallery_65 : decode cX5_gallery 65 = .ok (.iload 5, 2) := by decide +kernel
theorem dX5_gallery_67 : decode cX5_gallery 67 = .ok (.iload 4, 2) := by decide +kernel
theorem dX5_gallery_69 : decode cX5_gallery 69 = .ok (.iload 5, 2) := by decide +kernel
theorem dX5_gallery_71 : decode cX5_gallery 71 = .ok (.ixor, 1) := by decide +kernel
theorem dX5_gallery_72 : decode cX5_gallery 72 = .ok (.invokevirtual 134, 3) := by decide +kernel
theorem dX5_gallery_75 : decode cX5_gallery 75 = .ok (.iconst 0, 1) := by decide +kernel
theorem dX5_gallery_76 : decode cX5_gallery 76 = .ok (.istore 6, 2) := by decide +kernel
theorem dX5_gallery_78 : decode cX5_gallery 78 = .ok (.iload 6, 2) := by decide +kernel
theorem dX5_gallery_80 : decode cX5_gallery 80 = .ok (.iload_n 3, 1) := by decide +kernel
theorem dX5_gallery_81 : decode cX5_gallery 81 = .ok (.if_icmp .ge 116, 3) := by decide +kernel
theorem dX5_gallery_84 : decode cX5_gallery 84 = .ok (.iconst (-1), 1) := by decide +kernel
theorem dX5_gallery_85 : decode cX5_gallery 85 = .ok (.istore 7, 2) := by decide +kernel
theorem dX5_gallery_87 : decode cX5_gallery 87 = .ok (.aload_n 0, 1) := by decide +kernel
theorem dX5_gallery_88 : decode cX5_gallery 88 = .ok (.getfield 51, 3) := by decide +kernel
theorem dX5_gallery_91 : decode cX5_gallery 91 = .ok (.iconst 1, 1) := by decide +kernel
theorem dX5_gallery_92 : decode cX5_gallery 92 = .ok (.isub, 1) := by decide +kernel
theorem dX5_gallery_93 : decode cX5_gallery 93 = .ok (.istore 8, 2) := by decide +kernel
theorem dX5_gallery_95 : decode cX5_gallery 95 = .ok (.iload 8, 2) := by decide +kernel
theorem dX5_gallery_97 : decode cX5_gallery 97 = .ok (.ifCond .lt 77, 3) := by decide +kernel
theorem dX5_gallery_100 : decode cX5_gallery 100 = .ok (.iload 4, 2) := by decide +kernel
theorem dX5_gallery_102 : decode cX5_gallery 102 = .ok (.iload 5, 2) := by decide +kernel
theorem dX5_gallery_104 : decode cX5_gallery 104 = .ok (.ixor, 1) := by decide +kernel
theorem dX5_gallery_105 : decode cX5_gallery 105 = .ok (.iload 8, 2) := by decide +kernel
theorem dX5_gallery_107 : decode cX5_gallery 107 = .ok (.ishr, 1) := by decide +kernel
theorem dX5_gallery_108 : decode cX5_gallery 108 = .ok (.iconst 1, 1) := by decide +kernel
theorem dX5_gallery_109 : decode cX5_gallery 109 = .ok (.iand, 1) := by decide +kernel
theorem dX5_gallery_110 : decode cX5_gallery 110 = .ok (.iconst 1, 1) := by decide +kernel
theorem dX5_gallery_111 : decode cX5_gallery 111 = .ok (.if_icmp .ne 40, 3) := by decide +kernel
theorem dX5_gallery_114 : decode cX5_gallery 114 = .ok (.aload_n 0, 1) := by decide +kernel
theorem dX5_gallery_115 : decode cX5_gallery 115 = .ok (.getfield 28, 3) := by decide +kernel
theorem dX5_gallery_118 : decode cX5_gallery 118 = .ok (.iload 4, 2) := by decide +kernel
theorem dX5_gallery_120 : decode cX5_gallery 120 = .ok (.iconst 1, 1) := by decide +kernel
theorem dX5_gallery_121 : decode cX5_gallery 121 = .ok (.iload 8, 2) := by decide +kernel
theorem dX5_gallery_123 : decode cX5_gallery 123 = .ok (.ishl, 1) := by decide +kernel
theorem dX5_gallery_124 : decode cX5_gallery 124 = .ok (.ixor, 1) := by decide +kernel
theorem dX5_gallery_125 : decode cX5_gallery 125 = .ok (.baload, 1) := by decide +kernel
theorem dX5_gallery_126 : decode cX5_gallery 126 = .ok (.ifCond .eq 25, 3) := by decide +kernel
theorem dX5_gallery_129 : decode cX5_gallery 129 = .ok (.aload_n 0, 1) := by decide +kernel
theorem dX5_gallery_130 : decode cX5_gallery 130 = .ok (.getfield 32, 3) := by decide +kernel
theorem dX5_gallery_133 : decode cX5_gallery 133 = .ok (.iload 4, 2) := by decide +kernel
theorem dX5_gallery_135 : decode cX5_gallery 135 = .ok (.iload 5, 2) := by decide +kernel
theorem dX5_gallery_137 : decode cX5_gallery 137 = .ok (.ixor, 1) := by decide +kernel
theorem dX5_gallery_138 : decode cX5_gallery 138 = .ok (.iconst 1, 1) := by decide +kernel
theorem dX5_gallery_139 : decode cX5_gallery 139 = .ok (.iload 8, 2) := by decide +kernel
theorem dX5_gallery_141 : decode cX5_gallery 141 = .ok (.ishl, 1) := by decide +kernel
theorem dX5_gallery_142 : decode cX5_gallery 142 = .ok (.ixor, 1) := by decide +kernel
theorem dX5_gallery_143 : decode cX5_gallery 143 = .ok (.iaload, 1) := by decide +kernel
theorem dX5_gallery_144 : decode cX5_gallery 144 = .ok (.ifCond .le 7, 3) := by decide +kernel
theorem dX5_gallery_147 : decode cX5_gallery 147 = .ok (.iconst 1, 1) := by decide +kernel
theorem dX5_gallery_148 : decode cX5_gallery 148 = .ok (.goto 4, 3) := by decide +kernel
theorem dX5_gallery_151 : decode cX5_gallery 151 = .ok (.iconst 0, 1) := by decide +kernel
theorem dX5_gallery_152 : decode cX5_gallery 152 = .ok (.istore 9, 2) := by decide +kernel
theorem dX5_gallery_154 : decode cX5_gallery 154 = .ok (.iload 9, 2) := by decide +kernel
theorem dX5_gallery_156 : decode cX5_gallery 156 = .ok (.ifCond .eq 8, 3) := by decide +kernel
theorem dX5_gallery_159 : decode cX5_gallery 159 = .ok (.iload 8, 2) := by decide +kernel
theorem dX5_gallery_161 : decode cX5_gallery 161 = .ok (.goto 5, 3) := by decide +kernel
theorem dX5_gallery_164 : decode cX5_gallery 164 = .ok (.iload 7, 2) := by decide +kernel
theorem dX5_gallery_166 : decode cX5_gallery 166 = .ok (.istore 7, 2) := by decide +kernel
theorem dX5_gallery_168 : decode cX5_gallery 168 = .ok (.iinc 8 (-1), 3) := by decide +kernel
theorem dX5_gallery_171 : decode cX5_gallery 171 = .ok (.goto (-76), 3) := by decide +kernel
theorem dX5_gallery_174 : decode cX5_gallery 174 = .ok (.iload 7, 2) := by decide +kernel
theorem dX5_gallery_176 : decode cX5_gallery 176 = .ok (.iconst (-1), 1) := by decide +kernel
theorem dX5_gallery_177 : decode cX5_gallery 177 = .ok (.if_icmp .ne 5, 3) := by decide +kernel
theorem dX5_gallery_180 : decode cX5_gallery 180 = .ok (.iconst (-1), 1) := by decide +kernel
theorem dX5_gallery_181 : decode cX5_gallery 181 = .ok (.ireturn, 1) := by decide +kernel
theorem dX5_gallery_182 : decode cX5_gallery 182 = .ok (.iload 4, 2) := by decide +kernel
theorem dX5_gallery_184 : decode cX5_gallery 184 = .ok (.iconst 1, 1) := by decide +kernel
theorem dX5_gallery_185 : decode cX5_gallery 185 = .ok (.iload 7, 2) := by decide +kernel
theorem dX5_gallery_187 : decode cX5_gallery 187 = .ok (.ishl, 1) := by decide +kernel
theorem dX5_gallery_188 : decode cX5_gallery 188 = .ok (.ixor, 1) := by decide +kernel
theorem dX5_gallery_189 : decode cX5_gallery 189 = .ok (.istore 4, 2) := by decide +kernel
theorem dX5_gallery_191 : decode cX5_gallery 191 = .ok (.iinc 6 1, 3) := by decide +kernel
theorem dX5_gallery_194 : decode cX5_gallery 194 = .ok (.goto (-116), 3) := by decide +kernel
theorem dX5_gallery_197 : decode cX5_gallery 197 = .ok (.aload_n 0, 1) := by decide +kernel
theorem dX5_gallery_198 : decode cX5_gallery 198 = .ok (.iload 4, 2) := by decide +kernel
theorem dX5_gallery_200 : decode cX5_gallery 200 = .ok (.invokevirtual 131, 3) := by decide +kernel
theorem dX5_gallery_203 : decode cX5_gallery 203 = .ok (.ireturn, 1) := by decide +kernel
set_option maxRecDepth 20000 in
theorem ggX5_project_X5_roomIs : GoodIn wsX5_project wsX5_roomIs := goodIn_r _ [7, 8, 9, 10, 6, 11, 12, 2, 1, 13, 14, 15, 16, 17, 18, 19, 20, 21, 22, 23, 24, 25, 26, 27, 28, 29, 30, 31, 32, 33, 34, 35, 36, 37, 38, 39, 40, 41, 42, 43, 44, 45, 46, 47, 61, 62, 63, 64, 65, 66, 67, 68, 69, 70, 71, 72, 73, 74, 75, 76, 77, 78, 79] (by decide +kernel) (by decide +kernel)
set_option maxRecDepth 20000 in
theorem gX5_project_X5_roomIs : GoodIn wsX5_project (wsV RX5 121 RX5 yX5_roomIs wsX5_roomIs) := goodIn_app (goodIn_of _ (by decide +kernel)) ggX5_project_X5_roomIs
set_option maxRecDepth 20000 in
theorem ggX5_project_X5_fails : GoodIn wsX5_project wsX5_fails := goodIn_r _ [51, 52, 61, 62, 63, 64, 65, 66, 67, 68, 69, 70, 71, 72, 73, 74, 75, 76, 77, 78, 79] (by decide +kernel) (by decide +kernel)
set_option maxRecDepth 20000 in
theorem gX5_project_X5_fails : GoodIn wsX5_project (wsV RX5 62 RX5 yX5_fails wsX5_fails) := goodIn_app (goodIn_of _ (by decide +kernel)) ggX5_project_X5_fails
set_option maxRecDepth 20000 in
theorem ggX5_project_X5_setOf : GoodIn wsX5_project wsX5_setOf := goodIn_r _ [56, 12, 61, 62, 63, 64, 65, 66, 67, 68, 69, 70, 71, 72, 73, 74, 75, 76, 77, 78, 79] (by decide +kernel) (by decide +kernel)
set_option maxRecDepth 20000 in
theorem gX5_project_X5_setOf : GoodIn wsX5_project (wsV RX5 124 RX5 yX5_setOf wsX5_setOf) := goodIn_app (goodIn_of _ (by decide +kernel)) ggX5_project_X5_setOf
set_option maxRecDepth 20000 in
theorem ggX5_project_X5_in : GoodIn wsX5_project wsX5_in := goodIn_r _ [47] (by decide +kernel) (by decide +kernel)
set_option maxRecDepth 20000 in
theorem gX5_project_X5_in : GoodIn wsX5_project (va_wsS RX5 54 yX5_in wsX5_in) := goodIn_app (goodIn_of _ (by decide +kernel)) ggX5_project_X5_in
set_option maxRecDepth 20000 in
theorem ggX5_project_X5_side : GoodIn wsX5_project wsX5_side := goodIn_r _ [36, 13, 30, 14, 32, 15, 31, 23, 24, 6, 25, 61, 62, 63, 64, 65, 66, 67, 68, 69, 70, 71, 72, 73, 74, 75, 76, 77, 78, 79] (by decide +kernel) (by decide +kernel)
set_option maxRecDepth 20000 in
theorem gX5_project_X5_side : GoodIn wsX5_project (wsV RX5 89 RX5 yX5_side wsX5_side) := goodIn_app (goodIn_of _ (by decide +kernel)) ggX5_project_X5_side
set_option maxRecDepth 20000 in
theorem ggX5_project_X5_numberOf : GoodIn wsX5_project wsX5_numberOf := goodIn_r _ [60, 12, 61, 62, 63, 64, 65, 66, 67, 68, 69, 70, 71, 72, 73, 74, 75, 76, 77, 78, 79] (by decide +kernel) (by decide +kernel)
set_option maxRecDepth 20000 in
theorem gX5_project_X5_numberOf : GoodIn wsX5_project (wsV RX5 131 RX5 yX5_numberOf wsX5_numberOf) := goodIn_app (goodIn_of _ (by decide +kernel)) ggX5_project_X5_numberOf
theorem dX5_project_0 : decode cX5_project 0 = .ok (.aload_n 0, 1) := by decide +kernel
theorem dX5_project_1 : decode cX5_project 1 = .ok (.aload_n 0, 1) := by decide +kernel
theorem dX5_project_2 : decode cX5_project 2 = .ok (.iload_n 1, 1) := by decide +kernel
theorem dX5_project_3 : decode cX5_project 3 = .ok (.invokevirtual 121, 3) := by decide +kernel
theorem dX5_project_6 : decode cX5_project 6 = .ok (.iconst 1, 1) := by decide +kernel
theorem dX5_project_7 : decode cX5_project 7 = .ok (.invokevirtual 62, 3) := by decide +kernel
theorem dX5_project_10 : decode cX5_project 10 = .ok (.ifCond .eq 5, 3) := by decide +kernel
theorem dX5_project_13 : decode cX5_project 13 = .ok (.iconst 0, 1) := by decide +kernel
theorem dX5_project_14 : decode cX5_project 14 = .ok (.ireturn, 1) := by decide +kernel
theorem dX5_project_15 : decode cX5_project 15 = .ok (.aload_n 0, 1) := by decide +kernel
theorem dX5_project_16 : decode cX5_project 16 = .ok (.iload_n 1, 1) := by decide +kernel
theorem dX5_project_17 : decode cX5_project 17 = .ok (.invokevirtual 124, 3) := by decide +kernel
theorem dX5_project_20 : decode cX5_project 20 = .ok (.istore_n 3, 1) := by decide +kernel
theorem dX5_project_21 : decode cX5_project 21 = .ok (.aload_n 0, 1) := by decide +kernel
theorem dX5_project_22 : decode cX5_project 22 = .ok (.iload_n 2, 1) := by decide +kernel
theorem dX5_project_23 : decode cX5_project 23 = .ok (.iconst 0, 1) := by decide +kernel
theorem dX5_project_24 : decode cX5_project 24 = .ok (.aload_n 0, 1) := by decide +kernel
theorem dX5_project_25 : decode cX5_project 25 = .ok (.getfield 78, 3) := by decide +kernel
theorem dX5_project_28 : decode cX5_project 28 = .ok (.iconst 1, 1) := by decide +kernel
theorem dX5_project_29 : decode cX5_project 29 = .ok (.isub, 1) := by decide +kernel
theorem dX5_project_30 : decode cX5_project 30 = .ok (.invokestatic 54, 3) := by decide +kernel
theorem dX5_project_33 : decode cX5_project 33 = .ok (.iconst 1, 1) := by decide +kernel
theorem dX5_project_34 : decode cX5_project 34 = .ok (.invokevirtual 62, 3) := by decide +kernel
theorem dX5_project_37 : decode cX5_project 37 = .ok (.ifCond .eq 5, 3) := by decide +kernel
theorem dX5_project_40 : decode cX5_project 40 = .ok (.iconst 0, 1) := by decide +kernel
theorem dX5_project_41 : decode cX5_project 41 = .ok (.ireturn, 1) := by decide +kernel
theorem dX5_project_42 : decode cX5_project 42 = .ok (.iconst 0, 1) := by decide +kernel
theorem dX5_project_43 : decode cX5_project 43 = .ok (.istore 4, 2) := by decide +kernel
theorem dX5_project_45 : decode cX5_project 45 = .ok (.iconst 0, 1) := by decide +kernel
theorem dX5_project_46 : decode cX5_project 46 = .ok (.istore 5, 2) := by decide +kernel
theorem dX5_project_48 : decode cX5_project 48 = .ok (.iload 5, 2) := by decide +kernel
theorem dX5_project_50 : decode cX5_project 50 = .ok (.aload_n 0, 1) := by decide +kernel
theorem dX5_project_51 : decode cX5_project 51 = .ok (.getfield 51, 3) := by decide +kernel
theorem dX5_project_54 : decode cX5_project 54 = .ok (.if_icmp .ge 51, 3) := by decide +kernel
theorem dX5_project_57 : decode cX5_project 57 = .ok (.aload_n 0, 1) := by decide +kernel
theorem dX5_project_58 : decode cX5_project 58 = .ok (.iload 5, 2) := by decide +kernel
theorem dX5_project_60 : decode cX5_project 60 = .ok (.iload_n 2, 1) := by decide +kernel
theorem dX5_project_61 : decode cX5_project 61 = .ok (.invokevirtual 89, 3) := by decide +kernel
theorem dX5_project_64 : decode cX5_project 64 = .ok (.istore 6, 2) := by decide +kernel
theorem dX5_project_66 : decode cX5_project 66 = .ok (.iload 4, 2) := by decide +kernel
theorem dX5_project_68 : decode cX5_project 68 = .ok (.iload 6, 2) := by decide +kernel
theorem dX5_project_70 : decode cX5_project 70 = .ok (.ifCond .gt 18, 3) := by decide +kernel
theorem dX5_project_73 : decode cX5_project 73 = .ok (.iload 6, 2) := by decide +kernel
theorem dX5_project_75 : decode cX5_project 75 = .ok (.ifCond .ne 20, 3) := by decide +kernel
theorem dX5_project_78 : decode cX5_project 78 = .ok (.iload_n 3, 1) := by decide +kernel
theorem dX5_project_79 : decode cX5_project 79 = .ok (.iload 5, 2) := by decide +kernel
theorem dX5_project_81 : decode cX5_project 81 = .ok (.ishr, 1) := by decide +kernel
theorem dX5_project_82 : decode cX5_project 82 = .ok (.iconst 1, 1) := by decide +kernel
theorem dX5_project_83 : decode cX5_project 83 = .ok (.iand, 1) := by decide +kernel
theorem dX5_project_84 : decode cX5_project 84 = .ok (.iconst 1, 1) := by decide +kernel
theorem dX5_project_85 : decode cX5_project 85 = .ok (.if_icmp .ne 10, 3) := by decide +kernel
theorem dX5_project_88 : decode cX5_project 88 = .ok (.iconst 1, 1) := by decide +kernel
theorem dX5_project_89 : decode cX5_project 89 = .ok (.iload 5, 2) := by decide +kernel
theorem dX5_project_91 : decode cX5_project 91 = .ok (.ishl, 1) := by decide +kernel
theorem dX5_project_92 : decode cX5_project 92 = .ok (.goto 4, 3) := by decide +kernel
theorem dX5_project_95 : decode cX5_project 95 = .ok (.iconst 0, 1) := by decide +kernel
theorem dX5_project_96 : decode cX5_project 96 = .ok (.ior, 1) := by decide +kernel
theorem dX5_project_97 : decode cX5_project 97 = .ok (.istore 4, 2) := by decide +kernel
theorem dX5_project_99 : decode cX5_project 99 = .ok (.iinc 5 1, 3) := by decide +kernel
theorem dX5_project_102 : decode cX5_project 102 = .ok (.goto (-54), 3) := by decide +kernel
theorem dX5_project_105 : decode cX5_project 105 = .ok (.aload_n 0, 1) := by decide +kernel
theorem dX5_project_106 : decode cX5_project 106 = .ok (.iload 4, 2) := by decide +kernel
theorem dX5_project_108 : decode cX5_project 108 = .ok (.invokevirtual 131, 3) := by decide +kernel
theorem dX5_project_111 : decode cX5_project 111 = .ok (.ireturn, 1) := by decide +kernel
set_option maxRecDepth 20000 in
theorem ggX5_best_X5_roomIs : GoodIn wsX5_best wsX5_roomIs := goodIn_r _ [12, 13, 14, 15, 11, 16, 17, 1, 4, 3, 2, 18, 19, 20, 21, 22, 23, 24, 25, 26, 27, 28, 29, 30, 31, 32, 5, 7, 6, 33, 34, 35, 36, 37, 38, 39, 40, 41, 42, 43, 44, 45, 46, 47, 65, 66, 67, 68, 69, 70, 71, 72, 73, 74, 75, 76, 77, 78, 79, 80, 81, 82, 83] (by decide +kernel) (by decide +kernel)
set_option maxRecDepth 20000 in
theorem gX5_best_X5_roomIs : GoodIn wsX5_best (wsV RX5 121 RX5 yX5_roomIs wsX5_roomIs) := goodIn_app (goodIn_of _ (by decide +kernel)) ggX5_best_X5_roomIs
set_option maxRecDepth 20000 in
theorem ggX5_best_X5_fails : GoodIn wsX5_best wsX5_fails := goodIn_r _ [51, 52, 65, 66, 67, 68, 69, 70, 71, 72, 73, 74, 75, 76, 77, 78, 79, 80, 81, 82, 83] (by decide +kernel) (by decide +kernel)
set_option maxRecDepth 20000 in
theorem gX5_best_X5_fails : GoodIn wsX5_best (wsV RX5 62 RX5 yX5_fails wsX5_fails) := goodIn_app (goodIn_of _ (by decide +kernel)) ggX5_best_X5_fails
set_option maxRecDepth 20000 in
theorem ggX5_best_X5_setOf : GoodIn wsX5_best wsX5_setOf := goodIn_r _ [56, 17, 65, 66, 67, 68, 69, 70, 71, 72, 73, 74, 75, 76, 77, 78, 79, 80, 81, 82, 83] (by decide +kernel) (by decide +kernel)
set_option maxRecDepth 20000 in
theorem gX5_best_X5_setOf : GoodIn wsX5_best (wsV RX5 124 RX5 yX5_setOf wsX5_setOf) := goodIn_app (goodIn_of _ (by decide +kernel)) ggX5_best_X5_setOf
set_option maxRecDepth 20000 in
theorem ggX5_best_X5_in : GoodIn wsX5_best wsX5_in := goodIn_r _ [47] (by decide +kernel) (by decide +kernel)
set_option maxRecDepth 20000 in
theorem gX5_best_X5_in : GoodIn wsX5_best (va_wsS RX5 54 yX5_in wsX5_in) := goodIn_app (goodIn_of _ (by decide +kernel)) ggX5_best_X5_in
set_option maxRecDepth 20000 in
theorem ggX5_best_X5_goesOn : GoodIn wsX5_best wsX5_goesOn := goodIn_r _ [60, 1, 3, 2, 65, 66, 67, 68, 69, 70, 71, 72, 73, 74, 75, 76, 77, 78, 79, 80, 81, 82, 83] (by decide +kernel) (by decide +kernel)
set_option maxRecDepth 20000 in
theorem gX5_best_X5_goesOn : GoodIn wsX5_best (wsV RX5 115 RX5 yX5_goesOn wsX5_goesOn) := goodIn_app (goodIn_of _ (by decide +kernel)) ggX5_best_X5_goesOn
set_option maxRecDepth 20000 in
theorem ggX5_best_X5_isCorner : GoodIn wsX5_best wsX5_isCorner := goodIn_r _ [64, 1, 33, 34, 35, 11, 36, 3, 5, 2, 6, 18, 7, 26, 27, 28, 65, 66, 67, 68, 69, 70, 71, 72, 73, 74, 75, 76, 77, 78, 79, 80, 81, 82, 83] (by decide +kernel) (by decide +kernel)
set_option maxRecDepth 20000 in
theorem gX5_best_X5_isCorner : GoodIn wsX5_best (wsV RX5 127 RX5 yX5_isCorner wsX5_isCorner) := goodIn_app (goodIn_of _ (by decide +kernel)) ggX5_best_X5_isCorner
theorem dX5_best_0 : decode cX5_best 0 = .ok (.aload_n 0, 1) := by decide +kernel
theorem dX5_best_1 : decode cX5_best 1 = .ok (.aload_n 0, 1) := by decide +kernel
theorem dX5_best_2 : decode cX5_best 2 = .ok (.iload_n 1, 1) := by decide +kernel
theorem dX5_best_3 : decode cX5_best 3 = .ok (.invokevirtual 121, 3) := by decide +kernel
theorem dX5_best_6 : decode cX5_best 6 = .ok (.iconst 1, 1) := by decide +kernel
theorem dX5_best_7 : decode cX5_best 7 = .ok (.invokevirtual 62, 3) := by decide +kernel
theorem dX5_best_10 : decode cX5_best 10 = .ok (.ifCond .eq 5, 3) := by decide +kernel
theorem dX5_best_13 : decode cX5_best 13 = .ok (.iconst 0, 1) := by decide +kernel
theorem dX5_best_14 : decode cX5_best 14 = .ok (.ireturn, 1) := by decide +kernel
theorem dX5_best_15 : decode cX5_best 15 = .ok (.aload_n 0, 1) := by decide +kernel
theorem dX5_best_16 : decode cX5_best 16 = .ok (.iload_n 1, 1) := by decide +kernel
theorem dX5_best_17 : decode cX5_best 17 = .ok (.invokevirtual 124, 3) := by decide +kernel
theorem dX5_best_20 : decode cX5_best 20 = .ok (.istore 4, 2) := by decide +kernel
theorem dX5_best_22 : decode cX5_best 22 = .ok (.aload_n 0, 1) := by decide +kernel
theorem dX5_best_23 : decode cX5_best 23 = .ok (.iload_n 2, 1) := by decide +kernel
theorem dX5_best_24 : decode cX5_best 24 = .ok (.bipush (-9), 2) := by decide +kernel
theorem dX5_best_26 : decode cX5_best 26 = .ok (.bipush 9, 2) := by decide +kernel
theorem dX5_best_28 : decode cX5_best 28 = .ok (.invokestatic 54, 3) := by decide +kernel
theorem dX5_best_31 : decode cX5_best 31 = .ok (.ifCond .eq 26, 3) := by decide +kernel
theorem dX5_best_34 : decode cX5_best 34 = .ok (.iload_n 3, 1) := by decide +kernel
theorem dX5_best_35 : decode cX5_best 35 = .ok (.bipush (-9), 2) := by decide +kernel
theorem dX5_best_37 : decode cX5_best 37 = .ok (.bipush 9, 2) := by decide +kernel
theorem dX5_best_39 : decode cX5_best 39 = .ok (.invokestatic 54, 3) := by decide +kernel
theorem dX5_best_42 : decode cX5_best 42 = .ok (.ifCond .eq 15, 3) := by decide +kernel
theorem dX5_best_45 : decode cX5_best 45 = .ok (.iload_n 2, 1) := by decide +kernel
theorem dX5_best_46 : decode cX5_best 46 = .ok (.ifCond .ne 7, 3) := by decide +kernel
theorem dX5_best_49 : decode cX5_best 49 = .ok (.iload_n 3, 1) := by decide +kernel
theorem dX5_best_50 : decode cX5_best 50 = .ok (.ifCond .eq 7, 3) := by decide +kernel
theorem dX5_best_53 : decode cX5_best 53 = .ok (.iconst 1, 1) := by decide +kernel
theorem dX5_best_54 : decode cX5_best 54 = .ok (.goto 4, 3) := by decide +kernel
theorem dX5_best_57 : decode cX5_best 57 = .ok (.iconst 0, 1) := by decide +kernel
theorem dX5_best_58 : decode cX5_best 58 = .ok (.iconst 2, 1) := by decide +kernel
theorem dX5_best_59 : decode cX5_best 59 = .ok (.invokevirtual 62, 3) := by decide +kernel
theorem dX5_best_62 : decode cX5_best 62 = .ok (.ifCond .eq 5, 3) := by decide +kernel
theorem dX5_best_65 : decode cX5_best 65 = .ok (.iconst 0, 1) := by decide +kernel
theorem dX5_best_66 : decode cX5_best 66 = .ok (.ireturn, 1) := by decide +kernel
theorem dX5_best_67 : decode cX5_best 67 = .ok (.aload_n 0, 1) := by decide +kernel
theorem dX5_best_68 : decode cX5_best 68 = .ok (.iload 4, 2) := by decide +kernel
theorem dX5_best_70 : decode cX5_best 70 = .ok (.iload_n 2, 1) := by decide +kernel
theorem dX5_best_71 : decode cX5_best 71 = .ok (.iload_n 3, 1) := by decide +kernel
theorem dX5_best_72 : decode cX5_best 72 = .ok (.invokevirtual 115, 3) := by decide +kernel
theorem dX5_best_75 : decode cX5_best 75 = .ok (.ifCond .ne 7, 3) := by decide +kernel
theorem dX5_best_78 : decode cX5_best 78 = .ok (.iconst 1, 1) := by decide +kernel
theorem dX5_best_79 : decode cX5_best 79 = .ok (.goto 4, 3) := by decide +kernel
theorem dX5_best_82 : decode cX5_best 82 = .ok (.iconst 0, 1) := by decide +kernel
theorem dX5_best_83 : decode cX5_best 83 = .ok (.istore 5, 2) := by decide +kernel
theorem dX5_best_85 : decode cX5_best 85 = .ok (.iconst 0, 1) := by decide +kernel
theorem dX5_best_86 : decode cX5_best 86 = .ok (.istore 6, 2) := by decide +kernel
theorem dX5_best_88 : decode cX5_best 88 = .ok (.iload 6, 2) := by decide +kernel
theorem dX5_best_90 : decode cX5_best 90 = .ok (.aload_n 0, 1) := by decide +kernel
theorem dX5_best_91 : decode cX5_best 91 = .ok (.getfield 51, 3) := by decide +kernel
theorem dX5_best_94 : decode cX5_best 94 = .ok (.if_icmp .ge 98, 3) := by decide +kernel
theorem dX5_best_97 : decode cX5_best 97 = .ok (.aload_n 0, 1) := by decide +kernel
theorem dX5_best_98 : decode cX5_best 98 = .ok (.getfield 13, 3) := by decide +kernel
theorem dX5_best_101 : decode cX5_best 101 = .ok (.iload 6, 2) := by decide +kernel
theorem dX5_best_103 : decode cX5_best 103 = .ok (.iaload, 1) := by decide +kernel
theorem dX5_best_104 : decode cX5_best 104 = .ok (.iload_n 2, 1) := by decide +kernel
theorem dX5_best_105 : decode cX5_best 105 = .ok (.imul, 1) := by decide +kernel
theorem dX5_best_106 : decode cX5_best 106 = .ok (.aload_n 0, 1) := by decide +kernel
theorem dX5_best_107 : decode cX5_best 107 = .ok (.getfield 7, 3) := by decide +kernel
theorem dX5_best_110 : decode cX5_best 110 = .ok (.iload 6, 2) := by decide +kernel
theorem dX5_best_112 : decode cX5_best 112 = .ok (.iaload, 1) := by decide +kernel
theorem dX5_best_113 : decode cX5_best 113 = .ok (.iload_n 3, 1) := by decide +kernel
theorem dX5_best_114 : decode cX5_best 114 = .ok (.imul, 1) := by decide +kernel
theorem dX5_best_115 : decode cX5_best 115 = .ok (.isub, 1) := by decide +kernel
theorem dX5_best_116 : decode cX5_best 116 = .ok (.istore 7, 2) := by decide +kernel
theorem dX5_best_118 : decode cX5_best 118 = .ok (.iload 5, 2) := by decide +kernel
theorem dX5_best_120 : decode cX5_best 120 = .ok (.iload 7, 2) := by decide +kernel
theorem dX5_best_122 : decode cX5_best 122 = .ok (.ifCond .le 27, 3) := by decide +kernel
theorem dX5_best_125 : decode cX5_best 125 = .ok (.aload_n 0, 1) := by decide +kernel
theorem dX5_best_126 : decode cX5_best 126 = .ok (.iload 4, 2) := by decide +kernel
theorem dX5_best_128 : decode cX5_best 128 = .ok (.aload_n 0, 1) := by decide +kernel
theorem dX5_best_129 : decode cX5_best 129 = .ok (.getfield 13, 3) := by decide +kernel
theorem dX5_best_132 : decode cX5_best 132 = .ok (.iload 6, 2) := by decide +kernel
theorem dX5_best_134 : decode cX5_best 134 = .ok (.iaload, 1) := by decide +kernel
theorem dX5_best_135 : decode cX5_best 135 = .ok (.aload_n 0, 1) := by decide +kernel
theorem dX5_best_136 : decode cX5_best 136 = .ok (.getfield 7, 3) := by decide +kernel
theorem dX5_best_139 : decode cX5_best 139 = .ok (.iload 6, 2) := by decide +kernel
theorem dX5_best_141 : decode cX5_best 141 = .ok (.iaload, 1) := by decide +kernel
theorem dX5_best_142 : decode cX5_best 142 = .ok (.ineg, 1) := by decide +kernel
theorem dX5_best_143 : decode cX5_best 143 = .ok (.invokevirtual 115, 3) := by decide +kernel
theorem dX5_best_146 : decode cX5_best 146 = .ok (.ifCond .ne 36, 3) := by decide +kernel
theorem dX5_best_149 : decode cX5_best 149 = .ok (.iload 7, 2) := by decide +kernel
theorem dX5_best_151 : decode cX5_best 151 = .ok (.ifCond .ge 27, 3) := by decide +kernel
theorem dX5_best_154 : decode cX5_best 154 = .ok (.aload_n 0, 1) := by decide +kernel
theorem dX5_best_155 : decode cX5_best 155 = .ok (.iload 4, 2) := by decide +kernel
theorem dX5_best_157 : decode cX5_best 157 = .ok (.aload_n 0, 1) := by decide +kernel
theorem dX5_best_158 : decode cX5_best 158 = .ok (.getfield 13, 3) := by decide +kernel
theorem dX5_best_161 : decode cX5_best 161 = .ok (.iload 6, 2) := by decide +kernel
theorem dX5_best_163 : decode cX5_best 163 = .ok (.iaload, 1) := by decide +kernel
theorem dX5_best_164 : decode cX5_best 164 = .ok (.ineg, 1) := by decide +kernel
theorem dX5_best_165 : decode cX5_best 165 = .ok (.aload_n 0, 1) := by decide +kernel
theorem dX5_best_166 : decode cX5_best 166 = .ok (.getfield 7, 3) := by decide +kernel
theorem dX5_best_169 : decode cX5_best 169 = .ok (.iload 6, 2) := by decide +kernel
theorem dX5_best_171 : decode cX5_best 171 = .ok (.iaload, 1) := by decide +kernel
theorem dX5_best_172 : decode cX5_best 172 = .ok (.invokevirtual 115, 3) := by decide +kernel
theorem dX5_best_175 : decode cX5_best 175 = .ok (.ifCond .ne 7, 3) := by decide +kernel
theorem dX5_best_178 : decode cX5_best 178 = .ok (.iconst 1, 1) := by decide +kernel
theorem dX5_best_179 : decode cX5_best 179 = .ok (.goto 4, 3) := by decide +kernel
theorem dX5_best_182 : decode cX5_best 182 = .ok (.iconst 0, 1) := by decide +kernel
theorem dX5_best_183 : decode cX5_best 183 = .ok (.iand, 1) := by decide +kernel
theorem dX5_best_184 : decode cX5_best 184 = .ok (.istore 5, 2) := by decide +kernel
theorem dX5_best_186 : decode cX5_best 186 = .ok (.iinc 6 1, 3) := by decide +kernel
theorem dX5_best_189 : decode cX5_best 189 = .ok (.goto (-101), 3) := by decide +kernel
theorem dX5_best_192 : decode cX5_best 192 = .ok (.iconst (-1), 1) := by decide +kernel
theorem dX5_best_193 : decode cX5_best 193 = .ok (.istore 6, 2) := by decide +kernel
theorem dX5_best_195 : decode cX5_best 195 = .ok (.iconst 0, 1) := by decide +kernel
theorem dX5_best_196 : decode cX5_best 196 = .ok (.istore 7, 2) := by decide +kernel
theorem dX5_best_198 : decode cX5_best 198 = .ok (.iload 7, 2) := by decide +kernel
theorem dX5_best_200 : decode cX5_best 200 = .ok (.aload_n 0, 1) := by decide +kernel
theorem dX5_best_201 : decode cX5_best 201 = .ok (.getfield 78, 3) := by decide +kernel
theorem dX5_best_204 : decode cX5_best 204 = .ok (.if_icmp .ge 114, 3) := by decide +kernel
theorem dX5_best_207 : decode cX5_best 207 = .ok (.iload 5, 2) := by decide +kernel
theorem dX5_best_209 : decode cX5_best 209 = .ok (.ifCond .eq 109, 3) := by decide +kernel
theorem dX5_best_212 : decode cX5_best 212 = .ok (.aload_n 0, 1) := by decide +kernel
theorem dX5_best_213 : decode cX5_best 213 = .ok (.iload 4, 2) := by decide +kernel
theorem dX5_best_215 : decode cX5_best 215 = .ok (.iload 7, 2) := by decide +kernel
theorem dX5_best_217 : decode cX5_best 217 = .ok (.invokevirtual 127, 3) := by decide +kernel
theorem dX5_best_220 : decode cX5_best 220 = .ok (.ifCond .eq 92, 3) := by decide +kernel
theorem dX5_best_223 : decode cX5_best 223 = .ok (.iload 6, 2) := by decide +kernel
theorem dX5_best_225 : decode cX5_best 225 = .ok (.iconst (-1), 1) := by decide +kernel
theorem dX5_best_226 : decode cX5_best 226 = .ok (.if_icmp .eq 65, 3) := by decide +kernel
theorem dX5_best_229 : decode cX5_best 229 = .ok (.iload_n 2, 1) := by decide +kernel
theorem dX5_best_230 : decode cX5_best 230 = .ok (.aload_n 0, 1) := by decide +kernel
theorem dX5_best_231 : decode cX5_best 231 = .ok (.getfield 19, 3) := by decide +kernel
theorem dX5_best_234 : decode cX5_best 234 = .ok (.iload 7, 2) := by decide +kernel
theorem dX5_best_236 : decode cX5_best 236 = .ok (.iaload, 1) := by decide +kernel
theorem dX5_best_237 : decode cX5_best 237 = .ok (.imul, 1) := by decide +kernel
theorem dX5_best_238 : decode cX5_best 238 = .ok (.iload_n 3, 1) := by decide +kernel
theorem dX5_best_239 : decode cX5_best 239 = .ok (.aload_n 0, 1) := by decide +kernel
theorem dX5_best_240 : decode cX5_best 240 = .ok (.getfield 22, 3) := by decide +kernel
theorem dX5_best_243 : decode cX5_best 243 = .ok (.iload 7, 2) := by decide +kernel
theorem dX5_best_245 : decode cX5_best 245 = .ok (.iaload, 1) := by decide +kernel
theorem dX5_best_246 : decode cX5_best 246 = .ok (.imul, 1) := by decide +kernel
theorem dX5_best_247 : decode cX5_best 247 = .ok (.iadd, 1) := by decide +kernel
theorem dX5_best_248 : decode cX5_best 248 = .ok (.i2l, 1) := by decide +kernel
theorem dX5_best_249 : decode cX5_best 249 = .ok (.aload_n 0, 1) := by decide +kernel
theorem dX5_best_250 : decode cX5_best 250 = .ok (.getfield 25, 3) := by decide +kernel
theorem dX5_best_253 : decode cX5_best 253 = .ok (.iload 6, 2) := by decide +kernel
theorem dX5_best_255 : decode cX5_best 255 = .ok (.iaload, 1) := by decide +kernel
theorem dX5_best_256 : decode cX5_best 256 = .ok (.i2l, 1) := by decide +kernel
theorem dX5_best_257 : decode cX5_best 257 = .ok (.lmul, 1) := by decide +kernel
theorem dX5_best_258 : decode cX5_best 258 = .ok (.iload_n 2, 1) := by decide +kernel
theorem dX5_best_259 : decode cX5_best 259 = .ok (.aload_n 0, 1) := by decide +kernel
theorem dX5_best_260 : decode cX5_best 260 = .ok (.getfield 19, 3) := by decide +kernel
theorem dX5_best_263 : decode cX5_best 263 = .ok (.iload 6, 2) := by decide +kernel
theorem dX5_best_265 : decode cX5_best 265 = .ok (.iaload, 1) := by decide +kernel
theorem dX5_best_266 : decode cX5_best 266 = .ok (.imul, 1) := by decide +kernel
theorem dX5_best_267 : decode cX5_best 267 = .ok (.iload_n 3, 1) := by decide +kernel
theorem dX5_best_268 : decode cX5_best 268 = .ok (.aload_n 0, 1) := by decide +kernel
theorem dX5_best_269 : decode cX5_best 269 = .ok (.getfield 22, 3) := by decide +kernel
theorem dX5_best_272 : decode cX5_best 272 = .ok (.iload 6, 2) := by decide +kernel
theorem dX5_best_274 : decode cX5_best 274 = .ok (.iaload, 1) := by decide +kernel
theorem dX5_best_275 : decode cX5_best 275 = .ok (.imul, 1) := by decide +kernel
theorem dX5_best_276 : decode cX5_best 276 = .ok (.iadd, 1) := by decide +kernel
theorem dX5_best_277 : decode cX5_best 277 = .ok (.i2l, 1) := by decide +kernel
theorem dX5_best_278 : decode cX5_best 278 = .ok (.aload_n 0, 1) := by decide +kernel
theorem dX5_best_279 : decode cX5_best 279 = .ok (.getfield 25, 3) := by decide +kernel
theorem dX5_best_282 : decode cX5_best 282 = .ok (.iload 7, 2) := by decide +kernel
theorem dX5_best_284 : decode cX5_best 284 = .ok (.iaload, 1) := by decide +kernel
theorem dX5_best_285 : decode cX5_best 285 = .ok (.i2l, 1) := by decide +kernel
theorem dX5_best_286 : decode cX5_best 286 = .ok (.lmul, 1) := by decide +kernel
theorem dX5_best_287 : decode cX5_best 287 = .ok (.lcmp, 1) := by decide +kernel
theorem dX5_best_288 : decode cX5_best 288 = .ok (.ifCond .le 7, 3) := by decide +kernel
theorem dX5_best_291 : decode cX5_best 291 = .ok (.iconst 1, 1) := by decide +kernel
theorem dX5_best_292 : decode cX5_best 292 = .ok (.goto 4, 3) := by decide +kernel
theorem dX5_best_295 : decode cX5_best 295 = .ok (.iconst 0, 1) := by decide +kernel
theorem dX5_best_296 : decode cX5_best 296 = .ok (.istore 8, 2) := by decide +kernel
theorem dX5_best_298 : decode cX5_best 298 = .ok (.iload 8, 2) := by decide +kernel
theorem dX5_best_300 : decode cX5_best 300 = .ok (.ifCond .eq 8, 3) := by decide +kernel
theorem dX5_best_303 : decode cX5_best 303 = .ok (.iload 7, 2) := by decide +kernel
theorem dX5_best_305 : decode cX5_best 305 = .ok (.goto 5, 3) := by decide +kernel
theorem dX5_best_308 : decode cX5_best 308 = .ok (.iload 6, 2) := by decide +kernel
theorem dX5_best_310 : decode cX5_best 310 = .ok (.istore 6, 2) := by decide +kernel
theorem dX5_best_312 : decode cX5_best 312 = .ok (.iinc 7 1, 3) := by decide +kernel
theorem dX5_best_315 : decode cX5_best 315 = .ok (.goto (-117), 3) := by decide +kernel
theorem dX5_best_318 : decode cX5_best 318 = .ok (.iload 6, 2) := by decide +kernel
theorem dX5_best_320 : decode cX5_best 320 = .ok (.ireturn, 1) := by decide +kernel
set_option maxRecDepth 20000 in
theorem ggX5_reflect_X5_lineOf : GoodIn wsX5_reflect wsX5_lineOf := goodIn_r _ [11, 12, 13, 14, 15, 10, 16, 1, 2, 5, 17, 18, 19, 20, 21, 22, 23, 24, 25, 26, 27, 28, 29, 30, 31, 32, 33, 34, 35] (by decide +kernel) (by decide +kernel)
set_option maxRecDepth 20000 in
theorem gX5_reflect_X5_lineOf : GoodIn wsX5_reflect (wsV RX5 66 RX5 yX5_lineOf wsX5_lineOf) := goodIn_app (goodIn_of _ (by decide +kernel)) ggX5_reflect_X5_lineOf
theorem dX5_reflect_0 : decode cX5_reflect 0 = .ok (.aload_n 0, 1) := by decide +kernel
theorem dX5_reflect_1 : decode cX5_reflect 1 = .ok (.getfield 7, 3) := by decide +kernel
theorem dX5_reflect_4 : decode cX5_reflect 4 = .ok (.iload_n 2, 1) := by decide +kernel
theorem dX5_reflect_5 : decode cX5_reflect 5 = .ok (.iaload, 1) := by decide +kernel
theorem dX5_reflect_6 : decode cX5_reflect 6 = .ok (.aload_n 0, 1) := by decide +kernel
theorem dX5_reflect_7 : decode cX5_reflect 7 = .ok (.getfield 7, 3) := by decide +kernel
theorem dX5_reflect_10 : decode cX5_reflect 10 = .ok (.iload_n 2, 1) := by decide +kernel
theorem dX5_reflect_11 : decode cX5_reflect 11 = .ok (.iaload, 1) := by decide +kernel
theorem dX5_reflect_12 : decode cX5_reflect 12 = .ok (.imul, 1) := by decide +kernel
theorem dX5_reflect_13 : decode cX5_reflect 13 = .ok (.aload_n 0, 1) := by decide +kernel
theorem dX5_reflect_14 : decode cX5_reflect 14 = .ok (.getfield 13, 3) := by decide +kernel
theorem dX5_reflect_17 : decode cX5_reflect 17 = .ok (.iload_n 2, 1) := by decide +kernel
theorem dX5_reflect_18 : decode cX5_reflect 18 = .ok (.iaload, 1) := by decide +kernel
theorem dX5_reflect_19 : decode cX5_reflect 19 = .ok (.aload_n 0, 1) := by decide +kernel
theorem dX5_reflect_20 : decode cX5_reflect 20 = .ok (.getfield 13, 3) := by decide +kernel
theorem dX5_reflect_23 : decode cX5_reflect 23 = .ok (.iload_n 2, 1) := by decide +kernel
theorem dX5_reflect_24 : decode cX5_reflect 24 = .ok (.iaload, 1) := by decide +kernel
theorem dX5_reflect_25 : decode cX5_reflect 25 = .ok (.imul, 1) := by decide +kernel
theorem dX5_reflect_26 : decode cX5_reflect 26 = .ok (.iadd, 1) := by decide +kernel
theorem dX5_reflect_27 : decode cX5_reflect 27 = .ok (.istore_n 3, 1) := by decide +kernel
theorem dX5_reflect_28 : decode cX5_reflect 28 = .ok (.iconst 2, 1) := by decide +kernel
theorem dX5_reflect_29 : decode cX5_reflect 29 = .ok (.aload_n 0, 1) := by decide +kernel
theorem dX5_reflect_30 : decode cX5_reflect 30 = .ok (.getfield 7, 3) := by decide +kernel
theorem dX5_reflect_33 : decode cX5_reflect 33 = .ok (.iload_n 2, 1) := by decide +kernel
theorem dX5_reflect_34 : decode cX5_reflect 34 = .ok (.iaload, 1) := by decide +kernel
theorem dX5_reflect_35 : decode cX5_reflect 35 = .ok (.aload_n 0, 1) := by decide +kernel
theorem dX5_reflect_36 : decode cX5_reflect 36 = .ok (.getfield 7, 3) := by decide +kernel
theorem dX5_reflect_39 : decode cX5_reflect 39 = .ok (.iload_n 1, 1) := by decide +kernel
theorem dX5_reflect_40 : decode cX5_reflect 40 = .ok (.iaload, 1) := by decide +kernel
theorem dX5_reflect_41 : decode cX5_reflect 41 = .ok (.imul, 1) := by decide +kernel
theorem dX5_reflect_42 : decode cX5_reflect 42 = .ok (.aload_n 0, 1) := by decide +kernel
theorem dX5_reflect_43 : decode cX5_reflect 43 = .ok (.getfield 13, 3) := by decide +kernel
theorem dX5_reflect_46 : decode cX5_reflect 46 = .ok (.iload_n 2, 1) := by decide +kernel
theorem dX5_reflect_47 : decode cX5_reflect 47 = .ok (.iaload, 1) := by decide +kernel
theorem dX5_reflect_48 : decode cX5_reflect 48 = .ok (.aload_n 0, 1) := by decide +kernel
theorem dX5_reflect_49 : decode cX5_reflect 49 = .ok (.getfield 13, 3) := by decide +kernel
theorem dX5_reflect_52 : decode cX5_reflect 52 = .ok (.iload_n 1, 1) := by decide +kernel
theorem dX5_reflect_53 : decode cX5_reflect 53 = .ok (.iaload, 1) := by decide +kernel
theorem dX5_reflect_54 : decode cX5_reflect 54 = .ok (.imul, 1) := by decide +kernel
theorem dX5_reflect_55 : decode cX5_reflect 55 = .ok (.iadd, 1) := by decide +kernel
theorem dX5_reflect_56 : decode cX5_reflect 56 = .ok (.imul, 1) := by decide +kernel
theorem dX5_reflect_57 : decode cX5_reflect 57 = .ok (.istore 4, 2) := by decide +kernel
theorem dX5_reflect_59 : decode cX5_reflect 59 = .ok (.aload_n 0, 1) := by decide +kernel
theorem dX5_reflect_60 : decode cX5_reflect 60 = .ok (.iload_n 3, 1) := by decide +kernel
theorem dX5_reflect_61 : decode cX5_reflect 61 = .ok (.aload_n 0, 1) := by decide +kernel
theorem dX5_reflect_62 : decode cX5_reflect 62 = .ok (.getfield 7, 3) := by decide +kernel
theorem dX5_reflect_65 : decode cX5_reflect 65 = .ok (.iload_n 1, 1) := by decide +kernel
theorem dX5_reflect_66 : decode cX5_reflect 66 = .ok (.iaload, 1) := by decide +kernel
theorem dX5_reflect_67 : decode cX5_reflect 67 = .ok (.imul, 1) := by decide +kernel
theorem dX5_reflect_68 : decode cX5_reflect 68 = .ok (.iload 4, 2) := by decide +kernel
theorem dX5_reflect_70 : decode cX5_reflect 70 = .ok (.aload_n 0, 1) := by decide +kernel
theorem dX5_reflect_71 : decode cX5_reflect 71 = .ok (.getfield 7, 3) := by decide +kernel
theorem dX5_reflect_74 : decode cX5_reflect 74 = .ok (.iload_n 2, 1) := by decide +kernel
theorem dX5_reflect_75 : decode cX5_reflect 75 = .ok (.iaload, 1) := by decide +kernel
theorem dX5_reflect_76 : decode cX5_reflect 76 = .ok (.imul, 1) := by decide +kernel
theorem dX5_reflect_77 : decode cX5_reflect 77 = .ok (.isub, 1) := by decide +kernel
theorem dX5_reflect_78 : decode cX5_reflect 78 = .ok (.putfield 138, 3) := by decide +kernel
theorem dX5_reflect_81 : decode cX5_reflect 81 = .ok (.aload_n 0, 1) := by decide +kernel
theorem dX5_reflect_82 : decode cX5_reflect 82 = .ok (.iload_n 3, 1) := by decide +kernel
theorem dX5_reflect_83 : decode cX5_reflect 83 = .ok (.aload_n 0, 1) := by decide +kernel
theorem dX5_reflect_84 : decode cX5_reflect 84 = .ok (.getfield 13, 3) := by decide +kernel
theorem dX5_reflect_87 : decode cX5_reflect 87 = .ok (.iload_n 1, 1) := by decide +kernel
theorem dX5_reflect_88 : decode cX5_reflect 88 = .ok (.iaload, 1) := by decide +kernel
theorem dX5_reflect_89 : decode cX5_reflect 89 = .ok (.imul, 1) := by decide +kernel
theorem dX5_reflect_90 : decode cX5_reflect 90 = .ok (.iload 4, 2) := by decide +kernel
theorem dX5_reflect_92 : decode cX5_reflect 92 = .ok (.aload_n 0, 1) := by decide +kernel
theorem dX5_reflect_93 : decode cX5_reflect 93 = .ok (.getfield 13, 3) := by decide +kernel
theorem dX5_reflect_96 : decode cX5_reflect 96 = .ok (.iload_n 2, 1) := by decide +kernel
theorem dX5_reflect_97 : decode cX5_reflect 97 = .ok (.iaload, 1) := by decide +kernel
theorem dX5_reflect_98 : decode cX5_reflect 98 = .ok (.imul, 1) := by decide +kernel
theorem dX5_reflect_99 : decode cX5_reflect 99 = .ok (.isub, 1) := by decide +kernel
theorem dX5_reflect_100 : decode cX5_reflect 100 = .ok (.putfield 141, 3) := by decide +kernel
theorem dX5_reflect_103 : decode cX5_reflect 103 = .ok (.aload_n 0, 1) := by decide +kernel
theorem dX5_reflect_104 : decode cX5_reflect 104 = .ok (.iload_n 3, 1) := by decide +kernel
theorem dX5_reflect_105 : decode cX5_reflect 105 = .ok (.aload_n 0, 1) := by decide +kernel
theorem dX5_reflect_106 : decode cX5_reflect 106 = .ok (.getfield 16, 3) := by decide +kernel
theorem dX5_reflect_109 : decode cX5_reflect 109 = .ok (.iload_n 1, 1) := by decide +kernel
theorem dX5_reflect_110 : decode cX5_reflect 110 = .ok (.iaload, 1) := by decide +kernel
theorem dX5_reflect_111 : decode cX5_reflect 111 = .ok (.imul, 1) := by decide +kernel
theorem dX5_reflect_112 : decode cX5_reflect 112 = .ok (.iload 4, 2) := by decide +kernel
theorem dX5_reflect_114 : decode cX5_reflect 114 = .ok (.aload_n 0, 1) := by decide +kernel
theorem dX5_reflect_115 : decode cX5_reflect 115 = .ok (.getfield 16, 3) := by decide +kernel
theorem dX5_reflect_118 : decode cX5_reflect 118 = .ok (.iload_n 2, 1) := by decide +kernel
theorem dX5_reflect_119 : decode cX5_reflect 119 = .ok (.iaload, 1) := by decide +kernel
theorem dX5_reflect_120 : decode cX5_reflect 120 = .ok (.imul, 1) := by decide +kernel
theorem dX5_reflect_121 : decode cX5_reflect 121 = .ok (.isub, 1) := by decide +kernel
theorem dX5_reflect_122 : decode cX5_reflect 122 = .ok (.putfield 144, 3) := by decide +kernel
theorem dX5_reflect_125 : decode cX5_reflect 125 = .ok (.aload_n 0, 1) := by decide +kernel
theorem dX5_reflect_126 : decode cX5_reflect 126 = .ok (.aload_n 0, 1) := by decide +kernel
theorem dX5_reflect_127 : decode cX5_reflect 127 = .ok (.getfield 138, 3) := by decide +kernel
theorem dX5_reflect_130 : decode cX5_reflect 130 = .ok (.aload_n 0, 1) := by decide +kernel
theorem dX5_reflect_131 : decode cX5_reflect 131 = .ok (.getfield 141, 3) := by decide +kernel
theorem dX5_reflect_134 : decode cX5_reflect 134 = .ok (.aload_n 0, 1) := by decide +kernel
theorem dX5_reflect_135 : decode cX5_reflect 135 = .ok (.getfield 144, 3) := by decide +kernel
theorem dX5_reflect_138 : decode cX5_reflect 138 = .ok (.invokevirtual 66, 3) := by decide +kernel
theorem dX5_reflect_141 : decode cX5_reflect 141 = .ok (.ireturn, 1) := by decide +kernel
set_option maxRecDepth 20000 in
theorem ggX5_reflected_X5_lineIs : GoodIn wsX5_reflected wsX5_lineIs := goodIn_r _ [5, 6, 7, 8, 4, 9, 33, 34, 35, 36, 37, 38, 39, 40, 41, 42, 43, 44, 45, 46, 47, 48, 49, 50, 51] (by decide +kernel) (by decide +kernel)
set_option maxRecDepth 20000 in
theorem gX5_reflected_X5_lineIs : GoodIn wsX5_reflected (wsV RX5 70 RX5 yX5_lineIs wsX5_lineIs) := goodIn_app (goodIn_of _ (by decide +kernel)) ggX5_reflected_X5_lineIs
set_option maxRecDepth 20000 in
theorem ggX5_reflected_X5_fails : GoodIn wsX5_reflected wsX5_fails := goodIn_r _ [13, 14, 33, 34, 35, 36, 37, 38, 39, 40, 41, 42, 43, 44, 45, 46, 47, 48, 49, 50, 51] (by decide +kernel) (by decide +kernel)
set_option maxRecDepth 20000 in
theorem gX5_reflected_X5_fails : GoodIn wsX5_reflected (wsV RX5 62 RX5 yX5_fails wsX5_fails) := goodIn_app (goodIn_of _ (by decide +kernel)) ggX5_reflected_X5_fails
set_option maxRecDepth 20000 in
theorem ggX5_reflected_X5_reflect : GoodIn wsX5_reflected wsX5_reflect := goodIn_r _ [18, 19, 20, 21, 22, 23, 24, 25, 26, 27, 4, 28, 6, 29, 30, 31, 32, 33, 34, 35, 36, 37, 38, 39, 40, 41, 42, 43, 44, 45, 46, 47, 48, 49, 50, 51] (by decide +kernel) (by decide +kernel)
set_option maxRecDepth 20000 in
theorem gX5_reflected_X5_reflect : GoodIn wsX5_reflected (wsV RX5 147 RX5 yX5_reflect wsX5_reflect) := goodIn_app (goodIn_of _ (by decide +kernel)) ggX5_reflected_X5_reflect
theorem dX5_reflected_0 : decode cX5_reflected 0 = .ok (.aload_n 0, 1) := by decide +kernel
theorem dX5_reflected_1 : decode cX5_reflected 1 = .ok (.aload_n 0, 1) := by decide +kernel
theorem dX5_reflected_2 : decode cX5_reflected 2 = .ok (.iload_n 1, 1) := by decide +kernel
theorem dX5_reflected_3 : decode cX5_reflected 3 = .ok (.invokevirtual 70, 3) := by decide +kernel
theorem dX5_reflected_6 : decode cX5_reflected 6 = .ok (.iconst 1, 1) := by decide +kernel
theorem dX5_reflected_7 : decode cX5_reflected 7 = .ok (.invokevirtual 62, 3) := by decide +kernel
theorem dX5_reflected_10 : decode cX5_reflected 10 = .ok (.ifCond .eq 5, 3) := by decide +kernel
theorem dX5_reflected_13 : decode cX5_reflected 13 = .ok (.iconst 0, 1) := by decide +kernel
theorem dX5_reflected_14 : decode cX5_reflected 14 = .ok (.ireturn, 1) := by decide +kernel
theorem dX5_reflected_15 : decode cX5_reflected 15 = .ok (.aload_n 0, 1) := by decide +kernel
theorem dX5_reflected_16 : decode cX5_reflected 16 = .ok (.aload_n 0, 1) := by decide +kernel
theorem dX5_reflected_17 : decode cX5_reflected 17 = .ok (.iload_n 2, 1) := by decide +kernel
theorem dX5_reflected_18 : decode cX5_reflected 18 = .ok (.invokevirtual 70, 3) := by decide +kernel
theorem dX5_reflected_21 : decode cX5_reflected 21 = .ok (.iconst 1, 1) := by decide +kernel
theorem dX5_reflected_22 : decode cX5_reflected 22 = .ok (.invokevirtual 62, 3) := by decide +kernel
theorem dX5_reflected_25 : decode cX5_reflected 25 = .ok (.ifCond .eq 5, 3) := by decide +kernel
theorem dX5_reflected_28 : decode cX5_reflected 28 = .ok (.iconst 0, 1) := by decide +kernel
theorem dX5_reflected_29 : decode cX5_reflected 29 = .ok (.ireturn, 1) := by decide +kernel
theorem dX5_reflected_30 : decode cX5_reflected 30 = .ok (.aload_n 0, 1) := by decide +kernel
theorem dX5_reflected_31 : decode cX5_reflected 31 = .ok (.iload_n 1, 1) := by decide +kernel
theorem dX5_reflected_32 : decode cX5_reflected 32 = .ok (.iload_n 2, 1) := by decide +kernel
theorem dX5_reflected_33 : decode cX5_reflected 33 = .ok (.invokevirtual 147, 3) := by decide +kernel
theorem dX5_reflected_36 : decode cX5_reflected 36 = .ok (.ireturn, 1) := by decide +kernel
set_option maxRecDepth 20000 in
theorem ggX5_isKaleidoscope_X5_reflect : GoodIn wsX5_isKaleidoscope wsX5_reflect := goodIn_r _ [7, 8, 9, 10, 11, 12, 13, 14, 15, 16, 6, 17, 2, 18, 19, 20, 21, 22, 23, 24, 25, 26, 27, 28, 29, 30, 31, 32, 33, 34, 35, 36, 37, 38, 39, 40] (by decide +kernel) (by decide +kernel)
set_option maxRecDepth 20000 in
theorem gX5_isKaleidoscope_X5_reflect : GoodIn wsX5_isKaleidoscope (wsV RX5 147 RX5 yX5_reflect wsX5_reflect) := goodIn_app (goodIn_of _ (by decide +kernel)) ggX5_isKaleidoscope_X5_reflect
theorem dX5_isKaleidoscope_0 : decode cX5_isKaleidoscope 0 = .ok (.aload_n 0, 1) := by decide +kernel
theorem dX5_isKaleidoscope_1 : decode cX5_isKaleidoscope 1 = .ok (.iconst 0, 1) := by decide +kernel
theorem dX5_isKaleidoscope_2 : decode cX5_isKaleidoscope 2 = .ok (.putfield 47, 3) := by decide +kernel
theorem dX5_isKaleidoscope_5 : decode cX5_isKaleidoscope 5 = .ok (.iconst 1, 1) := by decide +kernel
theorem dX5_isKaleidoscope_6 : decode cX5_isKaleidoscope 6 = .ok (.istore_n 1, 1) := by decide +kernel
theorem dX5_isKaleidoscope_7 : decode cX5_isKaleidoscope 7 = .ok (.iconst 0, 1) := by decide +kernel
theorem dX5_isKaleidoscope_8 : decode cX5_isKaleidoscope 8 = .ok (.istore_n 2, 1) := by decide +kernel
theorem dX5_isKaleidoscope_9 : decode cX5_isKaleidoscope 9 = .ok (.iload_n 2, 1) := by decide +kernel
theorem dX5_isKaleidoscope_10 : decode cX5_isKaleidoscope 10 = .ok (.aload_n 0, 1) := by decide +kernel
theorem dX5_isKaleidoscope_11 : decode cX5_isKaleidoscope 11 = .ok (.getfield 51, 3) := by decide +kernel
theorem dX5_isKaleidoscope_14 : decode cX5_isKaleidoscope 14 = .ok (.if_icmp .ge 43, 3) := by decide +kernel
theorem dX5_isKaleidoscope_17 : decode cX5_isKaleidoscope 17 = .ok (.iconst 0, 1) := by decide +kernel
theorem dX5_isKaleidoscope_18 : decode cX5_isKaleidoscope 18 = .ok (.istore_n 3, 1) := by decide +kernel
theorem dX5_isKaleidoscope_19 : decode cX5_isKaleidoscope 19 = .ok (.iload_n 3, 1) := by decide +kernel
theorem dX5_isKaleidoscope_20 : decode cX5_isKaleidoscope 20 = .ok (.aload_n 0, 1) := by decide +kernel
theorem dX5_isKaleidoscope_21 : decode cX5_isKaleidoscope 21 = .ok (.getfield 51, 3) := by decide +kernel
theorem dX5_isKaleidoscope_24 : decode cX5_isKaleidoscope 24 = .ok (.if_icmp .ge 27, 3) := by decide +kernel
theorem dX5_isKaleidoscope_27 : decode cX5_isKaleidoscope 27 = .ok (.iload_n 1, 1) := by decide +kernel
theorem dX5_isKaleidoscope_28 : decode cX5_isKaleidoscope 28 = .ok (.aload_n 0, 1) := by decide +kernel
theorem dX5_isKaleidoscope_29 : decode cX5_isKaleidoscope 29 = .ok (.iload_n 2, 1) := by decide +kernel
theorem dX5_isKaleidoscope_30 : decode cX5_isKaleidoscope 30 = .ok (.iload_n 3, 1) := by decide +kernel
theorem dX5_isKaleidoscope_31 : decode cX5_isKaleidoscope 31 = .ok (.invokevirtual 147, 3) := by decide +kernel
theorem dX5_isKaleidoscope_34 : decode cX5_isKaleidoscope 34 = .ok (.iconst (-1), 1) := by decide +kernel
theorem dX5_isKaleidoscope_35 : decode cX5_isKaleidoscope 35 = .ok (.if_icmp .eq 7, 3) := by decide +kernel
theorem dX5_isKaleidoscope_38 : decode cX5_isKaleidoscope 38 = .ok (.iconst 1, 1) := by decide +kernel
theorem dX5_isKaleidoscope_39 : decode cX5_isKaleidoscope 39 = .ok (.goto 4, 3) := by decide +kernel
theorem dX5_isKaleidoscope_42 : decode cX5_isKaleidoscope 42 = .ok (.iconst 0, 1) := by decide +kernel
theorem dX5_isKaleidoscope_43 : decode cX5_isKaleidoscope 43 = .ok (.iand, 1) := by decide +kernel
theorem dX5_isKaleidoscope_44 : decode cX5_isKaleidoscope 44 = .ok (.istore_n 1, 1) := by decide +kernel
theorem dX5_isKaleidoscope_45 : decode cX5_isKaleidoscope 45 = .ok (.iinc 3 1, 3) := by decide +kernel
theorem dX5_isKaleidoscope_48 : decode cX5_isKaleidoscope 48 = .ok (.goto (-29), 3) := by decide +kernel
theorem dX5_isKaleidoscope_51 : decode cX5_isKaleidoscope 51 = .ok (.iinc 2 1, 3) := by decide +kernel
theorem dX5_isKaleidoscope_54 : decode cX5_isKaleidoscope 54 = .ok (.goto (-45), 3) := by decide +kernel
theorem dX5_isKaleidoscope_57 : decode cX5_isKaleidoscope 57 = .ok (.iload_n 1, 1) := by decide +kernel
theorem dX5_isKaleidoscope_58 : decode cX5_isKaleidoscope 58 = .ok (.ireturn, 1) := by decide +kernel
set_option maxRecDepth 20000 in
theorem ggX5_isPair_X5_through : GoodIn wsX5_isPair wsX5_through := goodIn_r _ [6, 7, 8, 9, 10, 5, 11, 12, 13, 14, 15, 16, 17, 18, 19, 20, 21, 22, 23, 24, 25, 26, 27, 28, 29, 30, 31, 32, 33, 34, 35, 36, 37, 38, 39] (by decide +kernel) (by decide +kernel)
set_option maxRecDepth 20000 in
theorem gX5_isPair_X5_through : GoodIn wsX5_isPair (wsV RX5 95 RX5 yX5_through wsX5_through) := goodIn_app (goodIn_of _ (by decide +kernel)) ggX5_isPair_X5_through
theorem dX5_isPair_0 : decode cX5_isPair 0 = .ok (.iconst 0, 1) := by decide +kernel
theorem dX5_isPair_1 : decode cX5_isPair 1 = .ok (.istore_n 3, 1) := by decide +kernel
theorem dX5_isPair_2 : decode cX5_isPair 2 = .ok (.iconst 0, 1) := by decide +kernel
theorem dX5_isPair_3 : decode cX5_isPair 3 = .ok (.istore 4, 2) := by decide +kernel
theorem dX5_isPair_5 : decode cX5_isPair 5 = .ok (.iload 4, 2) := by decide +kernel
theorem dX5_isPair_7 : decode cX5_isPair 7 = .ok (.aload_n 0, 1) := by decide +kernel
theorem dX5_isPair_8 : decode cX5_isPair 8 = .ok (.getfield 78, 3) := by decide +kernel
theorem dX5_isPair_11 : decode cX5_isPair 11 = .ok (.if_icmp .ge 56, 3) := by decide +kernel
theorem dX5_isPair_14 : decode cX5_isPair 14 = .ok (.aload_n 0, 1) := by decide +kernel
theorem dX5_isPair_15 : decode cX5_isPair 15 = .ok (.iload 4, 2) := by decide +kernel
theorem dX5_isPair_17 : decode cX5_isPair 17 = .ok (.invokevirtual 95, 3) := by decide +kernel
theorem dX5_isPair_20 : decode cX5_isPair 20 = .ok (.istore 5, 2) := by decide +kernel
theorem dX5_isPair_22 : decode cX5_isPair 22 = .ok (.iload_n 3, 1) := by decide +kernel
theorem dX5_isPair_23 : decode cX5_isPair 23 = .ok (.iload 5, 2) := by decide +kernel
theorem dX5_isPair_25 : decode cX5_isPair 25 = .ok (.iload_n 1, 1) := by decide +kernel
theorem dX5_isPair_26 : decode cX5_isPair 26 = .ok (.ishr, 1) := by decide +kernel
theorem dX5_isPair_27 : decode cX5_isPair 27 = .ok (.iconst 1, 1) := by decide +kernel
theorem dX5_isPair_28 : decode cX5_isPair 28 = .ok (.iand, 1) := by decide +kernel
theorem dX5_isPair_29 : decode cX5_isPair 29 = .ok (.iconst 1, 1) := by decide +kernel
theorem dX5_isPair_30 : decode cX5_isPair 30 = .ok (.if_icmp .ne 28, 3) := by decide +kernel
theorem dX5_isPair_33 : decode cX5_isPair 33 = .ok (.iload 5, 2) := by decide +kernel
theorem dX5_isPair_35 : decode cX5_isPair 35 = .ok (.iload_n 2, 1) := by decide +kernel
theorem dX5_isPair_36 : decode cX5_isPair 36 = .ok (.ishr, 1) := by decide +kernel
theorem dX5_isPair_37 : decode cX5_isPair 37 = .ok (.iconst 1, 1) := by decide +kernel
theorem dX5_isPair_38 : decode cX5_isPair 38 = .ok (.iand, 1) := by decide +kernel
theorem dX5_isPair_39 : decode cX5_isPair 39 = .ok (.iconst 1, 1) := by decide +kernel
theorem dX5_isPair_40 : decode cX5_isPair 40 = .ok (.if_icmp .ne 18, 3) := by decide +kernel
theorem dX5_isPair_43 : decode cX5_isPair 43 = .ok (.iload 5, 2) := by decide +kernel
theorem dX5_isPair_45 : decode cX5_isPair 45 = .ok (.iconst 1, 1) := by decide +kernel
theorem dX5_isPair_46 : decode cX5_isPair 46 = .ok (.iload_n 1, 1) := by decide +kernel
theorem dX5_isPair_47 : decode cX5_isPair 47 = .ok (.ishl, 1) := by decide +kernel
theorem dX5_isPair_48 : decode cX5_isPair 48 = .ok (.iconst 1, 1) := by decide +kernel
theorem dX5_isPair_49 : decode cX5_isPair 49 = .ok (.isub, 1) := by decide +kernel
theorem dX5_isPair_50 : decode cX5_isPair 50 = .ok (.iand, 1) := by decide +kernel
theorem dX5_isPair_51 : decode cX5_isPair 51 = .ok (.ifCond .ne 7, 3) := by decide +kernel
theorem dX5_isPair_54 : decode cX5_isPair 54 = .ok (.iconst 1, 1) := by decide +kernel
theorem dX5_isPair_55 : decode cX5_isPair 55 = .ok (.goto 4, 3) := by decide +kernel
theorem dX5_isPair_58 : decode cX5_isPair 58 = .ok (.iconst 0, 1) := by decide +kernel
theorem dX5_isPair_59 : decode cX5_isPair 59 = .ok (.ior, 1) := by decide +kernel
theorem dX5_isPair_60 : decode cX5_isPair 60 = .ok (.istore_n 3, 1) := by decide +kernel
theorem dX5_isPair_61 : decode cX5_isPair 61 = .ok (.iinc 4 1, 3) := by decide +kernel
theorem dX5_isPair_64 : decode cX5_isPair 64 = .ok (.goto (-59), 3) := by decide +kernel
theorem dX5_isPair_67 : decode cX5_isPair 67 = .ok (.iload_n 3, 1) := by decide +kernel
theorem dX5_isPair_68 : decode cX5_isPair 68 = .ok (.ireturn, 1) := by decide +kernel
set_option maxRecDepth 20000 in
theorem ggX5_pairs_X5_findMeets : GoodIn wsX5_pairs wsX5_findMeets := goodIn_r _ [7, 8, 2, 9, 10, 11, 12, 13, 6, 14, 15, 16, 17, 18, 19, 20, 21, 22, 23, 24, 37, 38, 39, 40, 41, 42, 43, 44, 45, 46, 47, 48, 49, 50, 51, 52, 53, 54, 55] (by decide +kernel) (by decide +kernel)
set_option maxRecDepth 20000 in
theorem gX5_pairs_X5_findMeets : GoodIn wsX5_pairs (wsV RX5 92 RX5 yX5_findMeets wsX5_findMeets) := goodIn_app (goodIn_of _ (by decide +kernel)) ggX5_pairs_X5_findMeets
set_option maxRecDepth 20000 in
theorem ggX5_pairs_X5_isPair : GoodIn wsX5_pairs wsX5_isPair := goodIn_r _ [28, 8, 29, 30, 31, 6, 32, 2, 33, 34, 35, 36, 9, 22, 10, 24, 11, 23, 15, 16, 17, 37, 38, 39, 40, 41, 42, 43, 44, 45, 46, 47, 48, 49, 50, 51, 52, 53, 54, 55] (by decide +kernel) (by decide +kernel)
set_option maxRecDepth 20000 in
theorem gX5_pairs_X5_isPair : GoodIn wsX5_pairs (wsV RX5 150 RX5 yX5_isPair wsX5_isPair) := goodIn_app (goodIn_of _ (by decide +kernel)) ggX5_pairs_X5_isPair
theorem dX5_pairs_0 : decode cX5_pairs 0 = .ok (.aload_n 0, 1) := by decide +kernel
theorem dX5_pairs_1 : decode cX5_pairs 1 = .ok (.iconst 0, 1) := by decide +kernel
theorem dX5_pairs_2 : decode cX5_pairs 2 = .ok (.putfield 47, 3) := by decide +kernel
theorem dX5_pairs_5 : decode cX5_pairs 5 = .ok (.aload_n 0, 1) := by decide +kernel
theorem dX5_pairs_6 : decode cX5_pairs 6 = .ok (.invokevirtual 92, 3) := by decide +kernel
theorem dX5_pairs_9 : decode cX5_pairs 9 = .ok (.iconst 0, 1) := by decide +kernel
theorem dX5_pairs_10 : decode cX5_pairs 10 = .ok (.istore_n 1, 1) := by decide +kernel
theorem dX5_pairs_11 : decode cX5_pairs 11 = .ok (.iconst 0, 1) := by decide +kernel
theorem dX5_pairs_12 : decode cX5_pairs 12 = .ok (.istore_n 2, 1) := by decide +kernel
theorem dX5_pairs_13 : decode cX5_pairs 13 = .ok (.iload_n 2, 1) := by decide +kernel
theorem dX5_pairs_14 : decode cX5_pairs 14 = .ok (.aload_n 0, 1) := by decide +kernel
theorem dX5_pairs_15 : decode cX5_pairs 15 = .ok (.getfield 51, 3) := by decide +kernel
theorem dX5_pairs_18 : decode cX5_pairs 18 = .ok (.if_icmp .ge 44, 3) := by decide +kernel
theorem dX5_pairs_21 : decode cX5_pairs 21 = .ok (.iload_n 2, 1) := by decide +kernel
theorem dX5_pairs_22 : decode cX5_pairs 22 = .ok (.iconst 1, 1) := by decide +kernel
theorem dX5_pairs_23 : decode cX5_pairs 23 = .ok (.iadd, 1) := by decide +kernel
theorem dX5_pairs_24 : decode cX5_pairs 24 = .ok (.istore_n 3, 1) := by decide +kernel
theorem dX5_pairs_25 : decode cX5_pairs 25 = .ok (.iload_n 3, 1) := by decide +kernel
theorem dX5_pairs_26 : decode cX5_pairs 26 = .ok (.aload_n 0, 1) := by decide +kernel
theorem dX5_pairs_27 : decode cX5_pairs 27 = .ok (.getfield 51, 3) := by decide +kernel
theorem dX5_pairs_30 : decode cX5_pairs 30 = .ok (.if_icmp .ge 26, 3) := by decide +kernel
theorem dX5_pairs_33 : decode cX5_pairs 33 = .ok (.iload_n 1, 1) := by decide +kernel
theorem dX5_pairs_34 : decode cX5_pairs 34 = .ok (.aload_n 0, 1) := by decide +kernel
theorem dX5_pairs_35 : decode cX5_pairs 35 = .ok (.iload_n 2, 1) := by decide +kernel
theorem dX5_pairs_36 : decode cX5_pairs 36 = .ok (.iload_n 3, 1) := by decide +kernel
theorem dX5_pairs_37 : decode cX5_pairs 37 = .ok (.invokevirtual 150, 3) := by decide +kernel
theorem dX5_pairs_40 : decode cX5_pairs 40 = .ok (.ifCond .eq 7, 3) := by decide +kernel
theorem dX5_pairs_43 : decode cX5_pairs 43 = .ok (.iconst 1, 1) := by decide +kernel
theorem dX5_pairs_44 : decode cX5_pairs 44 = .ok (.goto 4, 3) := by decide +kernel
theorem dX5_pairs_47 : decode cX5_pairs 47 = .ok (.iconst 0, 1) := by decide +kernel
theorem dX5_pairs_48 : decode cX5_pairs 48 = .ok (.iadd, 1) := by decide +kernel
theorem dX5_pairs_49 : decode cX5_pairs 49 = .ok (.istore_n 1, 1) := by decide +kernel
theorem dX5_pairs_50 : decode cX5_pairs 50 = .ok (.iinc 3 1, 3) := by decide +kernel
theorem dX5_pairs_53 : decode cX5_pairs 53 = .ok (.goto (-28), 3) := by decide +kernel
theorem dX5_pairs_56 : decode cX5_pairs 56 = .ok (.iinc 2 1, 3) := by decide +kernel
theorem dX5_pairs_59 : decode cX5_pairs 59 = .ok (.goto (-46), 3) := by decide +kernel
theorem dX5_pairs_62 : decode cX5_pairs 62 = .ok (.iload_n 1, 1) := by decide +kernel
theorem dX5_pairs_63 : decode cX5_pairs 63 = .ok (.ireturn, 1) := by decide +kernel
set_option maxRecDepth 20000 in
theorem ggX5_pair_X5_fails : GoodIn wsX5_pair wsX5_fails := goodIn_r _ [6, 7, 41, 42, 43, 44, 45, 46, 47, 48, 49, 50, 51, 52, 53, 54, 55, 56, 57, 58, 59] (by decide +kernel) (by decide +kernel)
set_option maxRecDepth 20000 in
theorem gX5_pair_X5_fails : GoodIn wsX5_pair (wsV RX5 62 RX5 yX5_fails wsX5_fails) := goodIn_app (goodIn_of _ (by decide +kernel)) ggX5_pair_X5_fails
set_option maxRecDepth 20000 in
theorem ggX5_pair_X5_findMeets : GoodIn wsX5_pair wsX5_findMeets := goodIn_r _ [11, 12, 1, 13, 14, 15, 16, 17, 5, 18, 19, 20, 21, 22, 23, 24, 25, 26, 27, 28, 41, 42, 43, 44, 45, 46, 47, 48, 49, 50, 51, 52, 53, 54, 55, 56, 57, 58, 59] (by decide +kernel) (by decide +kernel)
