theorem dL_holds_0 : decode cL_holds 0 = .ok (.iconst 0, 1) := by decide +kernel
theorem dL_holds_1 : decode cL_holds 1 = .ok (.istore_n 2, 1) := by decide +kernel
theorem dL_holds_2 : decode cL_holds 2 = .ok (.iconst 0, 1) := by decide +kernel
theorem dL_holds_3 : decode cL_holds 3 = .ok (.istore_n 3, 1) := by decide +kernel
theorem dL_holds_4 : decode cL_holds 4 = .ok (.iconst 0, 1) := by decide +kernel
theorem dL_holds_5 : decode cL_holds 5 = .ok (.istore 4, 2) := by decide +kernel
theorem dL_holds_7 : decode cL_holds 7 = .ok (.aload_n 0, 1) := by decide +kernel
theorem dL_holds_8 : decode cL_holds 8 = .ok (.invokevirtual 11, 3) := by decide +kernel
theorem dL_holds_11 : decode cL_holds 11 = .ok (.ifCond .lt 48, 3) := by decide +kernel
theorem dL_holds_14 : decode cL_holds 14 = .ok (.aload_n 0, 1) := by decide +kernel
theorem dL_holds_15 : decode cL_holds 15 = .ok (.invokevirtual 11, 3) := by decide +kernel
theorem dL_holds_18 : decode cL_holds 18 = .ok (.bipush 100, 2) := by decide +kernel
theorem dL_holds_20 : decode cL_holds 20 = .ok (.if_icmp .gt 39, 3) := by decide +kernel
theorem dL_holds_23 : decode cL_holds 23 = .ok (.aload_n 0, 1) := by decide +kernel
theorem dL_holds_24 : decode cL_holds 24 = .ok (.iconst 0, 1) := by decide +kernel
theorem dL_holds_25 : decode cL_holds 25 = .ok (.invokevirtual 27, 3) := by decide +kernel
theorem dL_holds_28 : decode cL_holds 28 = .ok (.aload_n 0, 1) := by decide +kernel
theorem dL_holds_29 : decode cL_holds 29 = .ok (.iconst 5, 1) := by decide +kernel
theorem dL_holds_30 : decode cL_holds 30 = .ok (.invokevirtual 27, 3) := by decide +kernel
theorem dL_holds_33 : decode cL_holds 33 = .ok (.if_icmp .lt 26, 3) := by decide +kernel
theorem dL_holds_36 : decode cL_holds 36 = .ok (.aload_n 0, 1) := by decide +kernel
theorem dL_holds_37 : decode cL_holds 37 = .ok (.invokevirtual 96, 3) := by decide +kernel
theorem dL_holds_40 : decode cL_holds 40 = .ok (.fconst 0, 1) := by decide +kernel
theorem dL_holds_41 : decode cL_holds 41 = .ok (.fcmp .l, 1) := by decide +kernel
theorem dL_holds_42 : decode cL_holds 42 = .ok (.ifCond .lt 17, 3) := by decide +kernel
theorem dL_holds_45 : decode cL_holds 45 = .ok (.aload_n 0, 1) := by decide +kernel
theorem dL_holds_46 : decode cL_holds 46 = .ok (.invokevirtual 96, 3) := by decide +kernel
theorem dL_holds_49 : decode cL_holds 49 = .ok (.ldc 100, 2) := by decide +kernel
theorem dL_holds_51 : decode cL_holds 51 = .ok (.fcmp .g, 1) := by decide +kernel
theorem dL_holds_52 : decode cL_holds 52 = .ok (.ifCond .gt 7, 3) := by decide +kernel
theorem dL_holds_55 : decode cL_holds 55 = .ok (.iconst 1, 1) := by decide +kernel
theorem dL_holds_56 : decode cL_holds 56 = .ok (.goto 4, 3) := by decide +kernel
theorem dL_holds_59 : decode cL_holds 59 = .ok (.iconst 0, 1) := by decide +kernel
theorem dL_holds_60 : decode cL_holds 60 = .ok (.istore 5, 2) := by decide +kernel
theorem dL_holds_62 : decode cL_holds 62 = .ok (.iconst 0, 1) := by decide +kernel
theorem dL_holds_63 : decode cL_holds 63 = .ok (.istore 6, 2) := by decide +kernel
theorem dL_holds_65 : decode cL_holds 65 = .ok (.iload 6, 2) := by decide +kernel
theorem dL_holds_67 : decode cL_holds 67 = .ok (.bipush 12, 2) := by decide +kernel
theorem dL_holds_69 : decode cL_holds 69 = .ok (.if_icmp .ge 175, 3) := by decide +kernel
theorem dL_holds_72 : decode cL_holds 72 = .ok (.aload_n 0, 1) := by decide +kernel
theorem dL_holds_73 : decode cL_holds 73 = .ok (.iload 6, 2) := by decide +kernel
theorem dL_holds_75 : decode cL_holds 75 = .ok (.iconst 3, 1) := by decide +kernel
theorem dL_holds_76 : decode cL_holds 76 = .ok (.idiv, 1) := by decide +kernel
theorem dL_holds_77 : decode cL_holds 77 = .ok (.iload 6, 2) := by decide +kernel
theorem dL_holds_79 : decode cL_holds 79 = .ok (.iconst 3, 1) := by decide +kernel
theorem dL_holds_80 : decode cL_holds 80 = .ok (.irem, 1) := by decide +kernel
theorem dL_holds_81 : decode cL_holds 81 = .ok (.iconst 0, 1) := by decide +kernel
theorem dL_holds_82 : decode cL_holds 82 = .ok (.invokevirtual 31, 3) := by decide +kernel
theorem dL_holds_85 : decode cL_holds 85 = .ok (.istore 7, 2) := by decide +kernel
theorem dL_holds_87 : decode cL_holds 87 = .ok (.iload 7, 2) := by decide +kernel
theorem dL_holds_89 : decode cL_holds 89 = .ok (.iconst (-1), 1) := by decide +kernel
theorem dL_holds_90 : decode cL_holds 90 = .ok (.if_icmp .eq 148, 3) := by decide +kernel
theorem dL_holds_93 : decode cL_holds 93 = .ok (.iinc 2 1, 3) := by decide +kernel
theorem dL_holds_96 : decode cL_holds 96 = .ok (.iload_n 3, 1) := by decide +kernel
theorem dL_holds_97 : decode cL_holds 97 = .ok (.aload_n 0, 1) := by decide +kernel
theorem dL_holds_98 : decode cL_holds 98 = .ok (.iload 6, 2) := by decide +kernel
theorem dL_holds_100 : decode cL_holds 100 = .ok (.iconst 3, 1) := by decide +kernel
theorem dL_holds_101 : decode cL_holds 101 = .ok (.idiv, 1) := by decide +kernel
theorem dL_holds_102 : decode cL_holds 102 = .ok (.iload 6, 2) := by decide +kernel
theorem dL_holds_104 : decode cL_holds 104 = .ok (.iconst 3, 1) := by decide +kernel
theorem dL_holds_105 : decode cL_holds 105 = .ok (.irem, 1) := by decide +kernel
theorem dL_holds_106 : decode cL_holds 106 = .ok (.iconst 4, 1) := by decide +kernel
theorem dL_holds_107 : decode cL_holds 107 = .ok (.invokevirtual 31, 3) := by decide +kernel
theorem dL_holds_110 : decode cL_holds 110 = .ok (.iadd, 1) := by decide +kernel
theorem dL_holds_111 : decode cL_holds 111 = .ok (.istore_n 3, 1) := by decide +kernel
theorem dL_holds_112 : decode cL_holds 112 = .ok (.iload 5, 2) := by decide +kernel
theorem dL_holds_114 : decode cL_holds 114 = .ok (.ifCond .eq 63, 3) := by decide +kernel
theorem dL_holds_117 : decode cL_holds 117 = .ok (.iload 7, 2) := by decide +kernel
theorem dL_holds_119 : decode cL_holds 119 = .ok (.iconst 4, 1) := by decide +kernel
theorem dL_holds_120 : decode cL_holds 120 = .ok (.idiv, 1) := by decide +kernel
theorem dL_holds_121 : decode cL_holds 121 = .ok (.iconst 4, 1) := by decide +kernel
theorem dL_holds_122 : decode cL_holds 122 = .ok (.irem, 1) := by decide +kernel
theorem dL_holds_123 : decode cL_holds 123 = .ok (.iload 6, 2) := by decide +kernel
theorem dL_holds_125 : decode cL_holds 125 = .ok (.iconst 3, 1) := by decide +kernel
theorem dL_holds_126 : decode cL_holds 126 = .ok (.idiv, 1) := by decide +kernel
theorem dL_holds_127 : decode cL_holds 127 = .ok (.if_icmp .ne 50, 3) := by decide +kernel
theorem dL_holds_130 : decode cL_holds 130 = .ok (.aload_n 0, 1) := by decide +kernel
theorem dL_holds_131 : decode cL_holds 131 = .ok (.iload 7, 2) := by decide +kernel
theorem dL_holds_133 : decode cL_holds 133 = .ok (.invokestatic 45, 3) := by decide +kernel
theorem dL_holds_136 : decode cL_holds 136 = .ok (.iload 6, 2) := by decide +kernel
theorem dL_holds_138 : decode cL_holds 138 = .ok (.if_icmp .ne 39, 3) := by decide +kernel
theorem dL_holds_141 : decode cL_holds 141 = .ok (.aload_n 0, 1) := by decide +kernel
theorem dL_holds_142 : decode cL_holds 142 = .ok (.iload 6, 2) := by decide +kernel
theorem dL_holds_144 : decode cL_holds 144 = .ok (.iconst 3, 1) := by decide +kernel
theorem dL_holds_145 : decode cL_holds 145 = .ok (.idiv, 1) := by decide +kernel
theorem dL_holds_146 : decode cL_holds 146 = .ok (.iload 6, 2) := by decide +kernel
theorem dL_holds_148 : decode cL_holds 148 = .ok (.iconst 3, 1) := by decide +kernel
theorem dL_holds_149 : decode cL_holds 149 = .ok (.irem, 1) := by decide +kernel
theorem dL_holds_150 : decode cL_holds 150 = .ok (.iconst 2, 1) := by decide +kernel
theorem dL_holds_151 : decode cL_holds 151 = .ok (.invokevirtual 31, 3) := by decide +kernel
theorem dL_holds_154 : decode cL_holds 154 = .ok (.ifCond .le 23, 3) := by decide +kernel
theorem dL_holds_157 : decode cL_holds 157 = .ok (.aload_n 0, 1) := by decide +kernel
theorem dL_holds_158 : decode cL_holds 158 = .ok (.iload 6, 2) := by decide +kernel
theorem dL_holds_160 : decode cL_holds 160 = .ok (.iconst 3, 1) := by decide +kernel
theorem dL_holds_161 : decode cL_holds 161 = .ok (.idiv, 1) := by decide +kernel
theorem dL_holds_162 : decode cL_holds 162 = .ok (.iload 6, 2) := by decide +kernel
theorem dL_holds_164 : decode cL_holds 164 = .ok (.iconst 3, 1) := by decide +kernel
theorem dL_holds_165 : decode cL_holds 165 = .ok (.irem, 1) := by decide +kernel
theorem dL_holds_166 : decode cL_holds 166 = .ok (.iconst 3, 1) := by decide +kernel
theorem dL_holds_167 : decode cL_holds 167 = .ok (.invokevirtual 31, 3) := by decide +kernel
theorem dL_holds_170 : decode cL_holds 170 = .ok (.ifCond .le 7, 3) := by decide +kernel
theorem dL_holds_173 : decode cL_holds 173 = .ok (.iconst 1, 1) := by decide +kernel
theorem dL_holds_174 : decode cL_holds 174 = .ok (.goto 4, 3) := by decide +kernel
theorem dL_holds_177 : decode cL_holds 177 = .ok (.iconst 0, 1) := by decide +kernel
theorem dL_holds_178 : decode cL_holds 178 = .ok (.istore 5, 2) := by decide +kernel
theorem dL_holds_180 : decode cL_holds 180 = .ok (.iload 5, 2) := by decide +kernel
theorem dL_holds_182 : decode cL_holds 182 = .ok (.ifCond .eq 53, 3) := by decide +kernel
theorem dL_holds_185 : decode cL_holds 185 = .ok (.aload_n 0, 1) := by decide +kernel
theorem dL_holds_186 : decode cL_holds 186 = .ok (.invokevirtual 21, 3) := by decide +kernel
theorem dL_holds_189 : decode cL_holds 189 = .ok (.ifCond .eq 42, 3) := by decide +kernel
theorem dL_holds_192 : decode cL_holds 192 = .ok (.aload_n 0, 1) := by decide +kernel
theorem dL_holds_193 : decode cL_holds 193 = .ok (.iload 6, 2) := by decide +kernel
theorem dL_holds_195 : decode cL_holds 195 = .ok (.iconst 3, 1) := by decide +kernel
theorem dL_holds_196 : decode cL_holds 196 = .ok (.idiv, 1) := by decide +kernel
theorem dL_holds_197 : decode cL_holds 197 = .ok (.iload 6, 2) := by decide +kernel
theorem dL_holds_199 : decode cL_holds 199 = .ok (.iconst 3, 1) := by decide +kernel
theorem dL_holds_200 : decode cL_holds 200 = .ok (.irem, 1) := by decide +kernel
theorem dL_holds_201 : decode cL_holds 201 = .ok (.iconst 4, 1) := by decide +kernel
theorem dL_holds_202 : decode cL_holds 202 = .ok (.invokevirtual 31, 3) := by decide +kernel
theorem dL_holds_205 : decode cL_holds 205 = .ok (.iconst 1, 1) := by decide +kernel
theorem dL_holds_206 : decode cL_holds 206 = .ok (.if_icmp .eq 25, 3) := by decide +kernel
theorem dL_holds_209 : decode cL_holds 209 = .ok (.aload_n 0, 1) := by decide +kernel
theorem dL_holds_210 : decode cL_holds 210 = .ok (.iload 7, 2) := by decide +kernel
theorem dL_holds_212 : decode cL_holds 212 = .ok (.invokevirtual 35, 3) := by decide +kernel
theorem dL_holds_215 : decode cL_holds 215 = .ok (.aload_n 0, 1) := by decide +kernel
theorem dL_holds_216 : decode cL_holds 216 = .ok (.iload 6, 2) := by decide +kernel
theorem dL_holds_218 : decode cL_holds 218 = .ok (.iconst 3, 1) := by decide +kernel
theorem dL_holds_219 : decode cL_holds 219 = .ok (.idiv, 1) := by decide +kernel
theorem dL_holds_220 : decode cL_holds 220 = .ok (.iload 6, 2) := by decide +kernel
theorem dL_holds_222 : decode cL_holds 222 = .ok (.iconst 3, 1) := by decide +kernel
theorem dL_holds_223 : decode cL_holds 223 = .ok (.irem, 1) := by decide +kernel
theorem dL_holds_224 : decode cL_holds 224 = .ok (.iconst 1, 1) := by decide +kernel
theorem dL_holds_225 : decode cL_holds 225 = .ok (.invokevirtual 31, 3) := by decide +kernel
theorem dL_holds_228 : decode cL_holds 228 = .ok (.if_icmp .ne 7, 3) := by decide +kernel
theorem dL_holds_231 : decode cL_holds 231 = .ok (.iconst 1, 1) := by decide +kernel
theorem dL_holds_232 : decode cL_holds 232 = .ok (.goto 4, 3) := by decide +kernel
theorem dL_holds_235 : decode cL_holds 235 = .ok (.iconst 0, 1) := by decide +kernel
theorem dL_holds_236 : decode cL_holds 236 = .ok (.istore 5, 2) := by decide +kernel
theorem dL_holds_238 : decode cL_holds 238 = .ok (.iinc 6 1, 3) := by decide +kernel
theorem dL_holds_241 : decode cL_holds 241 = .ok (.goto (-176), 3) := by decide +kernel
theorem dL_holds_244 : decode cL_holds 244 = .ok (.iconst 0, 1) := by decide +kernel
theorem dL_holds_245 : decode cL_holds 245 = .ok (.istore 6, 2) := by decide +kernel
theorem dL_holds_247 : decode cL_holds 247 = .ok (.iload 6, 2) := by decide +kernel
theorem dL_holds_249 : decode cL_holds 249 = .ok (.bipush 16, 2) := by decide +kernel
theorem dL_holds_251 : decode cL_holds 251 = .ok (.if_icmp .ge 40, 3) := by decide +kernel
theorem dL_holds_254 : decode cL_holds 254 = .ok (.iload 5, 2) := by decide +kernel
theorem dL_holds_256 : decode cL_holds 256 = .ok (.ifCond .eq 26, 3) := by decide +kernel
theorem dL_holds_259 : decode cL_holds 259 = .ok (.aload_n 0, 1) := by decide +kernel
theorem dL_holds_260 : decode cL_holds 260 = .ok (.iload 6, 2) := by decide +kernel
theorem dL_holds_262 : decode cL_holds 262 = .ok (.invokevirtual 83, 3) := by decide +kernel
theorem dL_holds_265 : decode cL_holds 265 = .ok (.ifCond .lt 17, 3) := by decide +kernel
theorem dL_holds_268 : decode cL_holds 268 = .ok (.aload_n 0, 1) := by decide +kernel
theorem dL_holds_269 : decode cL_holds 269 = .ok (.iload 6, 2) := by decide +kernel
theorem dL_holds_271 : decode cL_holds 271 = .ok (.invokevirtual 83, 3) := by decide +kernel
theorem dL_holds_274 : decode cL_holds 274 = .ok (.iconst 3, 1) := by decide +kernel
theorem dL_holds_275 : decode cL_holds 275 = .ok (.if_icmp .gt 7, 3) := by decide +kernel
theorem dL_holds_278 : decode cL_holds 278 = .ok (.iconst 1, 1) := by decide +kernel
theorem dL_holds_279 : decode cL_holds 279 = .ok (.goto 4, 3) := by decide +kernel
theorem dL_holds_282 : decode cL_holds 282 = .ok (.iconst 0, 1) := by decide +kernel
theorem dL_holds_283 : decode cL_holds 283 = .ok (.istore 5, 2) := by decide +kernel
theorem dL_holds_285 : decode cL_holds 285 = .ok (.iinc 6 1, 3) := by decide +kernel
theorem dL_holds_288 : decode cL_holds 288 = .ok (.goto (-41), 3) := by decide +kernel
theorem dL_holds_291 : decode cL_holds 291 = .ok (.iconst 0, 1) := by decide +kernel
theorem dL_holds_292 : decode cL_holds 292 = .ok (.istore 6, 2) := by decide +kernel
theorem dL_holds_294 : decode cL_holds 294 = .ok (.iload 6, 2) := by decide +kernel
theorem dL_holds_296 : decode cL_holds 296 = .ok (.bipush 64, 2) := by decide +kernel
theorem dL_holds_298 : decode cL_holds 298 = .ok (.if_icmp .ge 102, 3) := by decide +kernel
theorem dL_holds_301 : decode cL_holds 301 = .ok (.aload_n 0, 1) := by decide +kernel
theorem dL_holds_302 : decode cL_holds 302 = .ok (.invokevirtual 21, 3) := by decide +kernel
theorem dL_holds_305 : decode cL_holds 305 = .ok (.ifCond .eq 12, 3) := by decide +kernel
theorem dL_holds_308 : decode cL_holds 308 = .ok (.aload_n 0, 1) := by decide +kernel
theorem dL_holds_309 : decode cL_holds 309 = .ok (.iload 6, 2) := by decide +kernel
theorem dL_holds_311 : decode cL_holds 311 = .ok (.invokestatic 45, 3) := by decide +kernel
theorem dL_holds_314 : decode cL_holds 314 = .ok (.goto 4, 3) := by decide +kernel
theorem dL_holds_317 : decode cL_holds 317 = .ok (.iconst (-1), 1) := by decide +kernel
theorem dL_holds_318 : decode cL_holds 318 = .ok (.istore 7, 2) := by decide +kernel
theorem dL_holds_320 : decode cL_holds 320 = .ok (.iload 4, 2) := by decide +kernel
theorem dL_holds_322 : decode cL_holds 322 = .ok (.aload_n 0, 1) := by decide +kernel
theorem dL_holds_323 : decode cL_holds 323 = .ok (.iload 6, 2) := by decide +kernel
theorem dL_holds_325 : decode cL_holds 325 = .ok (.invokevirtual 38, 3) := by decide +kernel
theorem dL_holds_328 : decode cL_holds 328 = .ok (.ifCond .eq 7, 3) := by decide +kernel
theorem dL_holds_331 : decode cL_holds 331 = .ok (.iconst 0, 1) := by decide +kernel
theorem dL_holds_332 : decode cL_holds 332 = .ok (.goto 4, 3) := by decide +kernel
theorem dL_holds_335 : decode cL_holds 335 = .ok (.iconst 1, 1) := by decide +kernel
theorem dL_holds_336 : decode cL_holds 336 = .ok (.iadd, 1) := by decide +kernel
theorem dL_holds_337 : decode cL_holds 337 = .ok (.istore 4, 2) := by decide +kernel
theorem dL_holds_339 : decode cL_holds 339 = .ok (.iload 5, 2) := by decide +kernel
theorem dL_holds_341 : decode cL_holds 341 = .ok (.ifCond .eq 50, 3) := by decide +kernel
theorem dL_holds_344 : decode cL_holds 344 = .ok (.aload_n 0, 1) := by decide +kernel
theorem dL_holds_345 : decode cL_holds 345 = .ok (.iload 6, 2) := by decide +kernel
theorem dL_holds_347 : decode cL_holds 347 = .ok (.invokevirtual 38, 3) := by decide +kernel
theorem dL_holds_350 : decode cL_holds 350 = .ok (.ifCond .eq 37, 3) := by decide +kernel
theorem dL_holds_353 : decode cL_holds 353 = .ok (.aload_n 1, 1) := by decide +kernel
theorem dL_holds_354 : decode cL_holds 354 = .ok (.iload 6, 2) := by decide +kernel
theorem dL_holds_356 : decode cL_holds 356 = .ok (.iaload, 1) := by decide +kernel
theorem dL_holds_357 : decode cL_holds 357 = .ok (.iload 7, 2) := by decide +kernel
theorem dL_holds_359 : decode cL_holds 359 = .ok (.ifCond .lt 19, 3) := by decide +kernel
theorem dL_holds_362 : decode cL_holds 362 = .ok (.aload_n 0, 1) := by decide +kernel
theorem dL_holds_363 : decode cL_holds 363 = .ok (.iload 7, 2) := by decide +kernel
theorem dL_holds_365 : decode cL_holds 365 = .ok (.iconst 3, 1) := by decide +kernel
theorem dL_holds_366 : decode cL_holds 366 = .ok (.idiv, 1) := by decide +kernel
theorem dL_holds_367 : decode cL_holds 367 = .ok (.iload 7, 2) := by decide +kernel
theorem dL_holds_369 : decode cL_holds 369 = .ok (.iconst 3, 1) := by decide +kernel
theorem dL_holds_370 : decode cL_holds 370 = .ok (.irem, 1) := by decide +kernel
theorem dL_holds_371 : decode cL_holds 371 = .ok (.iconst 1, 1) := by decide +kernel
theorem dL_holds_372 : decode cL_holds 372 = .ok (.invokevirtual 31, 3) := by decide +kernel
theorem dL_holds_375 : decode cL_holds 375 = .ok (.goto 9, 3) := by decide +kernel
theorem dL_holds_378 : decode cL_holds 378 = .ok (.aload_n 0, 1) := by decide +kernel
theorem dL_holds_379 : decode cL_holds 379 = .ok (.iload 6, 2) := by decide +kernel
theorem dL_holds_381 : decode cL_holds 381 = .ok (.invokevirtual 35, 3) := by decide +kernel
theorem dL_holds_384 : decode cL_holds 384 = .ok (.if_icmp .ne 7, 3) := by decide +kernel
theorem dL_holds_387 : decode cL_holds 387 = .ok (.iconst 1, 1) := by decide +kernel
theorem dL_holds_388 : decode cL_holds 388 = .ok (.goto 4, 3) := by decide +kernel
theorem dL_holds_391 : decode cL_holds 391 = .ok (.iconst 0, 1) := by decide +kernel
theorem dL_holds_392 : decode cL_holds 392 = .ok (.istore 5, 2) := by decide +kernel
theorem dL_holds_394 : decode cL_holds 394 = .ok (.iinc 6 1, 3) := by decide +kernel
theorem dL_holds_397 : decode cL_holds 397 = .ok (.goto (-103), 3) := by decide +kernel
theorem dL_holds_400 : decode cL_holds 400 = .ok (.iload 5, 2) := by decide +kernel
theorem dL_holds_402 : decode cL_holds 402 = .ok (.ifCond .eq 95, 3) := by decide +kernel
theorem dL_holds_405 : decode cL_holds 405 = .ok (.aload_n 0, 1) := by decide +kernel
theorem dL_holds_406 : decode cL_holds 406 = .ok (.invokevirtual 65, 3) := by decide +kernel
theorem dL_holds_409 : decode cL_holds 409 = .ok (.iload_n 2, 1) := by decide +kernel
theorem dL_holds_410 : decode cL_holds 410 = .ok (.if_icmp .ne 87, 3) := by decide +kernel
theorem dL_holds_413 : decode cL_holds 413 = .ok (.aload_n 0, 1) := by decide +kernel
theorem dL_holds_414 : decode cL_holds 414 = .ok (.invokevirtual 58, 3) := by decide +kernel
theorem dL_holds_417 : decode cL_holds 417 = .ok (.iload_n 3, 1) := by decide +kernel
theorem dL_holds_418 : decode cL_holds 418 = .ok (.if_icmp .ne 79, 3) := by decide +kernel
theorem dL_holds_421 : decode cL_holds 421 = .ok (.aload_n 0, 1) := by decide +kernel
theorem dL_holds_422 : decode cL_holds 422 = .ok (.invokevirtual 24, 3) := by decide +kernel
theorem dL_holds_425 : decode cL_holds 425 = .ok (.iload 4, 2) := by decide +kernel
theorem dL_holds_427 : decode cL_holds 427 = .ok (.if_icmp .ne 70, 3) := by decide +kernel
theorem dL_holds_430 : decode cL_holds 430 = .ok (.iload 4, 2) := by decide +kernel
theorem dL_holds_432 : decode cL_holds 432 = .ok (.aload_n 0, 1) := by decide +kernel
theorem dL_holds_433 : decode cL_holds 433 = .ok (.bipush 6, 2) := by decide +kernel
theorem dL_holds_435 : decode cL_holds 435 = .ok (.invokevirtual 27, 3) := by decide +kernel
theorem dL_holds_438 : decode cL_holds 438 = .ok (.aload_n 0, 1) := by decide +kernel
theorem dL_holds_439 : decode cL_holds 439 = .ok (.invokevirtual 21, 3) := by decide +kernel
theorem dL_holds_442 : decode cL_holds 442 = .ok (.ifCond .eq 7, 3) := by decide +kernel
theorem dL_holds_445 : decode cL_holds 445 = .ok (.iconst 0, 1) := by decide +kernel
theorem dL_holds_446 : decode cL_holds 446 = .ok (.goto 4, 3) := by decide +kernel
theorem dL_holds_449 : decode cL_holds 449 = .ok (.iload_n 3, 1) := by decide +kernel
theorem dL_holds_450 : decode cL_holds 450 = .ok (.iadd, 1) := by decide +kernel
theorem dL_holds_451 : decode cL_holds 451 = .ok (.if_icmp .gt 46, 3) := by decide +kernel
theorem dL_holds_454 : decode cL_holds 454 = .ok (.aload_n 0, 1) := by decide +kernel
theorem dL_holds_455 : decode cL_holds 455 = .ok (.invokevirtual 101, 3) := by decide +kernel
theorem dL_holds_458 : decode cL_holds 458 = .ok (.iconst (-1), 1) := by decide +kernel
theorem dL_holds_459 : decode cL_holds 459 = .ok (.if_icmp .ne 7, 3) := by decide +kernel
theorem dL_holds_462 : decode cL_holds 462 = .ok (.iconst 1, 1) := by decide +kernel
theorem dL_holds_463 : decode cL_holds 463 = .ok (.goto 4, 3) := by decide +kernel
theorem dL_holds_466 : decode cL_holds 466 = .ok (.iconst 0, 1) := by decide +kernel
theorem dL_holds_467 : decode cL_holds 467 = .ok (.iload_n 3, 1) := by decide +kernel
theorem dL_holds_468 : decode cL_holds 468 = .ok (.ifCond .eq 17, 3) := by decide +kernel
theorem dL_holds_471 : decode cL_holds 471 = .ok (.aload_n 0, 1) := by decide +kernel
theorem dL_holds_472 : decode cL_holds 472 = .ok (.invokevirtual 17, 3) := by decide +kernel
theorem dL_holds_475 : decode cL_holds 475 = .ok (.ifCond .eq 14, 3) := by decide +kernel
theorem dL_holds_478 : decode cL_holds 478 = .ok (.aload_n 0, 1) := by decide +kernel
theorem dL_holds_479 : decode cL_holds 479 = .ok (.invokevirtual 21, 3) := by decide +kernel
theorem dL_holds_482 : decode cL_holds 482 = .ok (.ifCond .eq 7, 3) := by decide +kernel
theorem dL_holds_485 : decode cL_holds 485 = .ok (.iconst 1, 1) := by decide +kernel
theorem dL_holds_486 : decode cL_holds 486 = .ok (.goto 4, 3) := by decide +kernel
theorem dL_holds_489 : decode cL_holds 489 = .ok (.iconst 0, 1) := by decide +kernel
theorem dL_holds_490 : decode cL_holds 490 = .ok (.if_icmp .ne 7, 3) := by decide +kernel
theorem dL_holds_493 : decode cL_holds 493 = .ok (.iconst 1, 1) := by decide +kernel
theorem dL_holds_494 : decode cL_holds 494 = .ok (.goto 4, 3) := by decide +kernel
theorem dL_holds_497 : decode cL_holds 497 = .ok (.iconst 0, 1) := by decide +kernel
theorem dL_holds_498 : decode cL_holds 498 = .ok (.ireturn, 1) := by decide +kernel
set_option maxRecDepth 20000 in
theorem ggL_law_X4_init : GoodIn wsL_law wsX4_init := goodIn_r _ [6, 7, 8, 9, 10, 11, 12, 13, 14, 15, 16, 17, 18, 19, 20, 21, 22, 23, 24, 25, 26, 27, 28, 3, 29, 30, 31, 32, 33, 34, 35, 36, 37, 38, 39, 40, 41, 42, 43, 44, 45, 46, 47, 48, 49, 50, 51, 52, 53, 54, 55, 56, 57, 415, 416, 417, 418, 419, 420, 421, 412, 413, 414, 422, 423, 424, 425, 426, 427, 428, 429, 430, 431, 432, 433, 434, 435, 436, 437, 438, 439] (by decide +kernel) (by decide +kernel)
set_option maxRecDepth 20000 in
theorem gL_law_X4_init : GoodIn wsL_law (wsX4_init) := ggL_law_X4_init
theorem goodIn_c1 {big a : List Cond} {c : Cond} (hc : c ∈ big) (hg : goodWord c = true) (ha : GoodIn big a) : GoodIn big (c :: a) := fun w h => (List.mem_cons.mp h).elim (fun e => by rw [e]; exact ⟨hc, good_of_word hg⟩) (ha w)
set_option maxRecDepth 20000 in
set_option maxHeartbeats 4000000 in
theorem ggL_law_L_holds : GoodIn wsL_law wsL_holds := goodIn_ca (goodIn_ca (goodIn_c1 (List.mem_of_getElem? (i := 61) (by exact rfl)) (by decide +kernel) (goodIn_r _ [62, 63, 64, 65, 2, 66, 13, 67, 68, 69, 70, 71, 72, 73, 74, 75, 76, 77, 78, 79, 80, 81, 82, 83, 84, 85, 86, 87, 88, 27, 89, 38, 39, 40, 41, 43, 90, 91, 92, 93, 60, 94, 95, 96, 97, 98, 99, 100, 101, 102, 103, 104, 105, 106, 107, 108, 109, 110, 111, 112, 12, 113, 29, 114, 115, 116, 117, 118, 119, 120, 121, 122, 123, 124, 125, 126, 127, 128, 129, 130, 131, 132, 133, 134, 135, 136, 137, 138, 30, 31, 28, 139, 140, 141, 142, 143, 46, 144, 145, 146, 147, 148, 149, 150, 151, 152, 153, 154, 155, 156, 157, 158, 159, 160, 161, 162, 163, 164, 165, 166, 167, 168, 169, 170, 171, 172, 173, 174, 175, 33, 176, 177, 178, 179, 180, 181, 412, 413, 414, 415, 416, 417, 418, 419, 420, 421, 431, 432, 433, 434, 435, 436, 437, 438, 439] (by decide +kernel) (by decide +kernel))) (goodIn_sub (fun _ h => List.mem_append_left _ (List.mem_append_left _ (List.mem_append_right _ h))) (by decide +kernel))) (goodIn_sub (fun _ h => List.mem_append_left _ (List.mem_append_right _ h)) (by decide +kernel))
set_option maxRecDepth 20000 in
theorem gL_law_L_holds : GoodIn wsL_law (va_wsS RL 105 yL_holds wsL_holds) := goodIn_app (goodIn_of _ (by decide +kernel)) ggL_law_L_holds
set_option maxRecDepth 20000 in
theorem ggL_law_L_cell : GoodIn wsL_law wsL_cell := goodIn_r _ [184, 185] (by decide +kernel) (by decide +kernel)
set_option maxRecDepth 20000 in
theorem gL_law_L_cell : GoodIn wsL_law (va_wsS RL 109 yL_cell wsL_cell) := goodIn_app (goodIn_of _ (by decide +kernel)) ggL_law_L_cell
set_option maxRecDepth 20000 in
theorem ggL_law_L_up : GoodIn wsL_law wsL_up := goodIn_r _ [188, 189] (by decide +kernel) (by decide +kernel)
set_option maxRecDepth 20000 in
theorem gL_law_L_up : GoodIn wsL_law (va_wsS RL 55 yL_up wsL_up) := goodIn_app (goodIn_of _ (by decide +kernel)) ggL_law_L_up
set_option maxRecDepth 20000 in
theorem ggL_law_X4_count : GoodIn wsL_law wsX4_count := goodIn_ca (goodIn_r _ [72, 73, 74, 13, 75, 412, 413, 414, 415, 416, 417, 418, 419, 420, 421] (by decide +kernel) (by decide +kernel)) (goodIn_sub (fun _ h => List.mem_append_left _ (List.mem_append_left _ (List.mem_append_right _ h))) (by decide +kernel))
set_option maxRecDepth 20000 in
theorem gL_law_X4_count : GoodIn wsL_law (wsV RL 27 RX4 yX4_count wsX4_count) := goodIn_app (goodIn_of _ (by decide +kernel)) ggL_law_X4_count
set_option maxRecDepth 20000 in
theorem ggL_law_L_told : GoodIn wsL_law wsL_told := goodIn_ca (goodIn_ca (goodIn_r _ [192, 193, 63, 64, 65, 2, 66, 13, 67, 68, 177, 178, 179, 180, 181, 95, 96, 97, 98, 99, 164, 165, 166, 167, 135, 136, 137, 12, 138, 30, 31, 28, 139, 108, 109, 140, 141, 142, 27, 143, 46, 144, 145, 146, 147, 38, 90, 91, 69, 70, 71, 72, 73, 74, 75, 80, 81, 82, 83, 84, 85, 86, 87, 88, 89, 39, 40, 41, 43, 100, 101, 102, 103, 104, 105, 106, 107, 110, 111, 112, 113, 29, 131, 132, 133, 134, 412, 413, 414, 415, 416, 417, 418, 419, 420, 421, 431, 432, 433, 434, 435, 436, 437, 438, 439] (by decide +kernel) (by decide +kernel)) (goodIn_sub (fun _ h => List.mem_append_left _ (List.mem_append_left _ (List.mem_append_right _ h))) (by decide +kernel))) (goodIn_sub (fun _ h => List.mem_append_left _ (List.mem_append_right _ h)) (by decide +kernel))
set_option maxRecDepth 20000 in
theorem gL_law_L_told : GoodIn wsL_law (va_wsS RL 113 yL_told wsL_told) := goodIn_app (goodIn_of _ (by decide +kernel)) ggL_law_L_told
set_option maxRecDepth 20000 in
theorem ggL_law_X4_savedStates : GoodIn wsL_law wsX4_savedStates := goodIn_r _ [197, 17, 198, 412, 413, 414, 422, 423, 424] (by decide +kernel) (by decide +kernel)
set_option maxRecDepth 20000 in
theorem gL_law_X4_savedStates : GoodIn wsL_law (wsV RL 117 RX4 yX4_savedStates wsX4_savedStates) := goodIn_app (goodIn_of _ (by decide +kernel)) ggL_law_X4_savedStates
set_option maxRecDepth 20000 in
set_option maxHeartbeats 4000000 in
theorem ggL_law_L_acts : GoodIn wsL_law wsL_acts := goodIn_ca (goodIn_ca (goodIn_ca (goodIn_c1 (List.mem_of_getElem? (i := 201) (by exact rfl)) (by decide +kernel) (goodIn_r _ [186, 187, 60, 188, 189, 177, 178, 179, 2, 180, 13, 181, 95, 96, 97, 98, 67, 99, 69, 70, 71, 72, 73, 74, 75, 156, 157, 158, 159, 160, 161, 162, 27, 163, 43, 63, 64, 65, 66, 68, 202, 203, 204, 205, 17, 206, 207, 208, 16, 209, 52, 210, 211, 212, 213, 214, 215, 216, 217, 218, 219, 220, 221, 222, 12, 223, 28, 29, 224, 225, 226, 227, 30, 31, 32, 228, 33, 229, 230, 231, 232, 38, 233, 39, 40, 41, 234, 44, 45, 46, 235, 236, 237, 238, 176, 239, 240, 241, 242, 243, 244, 245, 246, 247, 248, 249, 139, 250, 251, 126, 127, 128, 129, 130, 252, 253, 254, 255, 108, 109, 256, 257, 258, 259, 260, 261, 262, 263, 148, 149, 150, 151, 152, 153, 154, 155, 264, 265, 266, 267, 268, 269, 270, 271, 272, 273, 274, 275, 276, 277, 278, 279, 280, 281, 90, 91, 282, 283, 284, 285, 286, 287, 288, 289, 290, 173, 174, 175, 291, 292, 293, 294, 295, 296, 297, 298, 299, 300, 301, 302, 303, 304, 305, 306, 307, 308, 309, 310, 311, 312, 313, 314, 315, 316, 172, 317, 318, 319, 320, 321, 122, 123, 124, 125, 322, 323, 324, 325, 326, 327, 328, 329, 330, 331, 332, 333, 334, 114, 115, 116, 117, 118, 119, 120, 84, 85, 121, 335, 336, 337, 338, 339, 92, 93, 94, 80, 81, 82, 83, 86, 87, 88, 89, 100, 101, 102, 103, 104, 105, 106, 107, 110, 111, 112, 113, 340, 341, 342, 343, 344, 345, 346, 347, 348, 349, 350, 351, 140, 141, 142, 143, 144, 145, 146, 147, 352, 353, 354, 355, 356, 357, 358, 359, 360, 361, 362, 363, 364, 365, 366, 367, 368, 369, 370, 371, 372, 373, 374, 375, 376, 377, 378, 379, 380, 381, 382, 383, 384, 385, 386, 387, 388, 389, 390, 391, 392, 393, 394, 395, 396, 397, 398, 399, 400, 401, 402, 131, 132, 133, 134, 135, 136, 137, 138, 412, 413, 414, 415, 416, 417, 418, 419, 420, 421, 431, 432, 433, 434, 435, 436, 437, 438, 439, 422, 423, 424] (by decide +kernel) (by decide +kernel))) (goodIn_sub (fun _ h => List.mem_append_left _ (List.mem_append_left _ (List.mem_append_right _ h))) (by decide +kernel))) (goodIn_sub (fun _ h => List.mem_append_right _ h) (by decide +kernel))) (goodIn_sub (fun _ h => List.mem_append_left _ (List.mem_append_right _ h)) (by decide +kernel))
set_option maxRecDepth 20000 in
theorem gL_law_L_acts : GoodIn wsL_law (va_wsS RL 120 yL_acts wsL_acts) := goodIn_app (goodIn_of _ (by decide +kernel)) ggL_law_L_acts
set_option maxRecDepth 20000 in
theorem ggL_law_X4_undo : GoodIn wsL_law wsX4_undo := goodIn_ca (goodIn_r _ [406, 268, 269, 17, 198, 13, 407, 408, 409, 16, 410, 210, 211, 411, 301, 214, 302, 52, 216, 217, 218, 219, 220, 221, 222, 12, 223, 28, 29, 224, 225, 226, 227, 30, 31, 32, 228, 33, 229, 230, 231, 27, 232, 38, 233, 39, 40, 41, 43, 234, 44, 45, 46, 412, 413, 414, 422, 423, 424, 415, 416, 417, 418, 419, 420, 421, 431, 432, 433, 434, 435, 436, 437, 438, 439] (by decide +kernel) (by decide +kernel)) (goodIn_sub (fun _ h => List.mem_append_right _ h) (by decide +kernel))
set_option maxRecDepth 20000 in
theorem gL_law_X4_undo : GoodIn wsL_law (wsV RL 123 RX4 yX4_undo wsX4_undo) := goodIn_app (goodIn_of _ (by decide +kernel)) ggL_law_X4_undo
theorem dL_law_0 : decode cL_law 0 = .ok (.new 12, 3) := by decide +kernel
theorem dL_law_3 : decode cL_law 3 = .ok (.dup, 1) := by decide +kernel
theorem dL_law_4 : decode cL_law 4 = .ok (.invokespecial 104, 3) := by decide +kernel
theorem dL_law_7 : decode cL_law 7 = .ok (.astore_n 1, 1) := by decide +kernel
theorem dL_law_8 : decode cL_law 8 = .ok (.bipush 64, 2) := by decide +kernel
theorem dL_law_10 : decode cL_law 10 = .ok (.newarray .int, 2) := by decide +kernel
theorem dL_law_12 : decode cL_law 12 = .ok (.astore_n 2, 1) := by decide +kernel
theorem dL_law_13 : decode cL_law 13 = .ok (.aload_n 1, 1) := by decide +kernel
theorem dL_law_14 : decode cL_law 14 = .ok (.aload_n 2, 1) := by decide +kernel
theorem dL_law_15 : decode cL_law 15 = .ok (.invokestatic 105, 3) := by decide +kernel
theorem dL_law_18 : decode cL_law 18 = .ok (.istore_n 3, 1) := by decide +kernel
theorem dL_law_19 : decode cL_law 19 = .ok (.iconst 0, 1) := by decide +kernel
theorem dL_law_20 : decode cL_law 20 = .ok (.istore 4, 2) := by decide +kernel
theorem dL_law_22 : decode cL_law 22 = .ok (.iload 4, 2) := by decide +kernel
theorem dL_law_24 : decode cL_law 24 = .ok (.bipush 70, 2) := by decide +kernel
theorem dL_law_26 : decode cL_law 26 = .ok (.if_icmp .ge 271, 3) := by decide +kernel
theorem dL_law_29 : decode cL_law 29 = .ok (.iload_n 3, 1) := by decide +kernel
theorem dL_law_30 : decode cL_law 30 = .ok (.ifCond .eq 267, 3) := by decide +kernel
theorem dL_law_33 : decode cL_law 33 = .ok (.aload_n 0, 1) := by decide +kernel
theorem dL_law_34 : decode cL_law 34 = .ok (.iconst 2, 1) := by decide +kernel
theorem dL_law_35 : decode cL_law 35 = .ok (.iload 4, 2) := by decide +kernel
theorem dL_law_37 : decode cL_law 37 = .ok (.imul, 1) := by decide +kernel
theorem dL_law_38 : decode cL_law 38 = .ok (.invokestatic 109, 3) := by decide +kernel
theorem dL_law_41 : decode cL_law 41 = .ok (.istore 5, 2) := by decide +kernel
theorem dL_law_43 : decode cL_law 43 = .ok (.aload_n 0, 1) := by decide +kernel
theorem dL_law_44 : decode cL_law 44 = .ok (.iconst 2, 1) := by decide +kernel
theorem dL_law_45 : decode cL_law 45 = .ok (.iload 4, 2) := by decide +kernel
theorem dL_law_47 : decode cL_law 47 = .ok (.imul, 1) := by decide +kernel
theorem dL_law_48 : decode cL_law 48 = .ok (.iconst 1, 1) := by decide +kernel
theorem dL_law_49 : decode cL_law 49 = .ok (.iadd, 1) := by decide +kernel
theorem dL_law_50 : decode cL_law 50 = .ok (.invokestatic 109, 3) := by decide +kernel
theorem dL_law_53 : decode cL_law 53 = .ok (.istore 6, 2) := by decide +kernel
theorem dL_law_55 : decode cL_law 55 = .ok (.iload 6, 2) := by decide +kernel
theorem dL_law_57 : decode cL_law 57 = .ok (.iconst 3, 1) := by decide +kernel
theorem dL_law_58 : decode cL_law 58 = .ok (.iand, 1) := by decide +kernel
theorem dL_law_59 : decode cL_law 59 = .ok (.ifCond .ne 15, 3) := by decide +kernel
theorem dL_law_62 : decode cL_law 62 = .ok (.iload 6, 2) := by decide +kernel
theorem dL_law_64 : decode cL_law 64 = .ok (.iconst 2, 1) := by decide +kernel
theorem dL_law_65 : decode cL_law 65 = .ok (.ishr, 1) := by decide +kernel
theorem dL_law_66 : decode cL_law 66 = .ok (.bipush 64, 2) := by decide +kernel
theorem dL_law_68 : decode cL_law 68 = .ok (.invokestatic 55, 3) := by decide +kernel
theorem dL_law_71 : decode cL_law 71 = .ok (.goto 23, 3) := by decide +kernel
theorem dL_law_74 : decode cL_law 74 = .ok (.bipush 16, 2) := by decide +kernel
theorem dL_law_76 : decode cL_law 76 = .ok (.iload 6, 2) := by decide +kernel
theorem dL_law_78 : decode cL_law 78 = .ok (.iconst 2, 1) := by decide +kernel
theorem dL_law_79 : decode cL_law 79 = .ok (.ishr, 1) := by decide +kernel
theorem dL_law_80 : decode cL_law 80 = .ok (.iconst 4, 1) := by decide +kernel
theorem dL_law_81 : decode cL_law 81 = .ok (.invokestatic 55, 3) := by decide +kernel
theorem dL_law_84 : decode cL_law 84 = .ok (.imul, 1) := by decide +kernel
theorem dL_law_85 : decode cL_law 85 = .ok (.iload 6, 2) := by decide +kernel
theorem dL_law_87 : decode cL_law 87 = .ok (.iconst 4, 1) := by decide +kernel
theorem dL_law_88 : decode cL_law 88 = .ok (.ishr, 1) := by decide +kernel
theorem dL_law_89 : decode cL_law 89 = .ok (.iconst 5, 1) := by decide +kernel
theorem dL_law_90 : decode cL_law 90 = .ok (.invokestatic 55, 3) := by decide +kernel
theorem dL_law_93 : decode cL_law 93 = .ok (.iadd, 1) := by decide +kernel
theorem dL_law_94 : decode cL_law 94 = .ok (.istore 7, 2) := by decide +kernel
theorem dL_law_96 : decode cL_law 96 = .ok (.aload_n 1, 1) := by decide +kernel
theorem dL_law_97 : decode cL_law 97 = .ok (.iconst 2, 1) := by decide +kernel
theorem dL_law_98 : decode cL_law 98 = .ok (.invokevirtual 27, 3) := by decide +kernel
theorem dL_law_101 : decode cL_law 101 = .ok (.aload_n 1, 1) := by decide +kernel
theorem dL_law_102 : decode cL_law 102 = .ok (.iconst 3, 1) := by decide +kernel
theorem dL_law_103 : decode cL_law 103 = .ok (.invokevirtual 27, 3) := by decide +kernel
theorem dL_law_106 : decode cL_law 106 = .ok (.iadd, 1) := by decide +kernel
theorem dL_law_107 : decode cL_law 107 = .ok (.istore 8, 2) := by decide +kernel
theorem dL_law_109 : decode cL_law 109 = .ok (.aload_n 1, 1) := by decide +kernel
theorem dL_law_110 : decode cL_law 110 = .ok (.invokestatic 113, 3) := by decide +kernel
theorem dL_law_113 : decode cL_law 113 = .ok (.lstore 9, 2) := by decide +kernel
theorem dL_law_115 : decode cL_law 115 = .ok (.aload_n 1, 1) := by decide +kernel
theorem dL_law_116 : decode cL_law 116 = .ok (.invokevirtual 117, 3) := by decide +kernel
theorem dL_law_119 : decode cL_law 119 = .ok (.istore 11, 2) := by decide +kernel
theorem dL_law_121 : decode cL_law 121 = .ok (.aload_n 1, 1) := by decide +kernel
theorem dL_law_122 : decode cL_law 122 = .ok (.iload 5, 2) := by decide +kernel
theorem dL_law_124 : decode cL_law 124 = .ok (.iload 6, 2) := by decide +kernel
theorem dL_law_126 : decode cL_law 126 = .ok (.invokestatic 120, 3) := by decide +kernel
theorem dL_law_129 : decode cL_law 129 = .ok (.ifCond .eq 30, 3) := by decide +kernel
theorem dL_law_132 : decode cL_law 132 = .ok (.aload_n 1, 1) := by decide +kernel
theorem dL_law_133 : decode cL_law 133 = .ok (.invokevirtual 117, 3) := by decide +kernel
theorem dL_law_136 : decode cL_law 136 = .ok (.iload 11, 2) := by decide +kernel
theorem dL_law_138 : decode cL_law 138 = .ok (.bipush 6, 2) := by decide +kernel
theorem dL_law_140 : decode cL_law 140 = .ok (.if_icmp .ge 10, 3) := by decide +kernel
theorem dL_law_143 : decode cL_law 143 = .ok (.iload 11, 2) := by decide +kernel
theorem dL_law_145 : decode cL_law 145 = .ok (.iconst 1, 1) := by decide +kernel
theorem dL_law_146 : decode cL_law 146 = .ok (.iadd, 1) := by decide +kernel
theorem dL_law_147 : decode cL_law 147 = .ok (.goto 5, 3) := by decide +kernel
theorem dL_law_150 : decode cL_law 150 = .ok (.bipush 6, 2) := by decide +kernel
theorem dL_law_152 : decode cL_law 152 = .ok (.if_icmp .ne 7, 3) := by decide +kernel
theorem dL_law_155 : decode cL_law 155 = .ok (.iconst 1, 1) := by decide +kernel
theorem dL_law_156 : decode cL_law 156 = .ok (.goto 4, 3) := by decide +kernel
theorem dL_law_159 : decode cL_law 159 = .ok (.iconst 0, 1) := by decide +kernel
theorem dL_law_160 : decode cL_law 160 = .ok (.istore_n 3, 1) := by decide +kernel
theorem dL_law_161 : decode cL_law 161 = .ok (.aload_n 2, 1) := by decide +kernel
theorem dL_law_162 : decode cL_law 162 = .ok (.iload 7, 2) := by decide +kernel
theorem dL_law_164 : decode cL_law 164 = .ok (.aload_n 1, 1) := by decide +kernel
theorem dL_law_165 : decode cL_law 165 = .ok (.iconst 2, 1) := by decide +kernel
theorem dL_law_166 : decode cL_law 166 = .ok (.invokevirtual 27, 3) := by decide +kernel
theorem dL_law_169 : decode cL_law 169 = .ok (.aload_n 1, 1) := by decide +kernel
theorem dL_law_170 : decode cL_law 170 = .ok (.iconst 3, 1) := by decide +kernel
theorem dL_law_171 : decode cL_law 171 = .ok (.invokevirtual 27, 3) := by decide +kernel
theorem dL_law_174 : decode cL_law 174 = .ok (.iadd, 1) := by decide +kernel
theorem dL_law_175 : decode cL_law 175 = .ok (.iload 8, 2) := by decide +kernel
theorem dL_law_177 : decode cL_law 177 = .ok (.if_icmp .le 17, 3) := by decide +kernel
theorem dL_law_180 : decode cL_law 180 = .ok (.iload 6, 2) := by decide +kernel
theorem dL_law_182 : decode cL_law 182 = .ok (.bipush 9, 2) := by decide +kernel
theorem dL_law_184 : decode cL_law 184 = .ok (.ishr, 1) := by decide +kernel
theorem dL_law_185 : decode cL_law 185 = .ok (.sipush 1000, 3) := by decide +kernel
theorem dL_law_188 : decode cL_law 188 = .ok (.invokestatic 55, 3) := by decide +kernel
theorem dL_law_191 : decode cL_law 191 = .ok (.goto 7, 3) := by decide +kernel
theorem dL_law_194 : decode cL_law 194 = .ok (.aload_n 2, 1) := by decide +kernel
theorem dL_law_195 : decode cL_law 195 = .ok (.iload 7, 2) := by decide +kernel
theorem dL_law_197 : decode cL_law 197 = .ok (.iaload, 1) := by decide +kernel
theorem dL_law_198 : decode cL_law 198 = .ok (.iastore, 1) := by decide +kernel
theorem dL_law_199 : decode cL_law 199 = .ok (.iload_n 3, 1) := by decide +kernel
theorem dL_law_200 : decode cL_law 200 = .ok (.ifCond .eq 73, 3) := by decide +kernel
theorem dL_law_203 : decode cL_law 203 = .ok (.iload 5, 2) := by decide +kernel
theorem dL_law_205 : decode cL_law 205 = .ok (.bipush 8, 2) := by decide +kernel
theorem dL_law_207 : decode cL_law 207 = .ok (.ishr, 1) := by decide +kernel
theorem dL_law_208 : decode cL_law 208 = .ok (.iconst 3, 1) := by decide +kernel
theorem dL_law_209 : decode cL_law 209 = .ok (.iand, 1) := by decide +kernel
theorem dL_law_210 : decode cL_law 210 = .ok (.ifCond .ne 63, 3) := by decide +kernel
theorem dL_law_213 : decode cL_law 213 = .ok (.aload_n 1, 1) := by decide +kernel
theorem dL_law_214 : decode cL_law 214 = .ok (.invokestatic 113, 3) := by decide +kernel
theorem dL_law_217 : decode cL_law 217 = .ok (.lstore 12, 2) := by decide +kernel
theorem dL_law_219 : decode cL_law 219 = .ok (.aload_n 1, 1) := by decide +kernel
theorem dL_law_220 : decode cL_law 220 = .ok (.invokevirtual 117, 3) := by decide +kernel
theorem dL_law_223 : decode cL_law 223 = .ok (.iconst 1, 1) := by decide +kernel
theorem dL_law_224 : decode cL_law 224 = .ok (.isub, 1) := by decide +kernel
theorem dL_law_225 : decode cL_law 225 = .ok (.istore 14, 2) := by decide +kernel
theorem dL_law_227 : decode cL_law 227 = .ok (.aload_n 1, 1) := by decide +kernel
theorem dL_law_228 : decode cL_law 228 = .ok (.invokevirtual 123, 3) := by decide +kernel
theorem dL_law_231 : decode cL_law 231 = .ok (.iload 14, 2) := by decide +kernel
theorem dL_law_233 : decode cL_law 233 = .ok (.if_icmp .ne 38, 3) := by decide +kernel
theorem dL_law_236 : decode cL_law 236 = .ok (.aload_n 1, 1) := by decide +kernel
theorem dL_law_237 : decode cL_law 237 = .ok (.invokestatic 113, 3) := by decide +kernel
theorem dL_law_240 : decode cL_law 240 = .ok (.lload 9, 2) := by decide +kernel
theorem dL_law_242 : decode cL_law 242 = .ok (.lcmp, 1) := by decide +kernel
theorem dL_law_243 : decode cL_law 243 = .ok (.ifCond .ne 28, 3) := by decide +kernel
theorem dL_law_246 : decode cL_law 246 = .ok (.aload_n 1, 1) := by decide +kernel
theorem dL_law_247 : decode cL_law 247 = .ok (.iload 5, 2) := by decide +kernel
theorem dL_law_249 : decode cL_law 249 = .ok (.iload 6, 2) := by decide +kernel
theorem dL_law_251 : decode cL_law 251 = .ok (.invokestatic 120, 3) := by decide +kernel
theorem dL_law_254 : decode cL_law 254 = .ok (.ifCond .eq 17, 3) := by decide +kernel
theorem dL_law_257 : decode cL_law 257 = .ok (.aload_n 1, 1) := by decide +kernel
theorem dL_law_258 : decode cL_law 258 = .ok (.invokestatic 113, 3) := by decide +kernel
theorem dL_law_261 : decode cL_law 261 = .ok (.lload 12, 2) := by decide +kernel
theorem dL_law_263 : decode cL_law 263 = .ok (.lcmp, 1) := by decide +kernel
theorem dL_law_264 : decode cL_law 264 = .ok (.ifCond .ne 7, 3) := by decide +kernel
theorem dL_law_267 : decode cL_law 267 = .ok (.iconst 1, 1) := by decide +kernel
theorem dL_law_268 : decode cL_law 268 = .ok (.goto 4, 3) := by decide +kernel
theorem dL_law_271 : decode cL_law 271 = .ok (.iconst 0, 1) := by decide +kernel
theorem dL_law_272 : decode cL_law 272 = .ok (.istore_n 3, 1) := by decide +kernel
theorem dL_law_273 : decode cL_law 273 = .ok (.iload_n 3, 1) := by decide +kernel
theorem dL_law_274 : decode cL_law 274 = .ok (.ifCond .eq 15, 3) := by decide +kernel
theorem dL_law_277 : decode cL_law 277 = .ok (.aload_n 1, 1) := by decide +kernel
theorem dL_law_278 : decode cL_law 278 = .ok (.aload_n 2, 1) := by decide +kernel
theorem dL_law_279 : decode cL_law 279 = .ok (.invokestatic 105, 3) := by decide +kernel
theorem dL_law_282 : decode cL_law 282 = .ok (.ifCond .eq 7, 3) := by decide +kernel
theorem dL_law_285 : decode cL_law 285 = .ok (.iconst 1, 1) := by decide +kernel
theorem dL_law_286 : decode cL_law 286 = .ok (.goto 4, 3) := by decide +kernel
theorem dL_law_289 : decode cL_law 289 = .ok (.iconst 0, 1) := by decide +kernel
theorem dL_law_290 : decode cL_law 290 = .ok (.istore_n 3, 1) := by decide +kernel
theorem dL_law_291 : decode cL_law 291 = .ok (.iinc 4 1, 3) := by decide +kernel
theorem dL_law_294 : decode cL_law 294 = .ok (.goto (-272), 3) := by decide +kernel
theorem dL_law_297 : decode cL_law 297 = .ok (.iload_n 3, 1) := by decide +kernel
theorem dL_law_298 : decode cL_law 298 = .ok (.ireturn, 1) := by decide +kernel
abbrev vwCl : List vw_C := [(RX0, TX0, 3), (RX1, TX1, 7), (RX2, TX2, 9), (RX3, TX3, 6), (RX4, TX4, 3)]
