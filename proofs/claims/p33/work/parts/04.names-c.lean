theorem dL_writes_0 : decode cL_writes 0 = .ok (.aload_n 0, 1) := by decide +kernel
theorem dL_writes_1 : decode cL_writes 1 = .ok (.iconst 0, 1) := by decide +kernel
theorem dL_writes_2 : decode cL_writes 2 = .ok (.invokevirtual 27, 3) := by decide +kernel
theorem dL_writes_5 : decode cL_writes 5 = .ok (.aload_n 0, 1) := by decide +kernel
theorem dL_writes_6 : decode cL_writes 6 = .ok (.iconst 1, 1) := by decide +kernel
theorem dL_writes_7 : decode cL_writes 7 = .ok (.invokevirtual 27, 3) := by decide +kernel
theorem dL_writes_10 : decode cL_writes 10 = .ok (.iadd, 1) := by decide +kernel
theorem dL_writes_11 : decode cL_writes 11 = .ok (.istore_n 3, 1) := by decide +kernel
theorem dL_writes_12 : decode cL_writes 12 = .ok (.aload_n 0, 1) := by decide +kernel
theorem dL_writes_13 : decode cL_writes 13 = .ok (.iconst 2, 1) := by decide +kernel
theorem dL_writes_14 : decode cL_writes 14 = .ok (.invokevirtual 27, 3) := by decide +kernel
theorem dL_writes_17 : decode cL_writes 17 = .ok (.istore 4, 2) := by decide +kernel
theorem dL_writes_19 : decode cL_writes 19 = .ok (.aload_n 0, 1) := by decide +kernel
theorem dL_writes_20 : decode cL_writes 20 = .ok (.iconst 3, 1) := by decide +kernel
theorem dL_writes_21 : decode cL_writes 21 = .ok (.invokevirtual 27, 3) := by decide +kernel
theorem dL_writes_24 : decode cL_writes 24 = .ok (.istore 5, 2) := by decide +kernel
theorem dL_writes_26 : decode cL_writes 26 = .ok (.aload_n 0, 1) := by decide +kernel
theorem dL_writes_27 : decode cL_writes 27 = .ok (.iload_n 1, 1) := by decide +kernel
theorem dL_writes_28 : decode cL_writes 28 = .ok (.invokevirtual 42, 3) := by decide +kernel
theorem dL_writes_31 : decode cL_writes 31 = .ok (.istore 6, 2) := by decide +kernel
theorem dL_writes_33 : decode cL_writes 33 = .ok (.aload_n 0, 1) := by decide +kernel
theorem dL_writes_34 : decode cL_writes 34 = .ok (.invokevirtual 21, 3) := by decide +kernel
theorem dL_writes_37 : decode cL_writes 37 = .ok (.ifCond .eq 16, 3) := by decide +kernel
theorem dL_writes_40 : decode cL_writes 40 = .ok (.aload_n 0, 1) := by decide +kernel
theorem dL_writes_41 : decode cL_writes 41 = .ok (.invokevirtual 11, 3) := by decide +kernel
theorem dL_writes_44 : decode cL_writes 44 = .ok (.bipush 20, 2) := by decide +kernel
theorem dL_writes_46 : decode cL_writes 46 = .ok (.if_icmp .lt 7, 3) := by decide +kernel
theorem dL_writes_49 : decode cL_writes 49 = .ok (.iconst 1, 1) := by decide +kernel
theorem dL_writes_50 : decode cL_writes 50 = .ok (.goto 4, 3) := by decide +kernel
theorem dL_writes_53 : decode cL_writes 53 = .ok (.iconst 0, 1) := by decide +kernel
theorem dL_writes_54 : decode cL_writes 54 = .ok (.istore 7, 2) := by decide +kernel
theorem dL_writes_56 : decode cL_writes 56 = .ok (.iload_n 1, 1) := by decide +kernel
theorem dL_writes_57 : decode cL_writes 57 = .ok (.iconst 4, 1) := by decide +kernel
theorem dL_writes_58 : decode cL_writes 58 = .ok (.idiv, 1) := by decide +kernel
theorem dL_writes_59 : decode cL_writes 59 = .ok (.iconst 4, 1) := by decide +kernel
theorem dL_writes_60 : decode cL_writes 60 = .ok (.irem, 1) := by decide +kernel
theorem dL_writes_61 : decode cL_writes 61 = .ok (.istore 8, 2) := by decide +kernel
theorem dL_writes_63 : decode cL_writes 63 = .ok (.aload_n 0, 1) := by decide +kernel
theorem dL_writes_64 : decode cL_writes 64 = .ok (.iload_n 1, 1) := by decide +kernel
theorem dL_writes_65 : decode cL_writes 65 = .ok (.invokestatic 45, 3) := by decide +kernel
theorem dL_writes_68 : decode cL_writes 68 = .ok (.ifCond .lt 7, 3) := by decide +kernel
theorem dL_writes_71 : decode cL_writes 71 = .ok (.iconst 1, 1) := by decide +kernel
theorem dL_writes_72 : decode cL_writes 72 = .ok (.goto 4, 3) := by decide +kernel
theorem dL_writes_75 : decode cL_writes 75 = .ok (.iconst 0, 1) := by decide +kernel
theorem dL_writes_76 : decode cL_writes 76 = .ok (.istore 9, 2) := by decide +kernel
theorem dL_writes_78 : decode cL_writes 78 = .ok (.iconst 0, 1) := by decide +kernel
theorem dL_writes_79 : decode cL_writes 79 = .ok (.istore 10, 2) := by decide +kernel
theorem dL_writes_81 : decode cL_writes 81 = .ok (.iload 10, 2) := by decide +kernel
theorem dL_writes_83 : decode cL_writes 83 = .ok (.iconst 3, 1) := by decide +kernel
theorem dL_writes_84 : decode cL_writes 84 = .ok (.if_icmp .ge 34, 3) := by decide +kernel
theorem dL_writes_87 : decode cL_writes 87 = .ok (.iload 9, 2) := by decide +kernel
theorem dL_writes_89 : decode cL_writes 89 = .ok (.ifCond .ne 16, 3) := by decide +kernel
theorem dL_writes_92 : decode cL_writes 92 = .ok (.aload_n 0, 1) := by decide +kernel
theorem dL_writes_93 : decode cL_writes 93 = .ok (.iload 8, 2) := by decide +kernel
theorem dL_writes_95 : decode cL_writes 95 = .ok (.iload 10, 2) := by decide +kernel
theorem dL_writes_97 : decode cL_writes 97 = .ok (.iconst 4, 1) := by decide +kernel
theorem dL_writes_98 : decode cL_writes 98 = .ok (.invokevirtual 31, 3) := by decide +kernel
theorem dL_writes_101 : decode cL_writes 101 = .ok (.iconst 1, 1) := by decide +kernel
theorem dL_writes_102 : decode cL_writes 102 = .ok (.if_icmp .ge 7, 3) := by decide +kernel
theorem dL_writes_105 : decode cL_writes 105 = .ok (.iconst 1, 1) := by decide +kernel
theorem dL_writes_106 : decode cL_writes 106 = .ok (.goto 4, 3) := by decide +kernel
theorem dL_writes_109 : decode cL_writes 109 = .ok (.iconst 0, 1) := by decide +kernel
theorem dL_writes_110 : decode cL_writes 110 = .ok (.istore 9, 2) := by decide +kernel
theorem dL_writes_112 : decode cL_writes 112 = .ok (.iinc 10 1, 3) := by decide +kernel
theorem dL_writes_115 : decode cL_writes 115 = .ok (.goto (-34), 3) := by decide +kernel
theorem dL_writes_118 : decode cL_writes 118 = .ok (.aload_n 0, 1) := by decide +kernel
theorem dL_writes_119 : decode cL_writes 119 = .ok (.iload_n 1, 1) := by decide +kernel
theorem dL_writes_120 : decode cL_writes 120 = .ok (.iload_n 2, 1) := by decide +kernel
theorem dL_writes_121 : decode cL_writes 121 = .ok (.invokevirtual 51, 3) := by decide +kernel
theorem dL_writes_124 : decode cL_writes 124 = .ok (.iload 6, 2) := by decide +kernel
theorem dL_writes_126 : decode cL_writes 126 = .ok (.if_icmp .ne 74, 3) := by decide +kernel
theorem dL_writes_129 : decode cL_writes 129 = .ok (.aload_n 0, 1) := by decide +kernel
theorem dL_writes_130 : decode cL_writes 130 = .ok (.iconst 0, 1) := by decide +kernel
theorem dL_writes_131 : decode cL_writes 131 = .ok (.invokevirtual 27, 3) := by decide +kernel
theorem dL_writes_134 : decode cL_writes 134 = .ok (.aload_n 0, 1) := by decide +kernel
theorem dL_writes_135 : decode cL_writes 135 = .ok (.iconst 1, 1) := by decide +kernel
theorem dL_writes_136 : decode cL_writes 136 = .ok (.invokevirtual 27, 3) := by decide +kernel
theorem dL_writes_139 : decode cL_writes 139 = .ok (.iadd, 1) := by decide +kernel
theorem dL_writes_140 : decode cL_writes 140 = .ok (.iload_n 3, 1) := by decide +kernel
theorem dL_writes_141 : decode cL_writes 141 = .ok (.iload 6, 2) := by decide +kernel
theorem dL_writes_143 : decode cL_writes 143 = .ok (.iadd, 1) := by decide +kernel
theorem dL_writes_144 : decode cL_writes 144 = .ok (.if_icmp .ne 56, 3) := by decide +kernel
theorem dL_writes_147 : decode cL_writes 147 = .ok (.iload 6, 2) := by decide +kernel
theorem dL_writes_149 : decode cL_writes 149 = .ok (.ifCond .ne 7, 3) := by decide +kernel
theorem dL_writes_152 : decode cL_writes 152 = .ok (.iconst 1, 1) := by decide +kernel
theorem dL_writes_153 : decode cL_writes 153 = .ok (.goto 4, 3) := by decide +kernel
theorem dL_writes_156 : decode cL_writes 156 = .ok (.iconst 0, 1) := by decide +kernel
theorem dL_writes_157 : decode cL_writes 157 = .ok (.iload 7, 2) := by decide +kernel
theorem dL_writes_159 : decode cL_writes 159 = .ok (.ifCond .eq 12, 3) := by decide +kernel
theorem dL_writes_162 : decode cL_writes 162 = .ok (.iload 9, 2) := by decide +kernel
theorem dL_writes_164 : decode cL_writes 164 = .ok (.ifCond .eq 7, 3) := by decide +kernel
theorem dL_writes_167 : decode cL_writes 167 = .ok (.iconst 1, 1) := by decide +kernel
theorem dL_writes_168 : decode cL_writes 168 = .ok (.goto 4, 3) := by decide +kernel
theorem dL_writes_171 : decode cL_writes 171 = .ok (.iconst 0, 1) := by decide +kernel
theorem dL_writes_172 : decode cL_writes 172 = .ok (.if_icmp .ne 28, 3) := by decide +kernel
theorem dL_writes_175 : decode cL_writes 175 = .ok (.aload_n 0, 1) := by decide +kernel
theorem dL_writes_176 : decode cL_writes 176 = .ok (.iconst 2, 1) := by decide +kernel
theorem dL_writes_177 : decode cL_writes 177 = .ok (.invokevirtual 27, 3) := by decide +kernel
theorem dL_writes_180 : decode cL_writes 180 = .ok (.aload_n 0, 1) := by decide +kernel
theorem dL_writes_181 : decode cL_writes 181 = .ok (.iconst 3, 1) := by decide +kernel
theorem dL_writes_182 : decode cL_writes 182 = .ok (.invokevirtual 27, 3) := by decide +kernel
theorem dL_writes_185 : decode cL_writes 185 = .ok (.iadd, 1) := by decide +kernel
theorem dL_writes_186 : decode cL_writes 186 = .ok (.iload 4, 2) := by decide +kernel
theorem dL_writes_188 : decode cL_writes 188 = .ok (.iload 5, 2) := by decide +kernel
theorem dL_writes_190 : decode cL_writes 190 = .ok (.iadd, 1) := by decide +kernel
theorem dL_writes_191 : decode cL_writes 191 = .ok (.iconst 1, 1) := by decide +kernel
theorem dL_writes_192 : decode cL_writes 192 = .ok (.iadd, 1) := by decide +kernel
theorem dL_writes_193 : decode cL_writes 193 = .ok (.if_icmp .ne 7, 3) := by decide +kernel
theorem dL_writes_196 : decode cL_writes 196 = .ok (.iconst 1, 1) := by decide +kernel
theorem dL_writes_197 : decode cL_writes 197 = .ok (.goto 4, 3) := by decide +kernel
theorem dL_writes_200 : decode cL_writes 200 = .ok (.iconst 0, 1) := by decide +kernel
theorem dL_writes_201 : decode cL_writes 201 = .ok (.istore 10, 2) := by decide +kernel
theorem dL_writes_203 : decode cL_writes 203 = .ok (.aload_n 0, 1) := by decide +kernel
theorem dL_writes_204 : decode cL_writes 204 = .ok (.iload_n 1, 1) := by decide +kernel
theorem dL_writes_205 : decode cL_writes 205 = .ok (.invokestatic 45, 3) := by decide +kernel
theorem dL_writes_208 : decode cL_writes 208 = .ok (.istore 11, 2) := by decide +kernel
theorem dL_writes_210 : decode cL_writes 210 = .ok (.iload 7, 2) := by decide +kernel
theorem dL_writes_212 : decode cL_writes 212 = .ok (.ifCond .eq 73, 3) := by decide +kernel
theorem dL_writes_215 : decode cL_writes 215 = .ok (.iload 10, 2) := by decide +kernel
theorem dL_writes_217 : decode cL_writes 217 = .ok (.ifCond .eq 66, 3) := by decide +kernel
theorem dL_writes_220 : decode cL_writes 220 = .ok (.aload_n 0, 1) := by decide +kernel
theorem dL_writes_221 : decode cL_writes 221 = .ok (.iconst 2, 1) := by decide +kernel
theorem dL_writes_222 : decode cL_writes 222 = .ok (.invokevirtual 27, 3) := by decide +kernel
theorem dL_writes_225 : decode cL_writes 225 = .ok (.iload 4, 2) := by decide +kernel
theorem dL_writes_227 : decode cL_writes 227 = .ok (.iconst 1, 1) := by decide +kernel
theorem dL_writes_228 : decode cL_writes 228 = .ok (.iadd, 1) := by decide +kernel
theorem dL_writes_229 : decode cL_writes 229 = .ok (.if_icmp .ne 54, 3) := by decide +kernel
theorem dL_writes_232 : decode cL_writes 232 = .ok (.iload 11, 2) := by decide +kernel
theorem dL_writes_234 : decode cL_writes 234 = .ok (.ifCond .lt 49, 3) := by decide +kernel
theorem dL_writes_237 : decode cL_writes 237 = .ok (.aload_n 0, 1) := by decide +kernel
theorem dL_writes_238 : decode cL_writes 238 = .ok (.iload 11, 2) := by decide +kernel
theorem dL_writes_240 : decode cL_writes 240 = .ok (.iconst 3, 1) := by decide +kernel
theorem dL_writes_241 : decode cL_writes 241 = .ok (.idiv, 1) := by decide +kernel
theorem dL_writes_242 : decode cL_writes 242 = .ok (.iload 11, 2) := by decide +kernel
theorem dL_writes_244 : decode cL_writes 244 = .ok (.iconst 3, 1) := by decide +kernel
theorem dL_writes_245 : decode cL_writes 245 = .ok (.irem, 1) := by decide +kernel
theorem dL_writes_246 : decode cL_writes 246 = .ok (.iconst 1, 1) := by decide +kernel
theorem dL_writes_247 : decode cL_writes 247 = .ok (.invokevirtual 31, 3) := by decide +kernel
theorem dL_writes_250 : decode cL_writes 250 = .ok (.iload_n 2, 1) := by decide +kernel
theorem dL_writes_251 : decode cL_writes 251 = .ok (.if_icmp .ne 32, 3) := by decide +kernel
theorem dL_writes_254 : decode cL_writes 254 = .ok (.aload_n 0, 1) := by decide +kernel
theorem dL_writes_255 : decode cL_writes 255 = .ok (.iload 11, 2) := by decide +kernel
theorem dL_writes_257 : decode cL_writes 257 = .ok (.iconst 3, 1) := by decide +kernel
theorem dL_writes_258 : decode cL_writes 258 = .ok (.idiv, 1) := by decide +kernel
theorem dL_writes_259 : decode cL_writes 259 = .ok (.iload 11, 2) := by decide +kernel
theorem dL_writes_261 : decode cL_writes 261 = .ok (.iconst 3, 1) := by decide +kernel
theorem dL_writes_262 : decode cL_writes 262 = .ok (.irem, 1) := by decide +kernel
theorem dL_writes_263 : decode cL_writes 263 = .ok (.iconst 4, 1) := by decide +kernel
theorem dL_writes_264 : decode cL_writes 264 = .ok (.invokevirtual 31, 3) := by decide +kernel
theorem dL_writes_267 : decode cL_writes 267 = .ok (.iconst 1, 1) := by decide +kernel
theorem dL_writes_268 : decode cL_writes 268 = .ok (.if_icmp .ne 15, 3) := by decide +kernel
theorem dL_writes_271 : decode cL_writes 271 = .ok (.aload_n 0, 1) := by decide +kernel
theorem dL_writes_272 : decode cL_writes 272 = .ok (.iload_n 1, 1) := by decide +kernel
theorem dL_writes_273 : decode cL_writes 273 = .ok (.invokevirtual 38, 3) := by decide +kernel
theorem dL_writes_276 : decode cL_writes 276 = .ok (.ifCond .eq 7, 3) := by decide +kernel
theorem dL_writes_279 : decode cL_writes 279 = .ok (.iconst 1, 1) := by decide +kernel
theorem dL_writes_280 : decode cL_writes 280 = .ok (.goto 4, 3) := by decide +kernel
theorem dL_writes_283 : decode cL_writes 283 = .ok (.iconst 0, 1) := by decide +kernel
theorem dL_writes_284 : decode cL_writes 284 = .ok (.ireturn, 1) := by decide +kernel
theorem dL_writes_285 : decode cL_writes 285 = .ok (.iload 10, 2) := by decide +kernel
theorem dL_writes_287 : decode cL_writes 287 = .ok (.ifCond .eq 81, 3) := by decide +kernel
theorem dL_writes_290 : decode cL_writes 290 = .ok (.aload_n 0, 1) := by decide +kernel
theorem dL_writes_291 : decode cL_writes 291 = .ok (.iconst 3, 1) := by decide +kernel
theorem dL_writes_292 : decode cL_writes 292 = .ok (.invokevirtual 27, 3) := by decide +kernel
theorem dL_writes_295 : decode cL_writes 295 = .ok (.iload 5, 2) := by decide +kernel
theorem dL_writes_297 : decode cL_writes 297 = .ok (.iconst 1, 1) := by decide +kernel
theorem dL_writes_298 : decode cL_writes 298 = .ok (.iadd, 1) := by decide +kernel
theorem dL_writes_299 : decode cL_writes 299 = .ok (.if_icmp .ne 69, 3) := by decide +kernel
theorem dL_writes_302 : decode cL_writes 302 = .ok (.aload_n 0, 1) := by decide +kernel
theorem dL_writes_303 : decode cL_writes 303 = .ok (.iload_n 1, 1) := by decide +kernel
theorem dL_writes_304 : decode cL_writes 304 = .ok (.invokevirtual 35, 3) := by decide +kernel
theorem dL_writes_307 : decode cL_writes 307 = .ok (.iload_n 2, 1) := by decide +kernel
theorem dL_writes_308 : decode cL_writes 308 = .ok (.if_icmp .ne 60, 3) := by decide +kernel
theorem dL_writes_311 : decode cL_writes 311 = .ok (.aload_n 0, 1) := by decide +kernel
theorem dL_writes_312 : decode cL_writes 312 = .ok (.iload_n 1, 1) := by decide +kernel
theorem dL_writes_313 : decode cL_writes 313 = .ok (.invokevirtual 38, 3) := by decide +kernel
theorem dL_writes_316 : decode cL_writes 316 = .ok (.ifCond .eq 52, 3) := by decide +kernel
theorem dL_writes_319 : decode cL_writes 319 = .ok (.aload_n 0, 1) := by decide +kernel
theorem dL_writes_320 : decode cL_writes 320 = .ok (.invokevirtual 21, 3) := by decide +kernel
theorem dL_writes_323 : decode cL_writes 323 = .ok (.ifCond .eq 41, 3) := by decide +kernel
theorem dL_writes_326 : decode cL_writes 326 = .ok (.iload 11, 2) := by decide +kernel
theorem dL_writes_328 : decode cL_writes 328 = .ok (.ifCond .lt 36, 3) := by decide +kernel
theorem dL_writes_331 : decode cL_writes 331 = .ok (.aload_n 0, 1) := by decide +kernel
theorem dL_writes_332 : decode cL_writes 332 = .ok (.iload 11, 2) := by decide +kernel
theorem dL_writes_334 : decode cL_writes 334 = .ok (.iconst 3, 1) := by decide +kernel
theorem dL_writes_335 : decode cL_writes 335 = .ok (.idiv, 1) := by decide +kernel
theorem dL_writes_336 : decode cL_writes 336 = .ok (.iload 11, 2) := by decide +kernel
theorem dL_writes_338 : decode cL_writes 338 = .ok (.iconst 3, 1) := by decide +kernel
theorem dL_writes_339 : decode cL_writes 339 = .ok (.irem, 1) := by decide +kernel
theorem dL_writes_340 : decode cL_writes 340 = .ok (.iconst 1, 1) := by decide +kernel
theorem dL_writes_341 : decode cL_writes 341 = .ok (.invokevirtual 31, 3) := by decide +kernel
theorem dL_writes_344 : decode cL_writes 344 = .ok (.iload_n 2, 1) := by decide +kernel
theorem dL_writes_345 : decode cL_writes 345 = .ok (.if_icmp .ne 23, 3) := by decide +kernel
theorem dL_writes_348 : decode cL_writes 348 = .ok (.aload_n 0, 1) := by decide +kernel
theorem dL_writes_349 : decode cL_writes 349 = .ok (.iload 11, 2) := by decide +kernel
theorem dL_writes_351 : decode cL_writes 351 = .ok (.iconst 3, 1) := by decide +kernel
theorem dL_writes_352 : decode cL_writes 352 = .ok (.idiv, 1) := by decide +kernel
theorem dL_writes_353 : decode cL_writes 353 = .ok (.iload 11, 2) := by decide +kernel
theorem dL_writes_355 : decode cL_writes 355 = .ok (.iconst 3, 1) := by decide +kernel
theorem dL_writes_356 : decode cL_writes 356 = .ok (.irem, 1) := by decide +kernel
theorem dL_writes_357 : decode cL_writes 357 = .ok (.iconst 4, 1) := by decide +kernel
theorem dL_writes_358 : decode cL_writes 358 = .ok (.invokevirtual 31, 3) := by decide +kernel
theorem dL_writes_361 : decode cL_writes 361 = .ok (.ifCond .ne 7, 3) := by decide +kernel
theorem dL_writes_364 : decode cL_writes 364 = .ok (.iconst 1, 1) := by decide +kernel
theorem dL_writes_365 : decode cL_writes 365 = .ok (.goto 4, 3) := by decide +kernel
theorem dL_writes_368 : decode cL_writes 368 = .ok (.iconst 0, 1) := by decide +kernel
theorem dL_writes_369 : decode cL_writes 369 = .ok (.ireturn, 1) := by decide +kernel
set_option maxRecDepth 20000 in
theorem ggL_acts_L_up : GoodIn wsL_acts wsL_up := goodIn_r _ [4, 5] (by decide +kernel) (by decide +kernel)
set_option maxRecDepth 20000 in
theorem gL_acts_L_up : GoodIn wsL_acts (va_wsS RL 55 yL_up wsL_up) := goodIn_app (goodIn_of _ (by decide +kernel)) ggL_acts_L_up
set_option maxRecDepth 20000 in
theorem ggL_acts_X4_isOn : GoodIn wsL_acts wsX4_isOn := goodIn_r _ [10, 11, 12, 335, 336, 337, 338, 339, 340, 341, 342, 343, 344] (by decide +kernel) (by decide +kernel)
set_option maxRecDepth 20000 in
theorem gL_acts_X4_isOn : GoodIn wsL_acts (wsV RL 17 RX4 yX4_isOn wsX4_isOn) := goodIn_app (goodIn_of _ (by decide +kernel)) ggL_acts_X4_isOn
set_option maxRecDepth 20000 in
theorem ggL_acts_X4_isIn : GoodIn wsL_acts wsX4_isIn := goodIn_r _ [16, 11, 17, 18, 335, 336, 337, 338, 339, 340, 341, 342, 343, 344, 345, 346, 347, 348, 349, 350, 351, 352, 353] (by decide +kernel) (by decide +kernel)
set_option maxRecDepth 20000 in
theorem gL_acts_X4_isIn : GoodIn wsL_acts (wsV RL 21 RX4 yX4_isIn wsX4_isIn) := goodIn_app (goodIn_of _ (by decide +kernel)) ggL_acts_X4_isIn
set_option maxRecDepth 20000 in
theorem ggL_acts_X4_count : GoodIn wsL_acts wsX4_count := goodIn_ca (goodIn_r _ [22, 23, 24, 11, 25, 335, 336, 337, 338, 339, 340, 341, 342, 343, 344] (by decide +kernel) (by decide +kernel)) (goodIn_sub (fun _ h => List.mem_cons_of_mem _ (List.mem_append_left _ (List.mem_append_left _ (List.mem_append_right _ h)))) (by decide +kernel))
set_option maxRecDepth 20000 in
theorem gL_acts_X4_count : GoodIn wsL_acts (wsV RL 27 RX4 yX4_count wsX4_count) := goodIn_app (goodIn_of _ (by decide +kernel)) ggL_acts_X4_count
set_option maxRecDepth 20000 in
theorem ggL_acts_X4_dirty : GoodIn wsL_acts wsX4_dirty := goodIn_r _ [29, 11, 17, 30, 31, 32, 33, 34, 35, 335, 336, 337, 338, 339, 340, 341, 342, 343, 344, 345, 346, 347, 348, 349, 350, 351, 352, 353] (by decide +kernel) (by decide +kernel)
set_option maxRecDepth 20000 in
theorem gL_acts_X4_dirty : GoodIn wsL_acts (wsV RL 58 RX4 yX4_dirty wsX4_dirty) := goodIn_app (goodIn_of _ (by decide +kernel)) ggL_acts_X4_dirty
set_option maxRecDepth 20000 in
theorem ggL_acts_X4_charge : GoodIn wsL_acts wsX4_charge := goodIn_r _ [39, 11, 17, 40, 335, 336, 337, 338, 339, 340, 341, 342, 343, 344, 345, 346, 347, 348, 349, 350, 351, 352, 353] (by decide +kernel) (by decide +kernel)
set_option maxRecDepth 20000 in
theorem gL_acts_X4_charge : GoodIn wsL_acts (wsV RL 11 RX4 yX4_charge wsX4_charge) := goodIn_app (goodIn_of _ (by decide +kernel)) ggL_acts_X4_charge
set_option maxRecDepth 20000 in
theorem ggL_acts_X4_power : GoodIn wsL_acts wsX4_power := goodIn_r _ [44, 45, 11, 46, 47, 48, 49, 50, 51, 52, 53, 54, 55, 56, 57, 58, 59, 60, 61, 62, 63, 64, 65, 66, 67, 68, 69, 70, 71, 72, 73, 74, 75, 76, 77, 78, 79, 80, 33, 81, 82, 83, 84, 85, 86, 35, 87, 88, 89, 90, 91, 92, 93, 94, 95, 96, 97, 98, 99, 100, 101, 102, 103, 104, 105, 106, 107, 108, 109, 110, 111, 112, 113, 9, 114, 115, 116, 117, 118, 119, 120, 121, 122, 123, 124, 125, 126, 127, 128, 335, 336, 337, 354, 355, 356, 338, 339, 340, 341, 342, 343, 344, 345, 346, 347, 348, 349, 350, 351, 352, 353] (by decide +kernel) (by decide +kernel)
set_option maxRecDepth 20000 in
theorem gL_acts_X4_power : GoodIn wsL_acts (wsV RL 61 RX4 yX4_power wsX4_power) := goodIn_app (goodIn_of _ (by decide +kernel)) ggL_acts_X4_power
set_option maxRecDepth 20000 in
theorem ggL_acts_X4_used : GoodIn wsL_acts wsX4_used := goodIn_r _ [132, 11, 17, 133, 134, 135, 33, 136, 82, 335, 336, 337, 338, 339, 340, 341, 342, 343, 344, 345, 346, 347, 348, 349, 350, 351, 352, 353] (by decide +kernel) (by decide +kernel)
set_option maxRecDepth 20000 in
theorem gL_acts_X4_used : GoodIn wsL_acts (wsV RL 65 RX4 yX4_used wsX4_used) := goodIn_app (goodIn_of _ (by decide +kernel)) ggL_acts_X4_used
set_option maxRecDepth 20000 in
theorem ggL_acts_X4_moveStick : GoodIn wsL_acts wsX4_moveStick := goodIn_ca (goodIn_r _ [140, 141, 142, 11, 12, 45, 46, 47, 48, 49, 50, 51, 52, 53, 54, 55, 56, 57, 58, 59, 60, 61, 62, 63, 64, 65, 66, 67, 68, 69, 70, 71, 72, 73, 74, 75, 76, 77, 78, 79, 80, 33, 81, 82, 83, 84, 85, 86, 35, 87, 88, 89, 90, 143, 144, 145, 146, 95, 147, 148, 149, 150, 105, 107, 119, 9, 120, 151, 152, 153, 154, 155, 156, 335, 336, 337, 338, 339, 340, 341, 342, 343, 344, 354, 355, 356, 345, 346, 347, 348, 349, 350, 351, 352, 353] (by decide +kernel) (by decide +kernel)) (goodIn_sub (fun _ h => List.mem_cons_of_mem _ (List.mem_append_left _ (List.mem_append_right _ h))) (by decide +kernel))
set_option maxRecDepth 20000 in
theorem gL_acts_X4_moveStick : GoodIn wsL_acts (wsV RL 68 RX4 yX4_moveStick wsX4_moveStick) := goodIn_app (goodIn_of _ (by decide +kernel)) ggL_acts_X4_moveStick
set_option maxRecDepth 20000 in
theorem ggL_acts_X4_pass : GoodIn wsL_acts wsX4_pass := goodIn_ca (goodIn_r _ [160, 23, 24, 45, 11, 17, 40, 46, 47, 48, 49, 50, 51, 52, 53, 54, 55, 56, 57, 58, 59, 60, 61, 62, 63, 64, 65, 66, 67, 68, 69, 70, 71, 72, 73, 74, 75, 76, 77, 78, 79, 80, 33, 81, 82, 83, 84, 85, 86, 35, 87, 88, 89, 90, 161, 162, 163, 164, 165, 166, 167, 168, 95, 169, 170, 171, 172, 173, 174, 175, 176, 177, 178, 179, 180, 181, 31, 32, 34, 182, 152, 153, 154, 155, 9, 156, 335, 336, 337, 338, 339, 340, 341, 342, 343, 344, 345, 346, 347, 348, 349, 350, 351, 352, 353, 354, 355, 356] (by decide +kernel) (by decide +kernel)) (goodIn_sub (fun _ h => List.mem_cons_of_mem _ (List.mem_append_left _ (List.mem_append_left _ (List.mem_append_right _ h)))) (by decide +kernel))
set_option maxRecDepth 20000 in
theorem gL_acts_X4_pass : GoodIn wsL_acts (wsV RL 71 RX4 yX4_pass wsX4_pass) := goodIn_app (goodIn_of _ (by decide +kernel)) ggL_acts_X4_pass
set_option maxRecDepth 20000 in
theorem ggL_acts_X4_setLimit : GoodIn wsL_acts wsX4_setLimit := goodIn_ca (goodIn_r _ [186, 23, 24, 45, 11, 17, 40, 46, 47, 48, 49, 50, 51, 52, 53, 54, 55, 56, 57, 58, 59, 60, 61, 62, 63, 64, 65, 66, 67, 68, 69, 70, 71, 72, 73, 74, 75, 76, 77, 78, 79, 80, 33, 81, 82, 83, 84, 85, 86, 35, 87, 88, 89, 90, 187, 188, 189, 190, 173, 335, 336, 337, 338, 339, 340, 341, 342, 343, 344, 345, 346, 347, 348, 349, 350, 351, 352, 353, 354, 355, 356] (by decide +kernel) (by decide +kernel)) (goodIn_sub (fun _ h => List.mem_cons_of_mem _ (List.mem_append_left _ (List.mem_append_left _ (List.mem_append_right _ h)))) (by decide +kernel))
set_option maxRecDepth 20000 in
theorem gL_acts_X4_setLimit : GoodIn wsL_acts (wsV RL 74 RX4 yX4_setLimit wsX4_setLimit) := goodIn_app (goodIn_of _ (by decide +kernel)) ggL_acts_X4_setLimit
set_option maxRecDepth 20000 in
theorem ggL_acts_X4_ifDestaged : GoodIn wsL_acts wsX4_ifDestaged := goodIn_r _ [194, 11, 195, 166, 167, 65, 168, 77, 67, 95, 196, 197, 198, 199, 200, 201, 202, 33, 203, 204, 110, 111, 112, 35, 82, 113, 9, 114, 205, 206, 207, 125, 126, 208, 127, 128, 335, 336, 337, 338, 339, 340, 341, 342, 343, 344, 345, 346, 347, 348, 349, 350, 351, 352, 353] (by decide +kernel) (by decide +kernel)
set_option maxRecDepth 20000 in
theorem gL_acts_X4_ifDestaged : GoodIn wsL_acts (wsV RL 77 RX4 yX4_ifDestaged wsX4_ifDestaged) := goodIn_app (goodIn_of _ (by decide +kernel)) ggL_acts_X4_ifDestaged
set_option maxRecDepth 20000 in
theorem ggL_acts_X4_destageAll : GoodIn wsL_acts wsX4_destageAll := goodIn_ca (goodIn_r _ [212, 45, 11, 213, 214, 215, 9, 216, 141, 142, 195, 166, 167, 65, 168, 77, 67, 95, 46, 47, 48, 49, 50, 51, 52, 53, 54, 55, 56, 57, 58, 59, 60, 61, 62, 63, 64, 66, 68, 69, 70, 71, 72, 73, 74, 75, 76, 78, 79, 80, 33, 81, 82, 83, 84, 85, 86, 35, 87, 88, 89, 90, 217, 98, 99, 100, 101, 102, 103, 104, 105, 106, 107, 108, 109, 110, 111, 112, 113, 114, 115, 116, 117, 118, 119, 120, 121, 122, 123, 124, 125, 126, 127, 128, 335, 336, 337, 338, 339, 340, 341, 342, 343, 344, 345, 346, 347, 348, 349, 350, 351, 352, 353, 354, 355, 356] (by decide +kernel) (by decide +kernel)) (goodIn_sub (fun _ h => List.mem_cons_of_mem _ (List.mem_append_left _ (List.mem_append_right _ h))) (by decide +kernel))
set_option maxRecDepth 20000 in
theorem gL_acts_X4_destageAll : GoodIn wsL_acts (wsV RL 80 RX4 yX4_destageAll wsX4_destageAll) := goodIn_app (goodIn_of _ (by decide +kernel)) ggL_acts_X4_destageAll
set_option maxRecDepth 20000 in
theorem ggL_acts_X4_dirtyOf : GoodIn wsL_acts wsX4_dirtyOf := goodIn_ca (goodIn_r _ [221, 11, 17, 222, 223, 9, 224, 225, 226, 227, 201, 202, 33, 203, 204, 110, 111, 112, 35, 82, 113, 114, 335, 336, 337, 338, 339, 340, 341, 342, 343, 344, 345, 346, 347, 348, 349, 350, 351, 352, 353] (by decide +kernel) (by decide +kernel)) (goodIn_sub (fun _ h => List.mem_cons_of_mem _ (List.mem_append_right _ h)) (by decide +kernel))
set_option maxRecDepth 20000 in
theorem gL_acts_X4_dirtyOf : GoodIn wsL_acts (wsV RL 83 RX4 yX4_dirtyOf wsX4_dirtyOf) := goodIn_app (goodIn_of _ (by decide +kernel)) ggL_acts_X4_dirtyOf
set_option maxRecDepth 20000 in
theorem ggL_acts_X4_destage : GoodIn wsL_acts wsX4_destage := goodIn_ca (goodIn_ca (goodIn_r _ [231, 45, 11, 222, 223, 9, 224, 225, 226, 213, 214, 215, 216, 141, 142, 195, 166, 167, 65, 168, 77, 67, 95, 46, 47, 48, 49, 50, 51, 52, 53, 54, 55, 56, 57, 58, 59, 60, 61, 62, 63, 64, 66, 68, 69, 70, 71, 72, 73, 74, 75, 76, 78, 79, 80, 33, 81, 82, 83, 84, 85, 86, 35, 87, 88, 89, 90, 232, 102, 103, 104, 105, 106, 107, 108, 109, 110, 111, 112, 113, 114, 115, 116, 117, 118, 119, 120, 121, 122, 123, 124, 125, 126, 127, 128, 335, 336, 337, 338, 339, 340, 341, 342, 343, 344, 345, 346, 347, 348, 349, 350, 351, 352, 353, 354, 355, 356] (by decide +kernel) (by decide +kernel)) (goodIn_sub (fun _ h => List.mem_cons_of_mem _ (List.mem_append_right _ h)) (by decide +kernel))) (goodIn_sub (fun _ h => List.mem_cons_of_mem _ (List.mem_append_left _ (List.mem_append_right _ h))) (by decide +kernel))
set_option maxRecDepth 20000 in
theorem gL_acts_X4_destage : GoodIn wsL_acts (wsV RL 86 RX4 yX4_destage wsX4_destage) := goodIn_app (goodIn_of _ (by decide +kernel)) ggL_acts_X4_destage
set_option maxRecDepth 20000 in
theorem ggL_acts_L_lineOf : GoodIn wsL_acts wsL_lineOf := goodIn_ca (goodIn_ca (goodIn_r _ [235, 236, 237, 238, 9, 239, 225, 226, 23, 24, 11, 17, 240, 241, 242, 33, 243, 82, 84, 85, 86, 35, 155, 156, 335, 336, 337, 338, 339, 340, 341, 342, 343, 344, 345, 346, 347, 348, 349, 350, 351, 352, 353] (by decide +kernel) (by decide +kernel)) (goodIn_sub (fun _ h => List.mem_cons_of_mem _ (List.mem_append_right _ h)) (by decide +kernel))) (goodIn_sub (fun _ h => List.mem_cons_of_mem _ (List.mem_append_left _ (List.mem_append_left _ (List.mem_append_right _ h)))) (by decide +kernel))
set_option maxRecDepth 20000 in
theorem gL_acts_L_lineOf : GoodIn wsL_acts (va_wsS RL 45 yL_lineOf wsL_lineOf) := goodIn_app (goodIn_of _ (by decide +kernel)) ggL_acts_L_lineOf
set_option maxRecDepth 20000 in
theorem ggL_acts_X4_line : GoodIn wsL_acts wsX4_line := goodIn_ca (goodIn_ca (goodIn_r _ [239, 225, 226, 23, 24, 11, 17, 240, 241, 242, 33, 243, 82, 84, 85, 86, 35, 155, 9, 156, 335, 336, 337, 338, 339, 340, 341, 342, 343, 344, 345, 346, 347, 348, 349, 350, 351, 352, 353] (by decide +kernel) (by decide +kernel)) (goodIn_sub (fun _ h => List.mem_cons_of_mem _ (List.mem_append_right _ h)) (by decide +kernel))) (goodIn_sub (fun _ h => List.mem_cons_of_mem _ (List.mem_append_left _ (List.mem_append_left _ (List.mem_append_right _ h)))) (by decide +kernel))
set_option maxRecDepth 20000 in
theorem gL_acts_X4_line : GoodIn wsL_acts (wsV RL 31 RX4 yX4_line wsX4_line) := goodIn_app (goodIn_of _ (by decide +kernel)) ggL_acts_X4_line
set_option maxRecDepth 20000 in
theorem ggL_acts_X4_onDisk : GoodIn wsL_acts wsX4_onDisk := goodIn_ca (goodIn_r _ [247, 11, 248, 249, 9, 250, 225, 226, 251, 119, 120, 252, 253, 254, 65, 255, 68, 335, 336, 337, 338, 339, 340, 341, 342, 343, 344] (by decide +kernel) (by decide +kernel)) (goodIn_sub (fun _ h => List.mem_cons_of_mem _ (List.mem_append_right _ h)) (by decide +kernel))
set_option maxRecDepth 20000 in
theorem gL_acts_X4_onDisk : GoodIn wsL_acts (wsV RL 35 RX4 yX4_onDisk wsX4_onDisk) := goodIn_app (goodIn_of _ (by decide +kernel)) ggL_acts_X4_onDisk
set_option maxRecDepth 20000 in
theorem ggL_acts_X4_read : GoodIn wsL_acts wsX4_read := goodIn_ca (goodIn_ca (goodIn_r _ [259, 45, 11, 248, 249, 9, 250, 225, 226, 251, 119, 120, 260, 261, 262, 263, 141, 142, 12, 46, 47, 48, 49, 50, 51, 52, 53, 54, 55, 56, 57, 58, 59, 60, 61, 62, 63, 64, 65, 66, 67, 68, 69, 70, 71, 72, 73, 74, 75, 76, 77, 78, 79, 80, 33, 81, 82, 83, 84, 85, 86, 35, 87, 88, 89, 90, 264, 265, 266, 267, 106, 268, 269, 270, 271, 272, 273, 274, 275, 155, 156, 276, 277, 278, 279, 280, 253, 254, 255, 335, 336, 337, 338, 339, 340, 341, 342, 343, 344, 354, 355, 356, 345, 346, 347, 348, 349, 350, 351, 352, 353] (by decide +kernel) (by decide +kernel)) (goodIn_sub (fun _ h => List.mem_cons_of_mem _ (List.mem_append_right _ h)) (by decide +kernel))) (goodIn_sub (fun _ h => List.mem_cons_of_mem _ (List.mem_append_left _ (List.mem_append_right _ h))) (by decide +kernel))
set_option maxRecDepth 20000 in
theorem gL_acts_X4_read : GoodIn wsL_acts (wsV RL 89 RX4 yX4_read wsX4_read) := goodIn_app (goodIn_of _ (by decide +kernel)) ggL_acts_X4_read
set_option maxRecDepth 20000 in
theorem ggL_acts_L_writes : GoodIn wsL_acts wsL_writes := goodIn_ca (goodIn_ca (goodIn_ca (goodIn_r _ [283, 19, 20, 21, 9, 22, 23, 24, 11, 25, 284, 285, 286, 287, 12, 248, 249, 250, 225, 226, 251, 119, 120, 288, 289, 290, 65, 291, 67, 292, 293, 294, 295, 95, 96, 205, 206, 207, 125, 126, 208, 127, 128, 113, 114, 296, 273, 274, 33, 275, 82, 155, 156, 297, 298, 299, 300, 35, 86, 301, 302, 303, 304, 305, 201, 202, 203, 204, 110, 111, 112, 200, 13, 14, 15, 16, 17, 18, 36, 37, 38, 39, 40, 233, 234, 3, 235, 236, 237, 238, 239, 240, 241, 242, 243, 84, 85, 306, 307, 308, 309, 45, 260, 261, 262, 263, 141, 142, 46, 47, 48, 49, 50, 51, 52, 53, 54, 55, 56, 57, 58, 59, 60, 61, 62, 63, 64, 66, 68, 69, 70, 71, 72, 73, 74, 75, 76, 77, 78, 79, 80, 81, 83, 87, 88, 89, 90, 310, 311, 312, 313, 314, 315, 316, 317, 101, 102, 103, 104, 105, 106, 107, 108, 109, 115, 116, 117, 118, 121, 122, 123, 124, 318, 319, 320, 321, 322, 277, 278, 279, 323, 324, 325, 326, 268, 269, 270, 271, 272, 327, 328, 329, 330, 331, 332, 333, 334, 244, 245, 246, 247, 252, 253, 254, 255, 335, 336, 337, 338, 339, 340, 341, 342, 343, 344, 345, 346, 347, 348, 349, 350, 351, 352, 353, 354, 355, 356] (by decide +kernel) (by decide +kernel)) (goodIn_sub (fun _ h => List.mem_cons_of_mem _ (List.mem_append_left _ (List.mem_append_left _ (List.mem_append_right _ h)))) (by decide +kernel))) (goodIn_sub (fun _ h => List.mem_cons_of_mem _ (List.mem_append_right _ h)) (by decide +kernel))) (goodIn_sub (fun _ h => List.mem_cons_of_mem _ (List.mem_append_left _ (List.mem_append_right _ h))) (by decide +kernel))
set_option maxRecDepth 20000 in
theorem gL_acts_L_writes : GoodIn wsL_acts (va_wsS RL 92 yL_writes wsL_writes) := goodIn_app (goodIn_of _ (by decide +kernel)) ggL_acts_L_writes
theorem dL_acts_0 : decode cL_acts 0 = .ok (.iload_n 2, 1) := by decide +kernel
theorem dL_acts_1 : decode cL_acts 1 = .ok (.iconst 3, 1) := by decide +kernel
theorem dL_acts_2 : decode cL_acts 2 = .ok (.iand, 1) := by decide +kernel
theorem dL_acts_3 : decode cL_acts 3 = .ok (.ifCond .ne 14, 3) := by decide +kernel
theorem dL_acts_6 : decode cL_acts 6 = .ok (.iload_n 2, 1) := by decide +kernel
theorem dL_acts_7 : decode cL_acts 7 = .ok (.iconst 2, 1) := by decide +kernel
theorem dL_acts_8 : decode cL_acts 8 = .ok (.ishr, 1) := by decide +kernel
theorem dL_acts_9 : decode cL_acts 9 = .ok (.bipush 64, 2) := by decide +kernel
theorem dL_acts_11 : decode cL_acts 11 = .ok (.invokestatic 55, 3) := by decide +kernel
theorem dL_acts_14 : decode cL_acts 14 = .ok (.goto 21, 3) := by decide +kernel
theorem dL_acts_17 : decode cL_acts 17 = .ok (.bipush 16, 2) := by decide +kernel
theorem dL_acts_19 : decode cL_acts 19 = .ok (.iload_n 2, 1) := by decide +kernel
theorem dL_acts_20 : decode cL_acts 20 = .ok (.iconst 2, 1) := by decide +kernel
theorem dL_acts_21 : decode cL_acts 21 = .ok (.ishr, 1) := by decide +kernel
theorem dL_acts_22 : decode cL_acts 22 = .ok (.iconst 4, 1) := by decide +kernel
theorem dL_acts_23 : decode cL_acts 23 = .ok (.invokestatic 55, 3) := by decide +kernel
theorem dL_acts_26 : decode cL_acts 26 = .ok (.imul, 1) := by decide +kernel
theorem dL_acts_27 : decode cL_acts 27 = .ok (.iload_n 2, 1) := by decide +kernel
theorem dL_acts_28 : decode cL_acts 28 = .ok (.iconst 4, 1) := by decide +kernel
theorem dL_acts_29 : decode cL_acts 29 = .ok (.ishr, 1) := by decide +kernel
theorem dL_acts_30 : decode cL_acts 30 = .ok (.iconst 5, 1) := by decide +kernel
theorem dL_acts_31 : decode cL_acts 31 = .ok (.invokestatic 55, 3) := by decide +kernel
theorem dL_acts_34 : decode cL_acts 34 = .ok (.iadd, 1) := by decide +kernel
theorem dL_acts_35 : decode cL_acts 35 = .ok (.istore_n 3, 1) := by decide +kernel
theorem dL_acts_36 : decode cL_acts 36 = .ok (.aload_n 0, 1) := by decide +kernel
theorem dL_acts_37 : decode cL_acts 37 = .ok (.invokevirtual 17, 3) := by decide +kernel
theorem dL_acts_40 : decode cL_acts 40 = .ok (.ifCond .eq 14, 3) := by decide +kernel
theorem dL_acts_43 : decode cL_acts 43 = .ok (.aload_n 0, 1) := by decide +kernel
theorem dL_acts_44 : decode cL_acts 44 = .ok (.invokevirtual 21, 3) := by decide +kernel
theorem dL_acts_47 : decode cL_acts 47 = .ok (.ifCond .eq 7, 3) := by decide +kernel
theorem dL_acts_50 : decode cL_acts 50 = .ok (.iconst 1, 1) := by decide +kernel
theorem dL_acts_51 : decode cL_acts 51 = .ok (.goto 4, 3) := by decide +kernel
theorem dL_acts_54 : decode cL_acts 54 = .ok (.iconst 0, 1) := by decide +kernel
theorem dL_acts_55 : decode cL_acts 55 = .ok (.istore 4, 2) := by decide +kernel
theorem dL_acts_57 : decode cL_acts 57 = .ok (.aload_n 0, 1) := by decide +kernel
theorem dL_acts_58 : decode cL_acts 58 = .ok (.iconst 0, 1) := by decide +kernel
theorem dL_acts_59 : decode cL_acts 59 = .ok (.invokevirtual 27, 3) := by decide +kernel
theorem dL_acts_62 : decode cL_acts 62 = .ok (.aload_n 0, 1) := by decide +kernel
theorem dL_acts_63 : decode cL_acts 63 = .ok (.iconst 1, 1) := by decide +kernel
theorem dL_acts_64 : decode cL_acts 64 = .ok (.invokevirtual 27, 3) := by decide +kernel
theorem dL_acts_67 : decode cL_acts 67 = .ok (.iadd, 1) := by decide +kernel
theorem dL_acts_68 : decode cL_acts 68 = .ok (.istore 5, 2) := by decide +kernel
theorem dL_acts_70 : decode cL_acts 70 = .ok (.iload_n 1, 1) := by decide +kernel
theorem dL_acts_71 : decode cL_acts 71 = .ok (.bipush 20, 2) := by decide +kernel
theorem dL_acts_73 : decode cL_acts 73 = .ok (.invokestatic 55, 3) := by decide +kernel
theorem dL_acts_76 : decode cL_acts 76 = .ok (.tableswitch 726 0 10 #[60, 149, 149, 239, 239, 429, 474, 554, 614, 614, 614], 60) := by decide +kernel
theorem dL_acts_136 : decode cL_acts 136 = .ok (.iload_n 2, 1) := by decide +kernel
theorem dL_acts_137 : decode cL_acts 137 = .ok (.iconst 3, 1) := by decide +kernel
theorem dL_acts_138 : decode cL_acts 138 = .ok (.iand, 1) := by decide +kernel
theorem dL_acts_139 : decode cL_acts 139 = .ok (.ifCond .le 7, 3) := by decide +kernel
theorem dL_acts_142 : decode cL_acts 142 = .ok (.iconst 1, 1) := by decide +kernel
theorem dL_acts_143 : decode cL_acts 143 = .ok (.goto 4, 3) := by decide +kernel
theorem dL_acts_146 : decode cL_acts 146 = .ok (.iconst 0, 1) := by decide +kernel
theorem dL_acts_147 : decode cL_acts 147 = .ok (.istore 6, 2) := by decide +kernel
theorem dL_acts_149 : decode cL_acts 149 = .ok (.aload_n 0, 1) := by decide +kernel
theorem dL_acts_150 : decode cL_acts 150 = .ok (.invokevirtual 58, 3) := by decide +kernel
theorem dL_acts_153 : decode cL_acts 153 = .ok (.istore 7, 2) := by decide +kernel
theorem dL_acts_155 : decode cL_acts 155 = .ok (.iload 6, 2) := by decide +kernel
theorem dL_acts_157 : decode cL_acts 157 = .ok (.ifCond .eq 30, 3) := by decide +kernel
theorem dL_acts_160 : decode cL_acts 160 = .ok (.aload_n 0, 1) := by decide +kernel
theorem dL_acts_161 : decode cL_acts 161 = .ok (.invokevirtual 17, 3) := by decide +kernel
theorem dL_acts_164 : decode cL_acts 164 = .ok (.ifCond .ne 23, 3) := by decide +kernel
theorem dL_acts_167 : decode cL_acts 167 = .ok (.aload_n 0, 1) := by decide +kernel
theorem dL_acts_168 : decode cL_acts 168 = .ok (.invokevirtual 21, 3) := by decide +kernel
theorem dL_acts_171 : decode cL_acts 171 = .ok (.ifCond .eq 16, 3) := by decide +kernel
theorem dL_acts_174 : decode cL_acts 174 = .ok (.aload_n 0, 1) := by decide +kernel
theorem dL_acts_175 : decode cL_acts 175 = .ok (.invokevirtual 11, 3) := by decide +kernel
theorem dL_acts_178 : decode cL_acts 178 = .ok (.bipush 20, 2) := by decide +kernel
theorem dL_acts_180 : decode cL_acts 180 = .ok (.if_icmp .ge 7, 3) := by decide +kernel
theorem dL_acts_183 : decode cL_acts 183 = .ok (.iconst 1, 1) := by decide +kernel
theorem dL_acts_184 : decode cL_acts 184 = .ok (.goto 4, 3) := by decide +kernel
theorem dL_acts_187 : decode cL_acts 187 = .ok (.iconst 0, 1) := by decide +kernel
theorem dL_acts_188 : decode cL_acts 188 = .ok (.istore 8, 2) := by decide +kernel
theorem dL_acts_190 : decode cL_acts 190 = .ok (.aload_n 0, 1) := by decide +kernel
theorem dL_acts_191 : decode cL_acts 191 = .ok (.iload 6, 2) := by decide +kernel
theorem dL_acts_193 : decode cL_acts 193 = .ok (.invokevirtual 61, 3) := by decide +kernel
theorem dL_acts_196 : decode cL_acts 196 = .ok (.iload 8, 2) := by decide +kernel
theorem dL_acts_198 : decode cL_acts 198 = .ok (.ifCond .eq 8, 3) := by decide +kernel
theorem dL_acts_201 : decode cL_acts 201 = .ok (.iload 7, 2) := by decide +kernel
theorem dL_acts_203 : decode cL_acts 203 = .ok (.goto 4, 3) := by decide +kernel
theorem dL_acts_206 : decode cL_acts 206 = .ok (.iconst 0, 1) := by decide +kernel
theorem dL_acts_207 : decode cL_acts 207 = .ok (.if_icmp .ne 16, 3) := by decide +kernel
theorem dL_acts_210 : decode cL_acts 210 = .ok (.aload_n 0, 1) := by decide +kernel
theorem dL_acts_211 : decode cL_acts 211 = .ok (.invokevirtual 17, 3) := by decide +kernel
theorem dL_acts_214 : decode cL_acts 214 = .ok (.iload 6, 2) := by decide +kernel
theorem dL_acts_216 : decode cL_acts 216 = .ok (.if_icmp .ne 7, 3) := by decide +kernel
theorem dL_acts_219 : decode cL_acts 219 = .ok (.iconst 1, 1) := by decide +kernel
theorem dL_acts_220 : decode cL_acts 220 = .ok (.goto 4, 3) := by decide +kernel
theorem dL_acts_223 : decode cL_acts 223 = .ok (.iconst 0, 1) := by decide +kernel
theorem dL_acts_224 : decode cL_acts 224 = .ok (.ireturn, 1) := by decide +kernel
theorem dL_acts_225 : decode cL_acts 225 = .ok (.iload_n 2, 1) := by decide +kernel
theorem dL_acts_226 : decode cL_acts 226 = .ok (.iconst 1, 1) := by decide +kernel
theorem dL_acts_227 : decode cL_acts 227 = .ok (.iand, 1) := by decide +kernel
theorem dL_acts_228 : decode cL_acts 228 = .ok (.ifCond .ne 7, 3) := by decide +kernel
theorem dL_acts_231 : decode cL_acts 231 = .ok (.iconst 1, 1) := by decide +kernel
theorem dL_acts_232 : decode cL_acts 232 = .ok (.goto 4, 3) := by decide +kernel
theorem dL_acts_235 : decode cL_acts 235 = .ok (.iconst 0, 1) := by decide +kernel
theorem dL_acts_236 : decode cL_acts 236 = .ok (.istore 9, 2) := by decide +kernel
theorem dL_acts_238 : decode cL_acts 238 = .ok (.aload_n 0, 1) := by decide +kernel
theorem dL_acts_239 : decode cL_acts 239 = .ok (.invokevirtual 65, 3) := by decide +kernel
theorem dL_acts_242 : decode cL_acts 242 = .ok (.istore 10, 2) := by decide +kernel
theorem dL_acts_244 : decode cL_acts 244 = .ok (.aload_n 0, 1) := by decide +kernel
theorem dL_acts_245 : decode cL_acts 245 = .ok (.invokevirtual 17, 3) := by decide +kernel
theorem dL_acts_248 : decode cL_acts 248 = .ok (.ifCond .eq 17, 3) := by decide +kernel
theorem dL_acts_251 : decode cL_acts 251 = .ok (.aload_n 0, 1) := by decide +kernel
theorem dL_acts_252 : decode cL_acts 252 = .ok (.iconst 0, 1) := by decide +kernel
theorem dL_acts_253 : decode cL_acts 253 = .ok (.invokevirtual 61, 3) := by decide +kernel
theorem dL_acts_256 : decode cL_acts 256 = .ok (.ifCond .ne 7, 3) := by decide +kernel
theorem dL_acts_259 : decode cL_acts 259 = .ok (.iconst 1, 1) := by decide +kernel
theorem dL_acts_260 : decode cL_acts 260 = .ok (.goto 4, 3) := by decide +kernel
theorem dL_acts_263 : decode cL_acts 263 = .ok (.iconst 0, 1) := by decide +kernel
theorem dL_acts_264 : decode cL_acts 264 = .ok (.ireturn, 1) := by decide +kernel
theorem dL_acts_265 : decode cL_acts 265 = .ok (.aload_n 0, 1) := by decide +kernel
theorem dL_acts_266 : decode cL_acts 266 = .ok (.iload 9, 2) := by decide +kernel
theorem dL_acts_268 : decode cL_acts 268 = .ok (.invokevirtual 68, 3) := by decide +kernel
theorem dL_acts_271 : decode cL_acts 271 = .ok (.istore 11, 2) := by decide +kernel
theorem dL_acts_273 : decode cL_acts 273 = .ok (.iload 11, 2) := by decide +kernel
theorem dL_acts_275 : decode cL_acts 275 = .ok (.ifCond .lt 38, 3) := by decide +kernel
theorem dL_acts_278 : decode cL_acts 278 = .ok (.aload_n 0, 1) := by decide +kernel
theorem dL_acts_279 : decode cL_acts 279 = .ok (.invokevirtual 21, 3) := by decide +kernel
theorem dL_acts_282 : decode cL_acts 282 = .ok (.iload 9, 2) := by decide +kernel
theorem dL_acts_284 : decode cL_acts 284 = .ok (.if_icmp .ne 29, 3) := by decide +kernel
theorem dL_acts_287 : decode cL_acts 287 = .ok (.aload_n 0, 1) := by decide +kernel
theorem dL_acts_288 : decode cL_acts 288 = .ok (.invokevirtual 65, 3) := by decide +kernel
theorem dL_acts_291 : decode cL_acts 291 = .ok (.iload 10, 2) := by decide +kernel
theorem dL_acts_293 : decode cL_acts 293 = .ok (.iload 11, 2) := by decide +kernel
theorem dL_acts_295 : decode cL_acts 295 = .ok (.isub, 1) := by decide +kernel
theorem dL_acts_296 : decode cL_acts 296 = .ok (.if_icmp .ne 17, 3) := by decide +kernel
theorem dL_acts_299 : decode cL_acts 299 = .ok (.iload 9, 2) := by decide +kernel
theorem dL_acts_301 : decode cL_acts 301 = .ok (.ifCond .ne 8, 3) := by decide +kernel
theorem dL_acts_304 : decode cL_acts 304 = .ok (.iload 11, 2) := by decide +kernel
theorem dL_acts_306 : decode cL_acts 306 = .ok (.ifCond .ne 7, 3) := by decide +kernel
theorem dL_acts_309 : decode cL_acts 309 = .ok (.iconst 1, 1) := by decide +kernel
theorem dL_acts_310 : decode cL_acts 310 = .ok (.goto 4, 3) := by decide +kernel
theorem dL_acts_313 : decode cL_acts 313 = .ok (.iconst 0, 1) := by decide +kernel
theorem dL_acts_314 : decode cL_acts 314 = .ok (.ireturn, 1) := by decide +kernel
theorem dL_acts_315 : decode cL_acts 315 = .ok (.aload_n 0, 1) := by decide +kernel
theorem dL_acts_316 : decode cL_acts 316 = .ok (.invokevirtual 11, 3) := by decide +kernel
theorem dL_acts_319 : decode cL_acts 319 = .ok (.istore 12, 2) := by decide +kernel
theorem dL_acts_321 : decode cL_acts 321 = .ok (.iconst 1, 1) := by decide +kernel
theorem dL_acts_322 : decode cL_acts 322 = .ok (.iload_n 2, 1) := by decide +kernel
theorem dL_acts_323 : decode cL_acts 323 = .ok (.iload_n 2, 1) := by decide +kernel
theorem dL_acts_324 : decode cL_acts 324 = .ok (.bipush 8, 2) := by decide +kernel
theorem dL_acts_326 : decode cL_acts 326 = .ok (.ishr, 1) := by decide +kernel
theorem dL_acts_327 : decode cL_acts 327 = .ok (.iconst 3, 1) := by decide +kernel
theorem dL_acts_328 : decode cL_acts 328 = .ok (.iand, 1) := by decide +kernel
theorem dL_acts_329 : decode cL_acts 329 = .ok (.ifCond .ne 8, 3) := by decide +kernel
theorem dL_acts_332 : decode cL_acts 332 = .ok (.bipush 99, 2) := by decide +kernel
theorem dL_acts_334 : decode cL_acts 334 = .ok (.goto 5, 3) := by decide +kernel
theorem dL_acts_337 : decode cL_acts 337 = .ok (.bipush 30, 2) := by decide +kernel
theorem dL_acts_339 : decode cL_acts 339 = .ok (.invokestatic 55, 3) := by decide +kernel
theorem dL_acts_342 : decode cL_acts 342 = .ok (.iadd, 1) := by decide +kernel
theorem dL_acts_343 : decode cL_acts 343 = .ok (.istore 13, 2) := by decide +kernel
theorem dL_acts_345 : decode cL_acts 345 = .ok (.aload_n 0, 1) := by decide +kernel
theorem dL_acts_346 : decode cL_acts 346 = .ok (.bipush 6, 2) := by decide +kernel
theorem dL_acts_348 : decode cL_acts 348 = .ok (.invokevirtual 27, 3) := by decide +kernel
theorem dL_acts_351 : decode cL_acts 351 = .ok (.istore 14, 2) := by decide +kernel
theorem dL_acts_353 : decode cL_acts 353 = .ok (.aload_n 0, 1) := by decide +kernel
theorem dL_acts_354 : decode cL_acts 354 = .ok (.invokevirtual 58, 3) := by decide +kernel
theorem dL_acts_357 : decode cL_acts 357 = .ok (.istore 15, 2) := by decide +kernel
theorem dL_acts_359 : decode cL_acts 359 = .ok (.iload 4, 2) := by decide +kernel
theorem dL_acts_361 : decode cL_acts 361 = .ok (.ifCond .ne 19, 3) := by decide +kernel
theorem dL_acts_364 : decode cL_acts 364 = .ok (.iload 12, 2) := by decide +kernel
theorem dL_acts_366 : decode cL_acts 366 = .ok (.ifCond .le 14, 3) := by decide +kernel
theorem dL_acts_369 : decode cL_acts 369 = .ok (.iload 13, 2) := by decide +kernel
theorem dL_acts_371 : decode cL_acts 371 = .ok (.iload 12, 2) := by decide +kernel
theorem dL_acts_373 : decode cL_acts 373 = .ok (.if_icmp .lt 7, 3) := by decide +kernel
theorem dL_acts_376 : decode cL_acts 376 = .ok (.iconst 1, 1) := by decide +kernel
theorem dL_acts_377 : decode cL_acts 377 = .ok (.goto 4, 3) := by decide +kernel
theorem dL_acts_380 : decode cL_acts 380 = .ok (.iconst 0, 1) := by decide +kernel
theorem dL_acts_381 : decode cL_acts 381 = .ok (.istore 16, 2) := by decide +kernel
theorem dL_acts_383 : decode cL_acts 383 = .ok (.aload_n 0, 1) := by decide +kernel
theorem dL_acts_384 : decode cL_acts 384 = .ok (.iload 13, 2) := by decide +kernel
theorem dL_acts_386 : decode cL_acts 386 = .ok (.invokevirtual 71, 3) := by decide +kernel
theorem dL_acts_389 : decode cL_acts 389 = .ok (.istore 17, 2) := by decide +kernel
theorem dL_acts_391 : decode cL_acts 391 = .ok (.aload_n 0, 1) := by decide +kernel
theorem dL_acts_392 : decode cL_acts 392 = .ok (.iconst 0, 1) := by decide +kernel
theorem dL_acts_393 : decode cL_acts 393 = .ok (.invokevirtual 27, 3) := by decide +kernel
theorem dL_acts_396 : decode cL_acts 396 = .ok (.aload_n 0, 1) := by decide +kernel
theorem dL_acts_397 : decode cL_acts 397 = .ok (.iconst 1, 1) := by decide +kernel
theorem dL_acts_398 : decode cL_acts 398 = .ok (.invokevirtual 27, 3) := by decide +kernel
theorem dL_acts_401 : decode cL_acts 401 = .ok (.iadd, 1) := by decide +kernel
theorem dL_acts_402 : decode cL_acts 402 = .ok (.iload 5, 2) := by decide +kernel
theorem dL_acts_404 : decode cL_acts 404 = .ok (.if_icmp .ne 99, 3) := by decide +kernel
theorem dL_acts_407 : decode cL_acts 407 = .ok (.iload 17, 2) := by decide +kernel
theorem dL_acts_409 : decode cL_acts 409 = .ok (.aload_n 0, 1) := by decide +kernel
theorem dL_acts_410 : decode cL_acts 410 = .ok (.invokevirtual 11, 3) := by decide +kernel
theorem dL_acts_413 : decode cL_acts 413 = .ok (.if_icmp .ne 90, 3) := by decide +kernel
theorem dL_acts_416 : decode cL_acts 416 = .ok (.iload 4, 2) := by decide +kernel
theorem dL_acts_418 : decode cL_acts 418 = .ok (.ifCond .eq 25, 3) := by decide +kernel
theorem dL_acts_421 : decode cL_acts 421 = .ok (.iload 17, 2) := by decide +kernel
theorem dL_acts_423 : decode cL_acts 423 = .ok (.iload 12, 2) := by decide +kernel
theorem dL_acts_425 : decode cL_acts 425 = .ok (.if_icmp .lt 78, 3) := by decide +kernel
theorem dL_acts_428 : decode cL_acts 428 = .ok (.iload 17, 2) := by decide +kernel
theorem dL_acts_430 : decode cL_acts 430 = .ok (.iload 12, 2) := by decide +kernel
theorem dL_acts_432 : decode cL_acts 432 = .ok (.iconst 2, 1) := by decide +kernel
theorem dL_acts_433 : decode cL_acts 433 = .ok (.iload 13, 2) := by decide +kernel
theorem dL_acts_435 : decode cL_acts 435 = .ok (.imul, 1) := by decide +kernel
theorem dL_acts_436 : decode cL_acts 436 = .ok (.iadd, 1) := by decide +kernel
theorem dL_acts_437 : decode cL_acts 437 = .ok (.if_icmp .gt 66, 3) := by decide +kernel
theorem dL_acts_440 : decode cL_acts 440 = .ok (.goto 24, 3) := by decide +kernel
theorem dL_acts_443 : decode cL_acts 443 = .ok (.iload 17, 2) := by decide +kernel
theorem dL_acts_445 : decode cL_acts 445 = .ok (.iload 12, 2) := by decide +kernel
theorem dL_acts_447 : decode cL_acts 447 = .ok (.iload 13, 2) := by decide +kernel
theorem dL_acts_449 : decode cL_acts 449 = .ok (.if_icmp .le 11, 3) := by decide +kernel
theorem dL_acts_452 : decode cL_acts 452 = .ok (.iload 12, 2) := by decide +kernel
theorem dL_acts_454 : decode cL_acts 454 = .ok (.iload 13, 2) := by decide +kernel
theorem dL_acts_456 : decode cL_acts 456 = .ok (.isub, 1) := by decide +kernel
theorem dL_acts_457 : decode cL_acts 457 = .ok (.goto 4, 3) := by decide +kernel
theorem dL_acts_460 : decode cL_acts 460 = .ok (.iconst 0, 1) := by decide +kernel
theorem dL_acts_461 : decode cL_acts 461 = .ok (.if_icmp .ne 42, 3) := by decide +kernel
theorem dL_acts_464 : decode cL_acts 464 = .ok (.aload_n 0, 1) := by decide +kernel
theorem dL_acts_465 : decode cL_acts 465 = .ok (.bipush 6, 2) := by decide +kernel
theorem dL_acts_467 : decode cL_acts 467 = .ok (.invokevirtual 27, 3) := by decide +kernel
theorem dL_acts_470 : decode cL_acts 470 = .ok (.iload 14, 2) := by decide +kernel
theorem dL_acts_472 : decode cL_acts 472 = .ok (.iload 16, 2) := by decide +kernel
theorem dL_acts_474 : decode cL_acts 474 = .ok (.ifCond .eq 8, 3) := by decide +kernel
theorem dL_acts_477 : decode cL_acts 477 = .ok (.iload 15, 2) := by decide +kernel
theorem dL_acts_479 : decode cL_acts 479 = .ok (.goto 4, 3) := by decide +kernel
theorem dL_acts_482 : decode cL_acts 482 = .ok (.iconst 0, 1) := by decide +kernel
theorem dL_acts_483 : decode cL_acts 483 = .ok (.iadd, 1) := by decide +kernel
theorem dL_acts_484 : decode cL_acts 484 = .ok (.if_icmp .ne 19, 3) := by decide +kernel
theorem dL_acts_487 : decode cL_acts 487 = .ok (.iload 16, 2) := by decide +kernel
theorem dL_acts_489 : decode cL_acts 489 = .ok (.ifCond .eq 10, 3) := by decide +kernel
theorem dL_acts_492 : decode cL_acts 492 = .ok (.aload_n 0, 1) := by decide +kernel
theorem dL_acts_493 : decode cL_acts 493 = .ok (.invokevirtual 65, 3) := by decide +kernel
theorem dL_acts_496 : decode cL_acts 496 = .ok (.ifCond .ne 7, 3) := by decide +kernel
theorem dL_acts_499 : decode cL_acts 499 = .ok (.iconst 1, 1) := by decide +kernel
theorem dL_acts_500 : decode cL_acts 500 = .ok (.goto 4, 3) := by decide +kernel
theorem dL_acts_503 : decode cL_acts 503 = .ok (.iconst 0, 1) := by decide +kernel
theorem dL_acts_504 : decode cL_acts 504 = .ok (.ireturn, 1) := by decide +kernel
theorem dL_acts_505 : decode cL_acts 505 = .ok (.iconst 1, 1) := by decide +kernel
theorem dL_acts_506 : decode cL_acts 506 = .ok (.iload_n 2, 1) := by decide +kernel
theorem dL_acts_507 : decode cL_acts 507 = .ok (.bipush 100, 2) := by decide +kernel
theorem dL_acts_509 : decode cL_acts 509 = .ok (.invokestatic 55, 3) := by decide +kernel
theorem dL_acts_512 : decode cL_acts 512 = .ok (.iadd, 1) := by decide +kernel
theorem dL_acts_513 : decode cL_acts 513 = .ok (.istore 18, 2) := by decide +kernel
theorem dL_acts_515 : decode cL_acts 515 = .ok (.aload_n 0, 1) := by decide +kernel
theorem dL_acts_516 : decode cL_acts 516 = .ok (.invokevirtual 11, 3) := by decide +kernel
theorem dL_acts_519 : decode cL_acts 519 = .ok (.istore 19, 2) := by decide +kernel
theorem dL_acts_521 : decode cL_acts 521 = .ok (.aload_n 0, 1) := by decide +kernel
theorem dL_acts_522 : decode cL_acts 522 = .ok (.iload 18, 2) := by decide +kernel
theorem dL_acts_524 : decode cL_acts 524 = .ok (.invokevirtual 74, 3) := by decide +kernel
theorem dL_acts_527 : decode cL_acts 527 = .ok (.iload 19, 2) := by decide +kernel
theorem dL_acts_529 : decode cL_acts 529 = .ok (.iload 18, 2) := by decide +kernel
theorem dL_acts_531 : decode cL_acts 531 = .ok (.if_icmp .ge 8, 3) := by decide +kernel
theorem dL_acts_534 : decode cL_acts 534 = .ok (.iload 19, 2) := by decide +kernel
theorem dL_acts_536 : decode cL_acts 536 = .ok (.goto 5, 3) := by decide +kernel
theorem dL_acts_539 : decode cL_acts 539 = .ok (.iload 18, 2) := by decide +kernel
theorem dL_acts_541 : decode cL_acts 541 = .ok (.if_icmp .ne 7, 3) := by decide +kernel
theorem dL_acts_544 : decode cL_acts 544 = .ok (.iconst 1, 1) := by decide +kernel
theorem dL_acts_545 : decode cL_acts 545 = .ok (.goto 4, 3) := by decide +kernel
theorem dL_acts_548 : decode cL_acts 548 = .ok (.iconst 0, 1) := by decide +kernel
theorem dL_acts_549 : decode cL_acts 549 = .ok (.ireturn, 1) := by decide +kernel
theorem dL_acts_550 : decode cL_acts 550 = .ok (.iload 4, 2) := by decide +kernel
theorem dL_acts_552 : decode cL_acts 552 = .ok (.ifCond .ne 25, 3) := by decide +kernel
theorem dL_acts_555 : decode cL_acts 555 = .ok (.aload_n 0, 1) := by decide +kernel
theorem dL_acts_556 : decode cL_acts 556 = .ok (.invokevirtual 77, 3) := by decide +kernel
theorem dL_acts_559 : decode cL_acts 559 = .ok (.iconst (-1), 1) := by decide +kernel
theorem dL_acts_560 : decode cL_acts 560 = .ok (.if_icmp .ne 15, 3) := by decide +kernel
theorem dL_acts_563 : decode cL_acts 563 = .ok (.aload_n 0, 1) := by decide +kernel
theorem dL_acts_564 : decode cL_acts 564 = .ok (.iconst 1, 1) := by decide +kernel
theorem dL_acts_565 : decode cL_acts 565 = .ok (.invokevirtual 71, 3) := by decide +kernel
theorem dL_acts_568 : decode cL_acts 568 = .ok (.ifCond .lt 7, 3) := by decide +kernel
theorem dL_acts_571 : decode cL_acts 571 = .ok (.iconst 1, 1) := by decide +kernel
theorem dL_acts_572 : decode cL_acts 572 = .ok (.goto 4, 3) := by decide +kernel
theorem dL_acts_575 : decode cL_acts 575 = .ok (.iconst 0, 1) := by decide +kernel
theorem dL_acts_576 : decode cL_acts 576 = .ok (.ireturn, 1) := by decide +kernel
theorem dL_acts_577 : decode cL_acts 577 = .ok (.aload_n 0, 1) := by decide +kernel
theorem dL_acts_578 : decode cL_acts 578 = .ok (.invokevirtual 77, 3) := by decide +kernel
theorem dL_acts_581 : decode cL_acts 581 = .ok (.istore 20, 2) := by decide +kernel
theorem dL_acts_583 : decode cL_acts 583 = .ok (.aload_n 0, 1) := by decide +kernel
theorem dL_acts_584 : decode cL_acts 584 = .ok (.invokevirtual 58, 3) := by decide +kernel
theorem dL_acts_587 : decode cL_acts 587 = .ok (.istore 21, 2) := by decide +kernel
theorem dL_acts_589 : decode cL_acts 589 = .ok (.aload_n 0, 1) := by decide +kernel
theorem dL_acts_590 : decode cL_acts 590 = .ok (.invokevirtual 80, 3) := by decide +kernel
theorem dL_acts_593 : decode cL_acts 593 = .ok (.iload 21, 2) := by decide +kernel
theorem dL_acts_595 : decode cL_acts 595 = .ok (.if_icmp .ne 33, 3) := by decide +kernel
theorem dL_acts_598 : decode cL_acts 598 = .ok (.aload_n 0, 1) := by decide +kernel
theorem dL_acts_599 : decode cL_acts 599 = .ok (.invokevirtual 58, 3) := by decide +kernel
theorem dL_acts_602 : decode cL_acts 602 = .ok (.ifCond .ne 26, 3) := by decide +kernel
theorem dL_acts_605 : decode cL_acts 605 = .ok (.aload_n 0, 1) := by decide +kernel
theorem dL_acts_606 : decode cL_acts 606 = .ok (.iconst 0, 1) := by decide +kernel
theorem dL_acts_607 : decode cL_acts 607 = .ok (.invokevirtual 27, 3) := by decide +kernel
theorem dL_acts_610 : decode cL_acts 610 = .ok (.aload_n 0, 1) := by decide +kernel
theorem dL_acts_611 : decode cL_acts 611 = .ok (.iconst 1, 1) := by decide +kernel
theorem dL_acts_612 : decode cL_acts 612 = .ok (.invokevirtual 27, 3) := by decide +kernel
theorem dL_acts_615 : decode cL_acts 615 = .ok (.iadd, 1) := by decide +kernel
theorem dL_acts_616 : decode cL_acts 616 = .ok (.iload 5, 2) := by decide +kernel
theorem dL_acts_618 : decode cL_acts 618 = .ok (.iload 20, 2) := by decide +kernel
theorem dL_acts_620 : decode cL_acts 620 = .ok (.iadd, 1) := by decide +kernel
theorem dL_acts_621 : decode cL_acts 621 = .ok (.if_icmp .ne 7, 3) := by decide +kernel
theorem dL_acts_624 : decode cL_acts 624 = .ok (.iconst 1, 1) := by decide +kernel
theorem dL_acts_625 : decode cL_acts 625 = .ok (.goto 4, 3) := by decide +kernel
theorem dL_acts_628 : decode cL_acts 628 = .ok (.iconst 0, 1) := by decide +kernel
theorem dL_acts_629 : decode cL_acts 629 = .ok (.ireturn, 1) := by decide +kernel
theorem dL_acts_630 : decode cL_acts 630 = .ok (.iload_n 3, 1) := by decide +kernel
theorem dL_acts_631 : decode cL_acts 631 = .ok (.iconst 4, 1) := by decide +kernel
theorem dL_acts_632 : decode cL_acts 632 = .ok (.idiv, 1) := by decide +kernel
theorem dL_acts_633 : decode cL_acts 633 = .ok (.istore 22, 2) := by decide +kernel
theorem dL_acts_635 : decode cL_acts 635 = .ok (.aload_n 0, 1) := by decide +kernel
theorem dL_acts_636 : decode cL_acts 636 = .ok (.iload 22, 2) := by decide +kernel
theorem dL_acts_638 : decode cL_acts 638 = .ok (.invokevirtual 83, 3) := by decide +kernel
theorem dL_acts_641 : decode cL_acts 641 = .ok (.istore 23, 2) := by decide +kernel
theorem dL_acts_643 : decode cL_acts 643 = .ok (.iload 4, 2) := by decide +kernel
theorem dL_acts_645 : decode cL_acts 645 = .ok (.ifCond .eq 31, 3) := by decide +kernel
theorem dL_acts_648 : decode cL_acts 648 = .ok (.aload_n 0, 1) := by decide +kernel
theorem dL_acts_649 : decode cL_acts 649 = .ok (.iload 22, 2) := by decide +kernel
theorem dL_acts_651 : decode cL_acts 651 = .ok (.invokevirtual 86, 3) := by decide +kernel
theorem dL_acts_654 : decode cL_acts 654 = .ok (.iload 23, 2) := by decide +kernel
theorem dL_acts_656 : decode cL_acts 656 = .ok (.if_icmp .ne 16, 3) := by decide +kernel
theorem dL_acts_659 : decode cL_acts 659 = .ok (.aload_n 0, 1) := by decide +kernel
theorem dL_acts_660 : decode cL_acts 660 = .ok (.iload 22, 2) := by decide +kernel
theorem dL_acts_662 : decode cL_acts 662 = .ok (.invokevirtual 83, 3) := by decide +kernel
theorem dL_acts_665 : decode cL_acts 665 = .ok (.ifCond .ne 7, 3) := by decide +kernel
theorem dL_acts_668 : decode cL_acts 668 = .ok (.iconst 1, 1) := by decide +kernel
theorem dL_acts_669 : decode cL_acts 669 = .ok (.goto 20, 3) := by decide +kernel
theorem dL_acts_672 : decode cL_acts 672 = .ok (.iconst 0, 1) := by decide +kernel
theorem dL_acts_673 : decode cL_acts 673 = .ok (.goto 16, 3) := by decide +kernel
theorem dL_acts_676 : decode cL_acts 676 = .ok (.aload_n 0, 1) := by decide +kernel
theorem dL_acts_677 : decode cL_acts 677 = .ok (.iconst 1, 1) := by decide +kernel
theorem dL_acts_678 : decode cL_acts 678 = .ok (.invokevirtual 61, 3) := by decide +kernel
theorem dL_acts_681 : decode cL_acts 681 = .ok (.ifCond .lt 7, 3) := by decide +kernel
theorem dL_acts_684 : decode cL_acts 684 = .ok (.iconst 1, 1) := by decide +kernel
theorem dL_acts_685 : decode cL_acts 685 = .ok (.goto 4, 3) := by decide +kernel
theorem dL_acts_688 : decode cL_acts 688 = .ok (.iconst 0, 1) := by decide +kernel
theorem dL_acts_689 : decode cL_acts 689 = .ok (.ireturn, 1) := by decide +kernel
theorem dL_acts_690 : decode cL_acts 690 = .ok (.aload_n 0, 1) := by decide +kernel
theorem dL_acts_691 : decode cL_acts 691 = .ok (.invokevirtual 21, 3) := by decide +kernel
theorem dL_acts_694 : decode cL_acts 694 = .ok (.ifCond .eq 11, 3) := by decide +kernel
theorem dL_acts_697 : decode cL_acts 697 = .ok (.aload_n 0, 1) := by decide +kernel
theorem dL_acts_698 : decode cL_acts 698 = .ok (.iload_n 3, 1) := by decide +kernel
theorem dL_acts_699 : decode cL_acts 699 = .ok (.invokestatic 45, 3) := by decide +kernel
theorem dL_acts_702 : decode cL_acts 702 = .ok (.goto 4, 3) := by decide +kernel
theorem dL_acts_705 : decode cL_acts 705 = .ok (.iconst (-1), 1) := by decide +kernel
theorem dL_acts_706 : decode cL_acts 706 = .ok (.istore 24, 2) := by decide +kernel
theorem dL_acts_708 : decode cL_acts 708 = .ok (.iload 24, 2) := by decide +kernel
theorem dL_acts_710 : decode cL_acts 710 = .ok (.ifCond .lt 19, 3) := by decide +kernel
theorem dL_acts_713 : decode cL_acts 713 = .ok (.aload_n 0, 1) := by decide +kernel
theorem dL_acts_714 : decode cL_acts 714 = .ok (.iload 24, 2) := by decide +kernel
theorem dL_acts_716 : decode cL_acts 716 = .ok (.iconst 3, 1) := by decide +kernel
theorem dL_acts_717 : decode cL_acts 717 = .ok (.idiv, 1) := by decide +kernel
theorem dL_acts_718 : decode cL_acts 718 = .ok (.iload 24, 2) := by decide +kernel
theorem dL_acts_720 : decode cL_acts 720 = .ok (.iconst 3, 1) := by decide +kernel
theorem dL_acts_721 : decode cL_acts 721 = .ok (.irem, 1) := by decide +kernel
theorem dL_acts_722 : decode cL_acts 722 = .ok (.iconst 1, 1) := by decide +kernel
theorem dL_acts_723 : decode cL_acts 723 = .ok (.invokevirtual 31, 3) := by decide +kernel
theorem dL_acts_726 : decode cL_acts 726 = .ok (.goto 8, 3) := by decide +kernel
theorem dL_acts_729 : decode cL_acts 729 = .ok (.aload_n 0, 1) := by decide +kernel
theorem dL_acts_730 : decode cL_acts 730 = .ok (.iload_n 3, 1) := by decide +kernel
theorem dL_acts_731 : decode cL_acts 731 = .ok (.invokevirtual 35, 3) := by decide +kernel
theorem dL_acts_734 : decode cL_acts 734 = .ok (.istore 25, 2) := by decide +kernel
theorem dL_acts_736 : decode cL_acts 736 = .ok (.aload_n 0, 1) := by decide +kernel
theorem dL_acts_737 : decode cL_acts 737 = .ok (.invokevirtual 17, 3) := by decide +kernel
theorem dL_acts_740 : decode cL_acts 740 = .ok (.ifCond .eq 48, 3) := by decide +kernel
theorem dL_acts_743 : decode cL_acts 743 = .ok (.aload_n 0, 1) := by decide +kernel
theorem dL_acts_744 : decode cL_acts 744 = .ok (.iload_n 3, 1) := by decide +kernel
theorem dL_acts_745 : decode cL_acts 745 = .ok (.invokevirtual 89, 3) := by decide +kernel
theorem dL_acts_748 : decode cL_acts 748 = .ok (.iload 25, 2) := by decide +kernel
theorem dL_acts_750 : decode cL_acts 750 = .ok (.if_icmp .ne 34, 3) := by decide +kernel
theorem dL_acts_753 : decode cL_acts 753 = .ok (.aload_n 0, 1) := by decide +kernel
theorem dL_acts_754 : decode cL_acts 754 = .ok (.iconst 0, 1) := by decide +kernel
theorem dL_acts_755 : decode cL_acts 755 = .ok (.invokevirtual 27, 3) := by decide +kernel
theorem dL_acts_758 : decode cL_acts 758 = .ok (.aload_n 0, 1) := by decide +kernel
theorem dL_acts_759 : decode cL_acts 759 = .ok (.iconst 1, 1) := by decide +kernel
theorem dL_acts_760 : decode cL_acts 760 = .ok (.invokevirtual 27, 3) := by decide +kernel
theorem dL_acts_763 : decode cL_acts 763 = .ok (.iadd, 1) := by decide +kernel
theorem dL_acts_764 : decode cL_acts 764 = .ok (.iload 5, 2) := by decide +kernel
theorem dL_acts_766 : decode cL_acts 766 = .ok (.iload 24, 2) := by decide +kernel
theorem dL_acts_768 : decode cL_acts 768 = .ok (.ifCond .lt 7, 3) := by decide +kernel
theorem dL_acts_771 : decode cL_acts 771 = .ok (.iconst 0, 1) := by decide +kernel
theorem dL_acts_772 : decode cL_acts 772 = .ok (.goto 4, 3) := by decide +kernel
theorem dL_acts_775 : decode cL_acts 775 = .ok (.iconst 1, 1) := by decide +kernel
theorem dL_acts_776 : decode cL_acts 776 = .ok (.iadd, 1) := by decide +kernel
theorem dL_acts_777 : decode cL_acts 777 = .ok (.if_icmp .ne 7, 3) := by decide +kernel
theorem dL_acts_780 : decode cL_acts 780 = .ok (.iconst 1, 1) := by decide +kernel
theorem dL_acts_781 : decode cL_acts 781 = .ok (.goto 20, 3) := by decide +kernel
theorem dL_acts_784 : decode cL_acts 784 = .ok (.iconst 0, 1) := by decide +kernel
theorem dL_acts_785 : decode cL_acts 785 = .ok (.goto 16, 3) := by decide +kernel
theorem dL_acts_788 : decode cL_acts 788 = .ok (.aload_n 0, 1) := by decide +kernel
theorem dL_acts_789 : decode cL_acts 789 = .ok (.iconst 1, 1) := by decide +kernel
theorem dL_acts_790 : decode cL_acts 790 = .ok (.invokevirtual 61, 3) := by decide +kernel
theorem dL_acts_793 : decode cL_acts 793 = .ok (.ifCond .lt 7, 3) := by decide +kernel
theorem dL_acts_796 : decode cL_acts 796 = .ok (.iconst 1, 1) := by decide +kernel
theorem dL_acts_797 : decode cL_acts 797 = .ok (.goto 4, 3) := by decide +kernel
theorem dL_acts_800 : decode cL_acts 800 = .ok (.iconst 0, 1) := by decide +kernel
theorem dL_acts_801 : decode cL_acts 801 = .ok (.ireturn, 1) := by decide +kernel
theorem dL_acts_802 : decode cL_acts 802 = .ok (.aload_n 0, 1) := by decide +kernel
theorem dL_acts_803 : decode cL_acts 803 = .ok (.invokevirtual 17, 3) := by decide +kernel
theorem dL_acts_806 : decode cL_acts 806 = .ok (.ifCond .eq 21, 3) := by decide +kernel
theorem dL_acts_809 : decode cL_acts 809 = .ok (.aload_n 0, 1) := by decide +kernel
theorem dL_acts_810 : decode cL_acts 810 = .ok (.iload_n 3, 1) := by decide +kernel
theorem dL_acts_811 : decode cL_acts 811 = .ok (.iload_n 2, 1) := by decide +kernel
theorem dL_acts_812 : decode cL_acts 812 = .ok (.bipush 9, 2) := by decide +kernel
theorem dL_acts_814 : decode cL_acts 814 = .ok (.ishr, 1) := by decide +kernel
theorem dL_acts_815 : decode cL_acts 815 = .ok (.sipush 1000, 3) := by decide +kernel
theorem dL_acts_818 : decode cL_acts 818 = .ok (.invokestatic 55, 3) := by decide +kernel
theorem dL_acts_821 : decode cL_acts 821 = .ok (.invokestatic 92, 3) := by decide +kernel
theorem dL_acts_824 : decode cL_acts 824 = .ok (.goto 16, 3) := by decide +kernel
theorem dL_acts_827 : decode cL_acts 827 = .ok (.aload_n 0, 1) := by decide +kernel
theorem dL_acts_828 : decode cL_acts 828 = .ok (.iconst 1, 1) := by decide +kernel
theorem dL_acts_829 : decode cL_acts 829 = .ok (.invokevirtual 61, 3) := by decide +kernel
theorem dL_acts_832 : decode cL_acts 832 = .ok (.ifCond .lt 7, 3) := by decide +kernel
theorem dL_acts_835 : decode cL_acts 835 = .ok (.iconst 1, 1) := by decide +kernel
theorem dL_acts_836 : decode cL_acts 836 = .ok (.goto 4, 3) := by decide +kernel
theorem dL_acts_839 : decode cL_acts 839 = .ok (.iconst 0, 1) := by decide +kernel
theorem dL_acts_840 : decode cL_acts 840 = .ok (.ireturn, 1) := by decide +kernel
set_option maxRecDepth 20000 in
theorem ggL_holds_X4_charge : GoodIn wsL_holds wsX4_charge := goodIn_r _ [6, 7, 8, 9, 137, 138, 139, 140, 141, 142, 143, 144, 145, 146, 147, 148, 149, 150, 151, 152, 153, 154, 155] (by decide +kernel) (by decide +kernel)
set_option maxRecDepth 20000 in
theorem gL_holds_X4_charge : GoodIn wsL_holds (wsV RL 11 RX4 yX4_charge wsX4_charge) := goodIn_app (goodIn_of _ (by decide +kernel)) ggL_holds_X4_charge
set_option maxRecDepth 20000 in
theorem ggL_holds_X4_count : GoodIn wsL_holds wsX4_count := goodIn_ca (goodIn_r _ [13, 14, 15, 7, 16, 137, 138, 139, 140, 141, 142, 143, 144, 145, 146] (by decide +kernel) (by decide +kernel)) (goodIn_sub (fun _ h => List.mem_cons_of_mem _ (List.mem_append_left _ (List.mem_append_right _ h))) (by decide +kernel))
set_option maxRecDepth 20000 in
theorem gL_holds_X4_count : GoodIn wsL_holds (wsV RL 27 RX4 yX4_count wsX4_count) := goodIn_app (goodIn_of _ (by decide +kernel)) ggL_holds_X4_count
set_option maxRecDepth 20000 in
theorem ggL_holds_X4_blocksPerStripe : GoodIn wsL_holds wsX4_blocksPerStripe := goodIn_r _ [20, 7, 16, 137, 138, 139, 140, 141, 142, 143, 144, 145, 146] (by decide +kernel) (by decide +kernel)
set_option maxRecDepth 20000 in
theorem gL_holds_X4_blocksPerStripe : GoodIn wsL_holds (wsV RL 96 RX4 yX4_blocksPerStripe wsX4_blocksPerStripe) := goodIn_app (goodIn_of _ (by decide +kernel)) ggL_holds_X4_blocksPerStripe
set_option maxRecDepth 20000 in
theorem ggL_holds_X4_line : GoodIn wsL_holds wsX4_line := goodIn_ca (goodIn_ca (goodIn_r _ [24, 25, 26, 14, 15, 7, 8, 27, 28, 29, 30, 31, 32, 33, 34, 35, 36, 37, 5, 38, 137, 138, 139, 140, 141, 142, 143, 144, 145, 146, 147, 148, 149, 150, 151, 152, 153, 154, 155] (by decide +kernel) (by decide +kernel)) (goodIn_sub (fun _ h => List.mem_cons_of_mem _ (List.mem_append_right _ h)) (by decide +kernel))) (goodIn_sub (fun _ h => List.mem_cons_of_mem _ (List.mem_append_left _ (List.mem_append_right _ h))) (by decide +kernel))
set_option maxRecDepth 20000 in
theorem gL_holds_X4_line : GoodIn wsL_holds (wsV RL 31 RX4 yX4_line wsX4_line) := goodIn_app (goodIn_of _ (by decide +kernel)) ggL_holds_X4_line
set_option maxRecDepth 20000 in
theorem ggL_holds_L_lineOf : GoodIn wsL_holds wsL_lineOf := goodIn_ca (goodIn_ca (goodIn_r _ [42, 21, 22, 23, 5, 24, 25, 26, 14, 15, 7, 8, 27, 28, 29, 30, 31, 32, 33, 34, 35, 36, 37, 38, 137, 138, 139, 140, 141, 142, 143, 144, 145, 146, 147, 148, 149, 150, 151, 152, 153, 154, 155] (by decide +kernel) (by decide +kernel)) (goodIn_sub (fun _ h => List.mem_cons_of_mem _ (List.mem_append_right _ h)) (by decide +kernel))) (goodIn_sub (fun _ h => List.mem_cons_of_mem _ (List.mem_append_left _ (List.mem_append_right _ h))) (by decide +kernel))
set_option maxRecDepth 20000 in
theorem gL_holds_L_lineOf : GoodIn wsL_holds (va_wsS RL 45 yL_lineOf wsL_lineOf) := goodIn_app (goodIn_of _ (by decide +kernel)) ggL_holds_L_lineOf
set_option maxRecDepth 20000 in
theorem ggL_holds_X4_isIn : GoodIn wsL_holds wsX4_isIn := goodIn_r _ [46, 7, 8, 47, 137, 138, 139, 140, 141, 142, 143, 144, 145, 146, 147, 148, 149, 150, 151, 152, 153, 154, 155] (by decide +kernel) (by decide +kernel)
set_option maxRecDepth 20000 in
theorem gL_holds_X4_isIn : GoodIn wsL_holds (wsV RL 21 RX4 yX4_isIn wsX4_isIn) := goodIn_app (goodIn_of _ (by decide +kernel)) ggL_holds_X4_isIn
set_option maxRecDepth 20000 in
theorem ggL_holds_X4_onDisk : GoodIn wsL_holds wsX4_onDisk := goodIn_ca (goodIn_r _ [51, 7, 52, 53, 5, 54, 25, 26, 55, 56, 57, 58, 59, 60, 61, 62, 63, 137, 138, 139, 140, 141, 142, 143, 144, 145, 146] (by decide +kernel) (by decide +kernel)) (goodIn_sub (fun _ h => List.mem_cons_of_mem _ (List.mem_append_right _ h)) (by decide +kernel))
set_option maxRecDepth 20000 in
theorem gL_holds_X4_onDisk : GoodIn wsL_holds (wsV RL 35 RX4 yX4_onDisk wsX4_onDisk) := goodIn_app (goodIn_of _ (by decide +kernel)) ggL_holds_X4_onDisk
set_option maxRecDepth 20000 in
theorem ggL_holds_X4_dirtyOf : GoodIn wsL_holds wsX4_dirtyOf := goodIn_ca (goodIn_r _ [67, 7, 8, 68, 69, 5, 70, 25, 26, 71, 72, 73, 30, 74, 75, 76, 77, 78, 36, 32, 79, 80, 137, 138, 139, 140, 141, 142, 143, 144, 145, 146, 147, 148, 149, 150, 151, 152, 153, 154, 155] (by decide +kernel) (by decide +kernel)) (goodIn_sub (fun _ h => List.mem_cons_of_mem _ (List.mem_append_right _ h)) (by decide +kernel))
set_option maxRecDepth 20000 in
theorem gL_holds_X4_dirtyOf : GoodIn wsL_holds (wsV RL 83 RX4 yX4_dirtyOf wsX4_dirtyOf) := goodIn_app (goodIn_of _ (by decide +kernel)) ggL_holds_X4_dirtyOf
set_option maxRecDepth 20000 in
theorem ggL_holds_X4_isFound : GoodIn wsL_holds wsX4_isFound := goodIn_ca (goodIn_r _ [84, 7, 52, 53, 5, 54, 25, 26, 55, 56, 57, 85, 86, 87, 61, 88, 89, 90, 91, 92, 93, 94, 95, 30, 96, 97, 98, 99, 100, 101, 32, 37, 38, 137, 138, 139, 140, 141, 142, 143, 144, 145, 146, 147, 148, 149, 150, 151, 152, 153, 154, 155] (by decide +kernel) (by decide +kernel)) (goodIn_sub (fun _ h => List.mem_cons_of_mem _ (List.mem_append_right _ h)) (by decide +kernel))
set_option maxRecDepth 20000 in
theorem gL_holds_X4_isFound : GoodIn wsL_holds (wsV RL 38 RX4 yX4_isFound wsX4_isFound) := goodIn_app (goodIn_of _ (by decide +kernel)) ggL_holds_X4_isFound
set_option maxRecDepth 20000 in
theorem ggL_holds_X4_used : GoodIn wsL_holds wsX4_used := goodIn_r _ [105, 7, 8, 106, 107, 108, 30, 109, 32, 137, 138, 139, 140, 141, 142, 143, 144, 145, 146, 147, 148, 149, 150, 151, 152, 153, 154, 155] (by decide +kernel) (by decide +kernel)
set_option maxRecDepth 20000 in
theorem gL_holds_X4_used : GoodIn wsL_holds (wsV RL 65 RX4 yX4_used wsX4_used) := goodIn_app (goodIn_of _ (by decide +kernel)) ggL_holds_X4_used
set_option maxRecDepth 20000 in
theorem ggL_holds_X4_dirty : GoodIn wsL_holds wsX4_dirty := goodIn_r _ [113, 7, 8, 114, 115, 116, 30, 117, 36, 137, 138, 139, 140, 141, 142, 143, 144, 145, 146, 147, 148, 149, 150, 151, 152, 153, 154, 155] (by decide +kernel) (by decide +kernel)
set_option maxRecDepth 20000 in
theorem gL_holds_X4_dirty : GoodIn wsL_holds (wsV RL 58 RX4 yX4_dirty wsX4_dirty) := goodIn_app (goodIn_of _ (by decide +kernel)) ggL_holds_X4_dirty
set_option maxRecDepth 20000 in
theorem ggL_holds_X4_missing : GoodIn wsL_holds wsX4_missing := goodIn_r _ [121, 7, 85, 86, 87, 61, 88, 89, 90, 91, 92, 56, 5, 57, 93, 94, 95, 30, 96, 97, 98, 99, 100, 101, 32, 37, 38, 137, 138, 139, 140, 141, 142, 143, 144, 145, 146, 147, 148, 149, 150, 151, 152, 153, 154, 155] (by decide +kernel) (by decide +kernel)
set_option maxRecDepth 20000 in
theorem gL_holds_X4_missing : GoodIn wsL_holds (wsV RL 24 RX4 yX4_missing wsX4_missing) := goodIn_app (goodIn_of _ (by decide +kernel)) ggL_holds_X4_missing
set_option maxRecDepth 20000 in
theorem ggL_holds_X4_ticksToLoss : GoodIn wsL_holds wsX4_ticksToLoss := goodIn_r _ [125, 7, 8, 9, 126, 127, 128, 61, 129, 130, 91, 131, 114, 115, 116, 30, 117, 36, 137, 138, 139, 140, 141, 142, 143, 144, 145, 146, 147, 148, 149, 150, 151, 152, 153, 154, 155] (by decide +kernel) (by decide +kernel)
set_option maxRecDepth 20000 in
theorem gL_holds_X4_ticksToLoss : GoodIn wsL_holds (wsV RL 101 RX4 yX4_ticksToLoss wsX4_ticksToLoss) := goodIn_app (goodIn_of _ (by decide +kernel)) ggL_holds_X4_ticksToLoss
set_option maxRecDepth 20000 in
theorem ggL_holds_X4_isOn : GoodIn wsL_holds wsX4_isOn := goodIn_r _ [135, 7, 136, 137, 138, 139, 140, 141, 142, 143, 144, 145, 146] (by decide +kernel) (by decide +kernel)
set_option maxRecDepth 20000 in
theorem gL_holds_X4_isOn : GoodIn wsL_holds (wsV RL 17 RX4 yX4_isOn wsX4_isOn) := goodIn_app (goodIn_of _ (by decide +kernel)) ggL_holds_X4_isOn
