theorem d_M_keep_0 : decode b_M_keep 0 = .ok (.aload_n 0, 1) := by decide +kernel
theorem d_M_keep_1 : decode b_M_keep 1 = .ok (.invokevirtual 100, 3) := by decide +kernel
theorem d_M_keep_4 : decode b_M_keep 4 = .ok (.istore_n 1, 1) := by decide +kernel
theorem d_M_keep_5 : decode b_M_keep 5 = .ok (.iload_n 1, 1) := by decide +kernel
theorem d_M_keep_6 : decode b_M_keep 6 = .ok (.ifCond .lt 379, 3) := by decide +kernel
theorem d_M_keep_9 : decode b_M_keep 9 = .ok (.aload_n 0, 1) := by decide +kernel
theorem d_M_keep_10 : decode b_M_keep 10 = .ok (.getfield 47, 3) := by decide +kernel
theorem d_M_keep_13 : decode b_M_keep 13 = .ok (.iload_n 1, 1) := by decide +kernel
theorem d_M_keep_14 : decode b_M_keep 14 = .ok (.iaload, 1) := by decide +kernel
theorem d_M_keep_15 : decode b_M_keep 15 = .ok (.istore_n 2, 1) := by decide +kernel
theorem d_M_keep_16 : decode b_M_keep 16 = .ok (.aload_n 0, 1) := by decide +kernel
theorem d_M_keep_17 : decode b_M_keep 17 = .ok (.iload_n 2, 1) := by decide +kernel
theorem d_M_keep_18 : decode b_M_keep 18 = .ok (.iload_n 1, 1) := by decide +kernel
theorem d_M_keep_19 : decode b_M_keep 19 = .ok (.invokevirtual 104, 3) := by decide +kernel
theorem d_M_keep_22 : decode b_M_keep 22 = .ok (.ifCond .ne 10, 3) := by decide +kernel
theorem d_M_keep_25 : decode b_M_keep 25 = .ok (.aload_n 0, 1) := by decide +kernel
theorem d_M_keep_26 : decode b_M_keep 26 = .ok (.iload_n 1, 1) := by decide +kernel
theorem d_M_keep_27 : decode b_M_keep 27 = .ok (.iload_n 2, 1) := by decide +kernel
theorem d_M_keep_28 : decode b_M_keep 28 = .ok (.invokevirtual 108, 3) := by decide +kernel
theorem d_M_keep_31 : decode b_M_keep 31 = .ok (.return_, 1) := by decide +kernel
theorem d_M_keep_32 : decode b_M_keep 32 = .ok (.iconst 0, 1) := by decide +kernel
theorem d_M_keep_33 : decode b_M_keep 33 = .ok (.istore_n 3, 1) := by decide +kernel
theorem d_M_keep_34 : decode b_M_keep 34 = .ok (.iload_n 1, 1) := by decide +kernel
theorem d_M_keep_35 : decode b_M_keep 35 = .ok (.istore 4, 2) := by decide +kernel
theorem d_M_keep_37 : decode b_M_keep 37 = .ok (.iload_n 1, 1) := by decide +kernel
theorem d_M_keep_38 : decode b_M_keep 38 = .ok (.istore 5, 2) := by decide +kernel
theorem d_M_keep_40 : decode b_M_keep 40 = .ok (.iload 5, 2) := by decide +kernel
theorem d_M_keep_42 : decode b_M_keep 42 = .ok (.ifCond .lt 93, 3) := by decide +kernel
theorem d_M_keep_45 : decode b_M_keep 45 = .ok (.aload_n 0, 1) := by decide +kernel
theorem d_M_keep_46 : decode b_M_keep 46 = .ok (.getfield 59, 3) := by decide +kernel
theorem d_M_keep_49 : decode b_M_keep 49 = .ok (.iload_n 3, 1) := by decide +kernel
theorem d_M_keep_50 : decode b_M_keep 50 = .ok (.iload 5, 2) := by decide +kernel
theorem d_M_keep_52 : decode b_M_keep 52 = .ok (.iastore, 1) := by decide +kernel
theorem d_M_keep_53 : decode b_M_keep 53 = .ok (.iload 5, 2) := by decide +kernel
theorem d_M_keep_55 : decode b_M_keep 55 = .ok (.iload 4, 2) := by decide +kernel
theorem d_M_keep_57 : decode b_M_keep 57 = .ok (.if_icmp .ge 8, 3) := by decide +kernel
theorem d_M_keep_60 : decode b_M_keep 60 = .ok (.iload 5, 2) := by decide +kernel
theorem d_M_keep_62 : decode b_M_keep 62 = .ok (.goto 5, 3) := by decide +kernel
theorem d_M_keep_65 : decode b_M_keep 65 = .ok (.iload 4, 2) := by decide +kernel
theorem d_M_keep_67 : decode b_M_keep 67 = .ok (.istore 4, 2) := by decide +kernel
theorem d_M_keep_69 : decode b_M_keep 69 = .ok (.iinc 3 1, 3) := by decide +kernel
theorem d_M_keep_72 : decode b_M_keep 72 = .ok (.aload_n 0, 1) := by decide +kernel
theorem d_M_keep_73 : decode b_M_keep 73 = .ok (.getfield 41, 3) := by decide +kernel
theorem d_M_keep_76 : decode b_M_keep 76 = .ok (.iload 5, 2) := by decide +kernel
theorem d_M_keep_78 : decode b_M_keep 78 = .ok (.iaload, 1) := by decide +kernel
theorem d_M_keep_79 : decode b_M_keep 79 = .ok (.ifCond .ge 7, 3) := by decide +kernel
theorem d_M_keep_82 : decode b_M_keep 82 = .ok (.iconst (-1), 1) := by decide +kernel
theorem d_M_keep_83 : decode b_M_keep 83 = .ok (.goto 47, 3) := by decide +kernel
theorem d_M_keep_86 : decode b_M_keep 86 = .ok (.aload_n 0, 1) := by decide +kernel
theorem d_M_keep_87 : decode b_M_keep 87 = .ok (.getfield 26, 3) := by decide +kernel
theorem d_M_keep_90 : decode b_M_keep 90 = .ok (.aload_n 0, 1) := by decide +kernel
theorem d_M_keep_91 : decode b_M_keep 91 = .ok (.getfield 41, 3) := by decide +kernel
theorem d_M_keep_94 : decode b_M_keep 94 = .ok (.iload 5, 2) := by decide +kernel
theorem d_M_keep_96 : decode b_M_keep 96 = .ok (.iaload, 1) := by decide +kernel
theorem d_M_keep_97 : decode b_M_keep 97 = .ok (.iaload, 1) := by decide +kernel
theorem d_M_keep_98 : decode b_M_keep 98 = .ok (.iload 5, 2) := by decide +kernel
theorem d_M_keep_100 : decode b_M_keep 100 = .ok (.if_icmp .ne 18, 3) := by decide +kernel
theorem d_M_keep_103 : decode b_M_keep 103 = .ok (.aload_n 0, 1) := by decide +kernel
theorem d_M_keep_104 : decode b_M_keep 104 = .ok (.getfield 29, 3) := by decide +kernel
theorem d_M_keep_107 : decode b_M_keep 107 = .ok (.aload_n 0, 1) := by decide +kernel
theorem d_M_keep_108 : decode b_M_keep 108 = .ok (.getfield 41, 3) := by decide +kernel
theorem d_M_keep_111 : decode b_M_keep 111 = .ok (.iload 5, 2) := by decide +kernel
theorem d_M_keep_113 : decode b_M_keep 113 = .ok (.iaload, 1) := by decide +kernel
theorem d_M_keep_114 : decode b_M_keep 114 = .ok (.iaload, 1) := by decide +kernel
theorem d_M_keep_115 : decode b_M_keep 115 = .ok (.goto 15, 3) := by decide +kernel
theorem d_M_keep_118 : decode b_M_keep 118 = .ok (.aload_n 0, 1) := by decide +kernel
theorem d_M_keep_119 : decode b_M_keep 119 = .ok (.getfield 26, 3) := by decide +kernel
theorem d_M_keep_122 : decode b_M_keep 122 = .ok (.aload_n 0, 1) := by decide +kernel
theorem d_M_keep_123 : decode b_M_keep 123 = .ok (.getfield 41, 3) := by decide +kernel
theorem d_M_keep_126 : decode b_M_keep 126 = .ok (.iload 5, 2) := by decide +kernel
theorem d_M_keep_128 : decode b_M_keep 128 = .ok (.iaload, 1) := by decide +kernel
theorem d_M_keep_129 : decode b_M_keep 129 = .ok (.iaload, 1) := by decide +kernel
theorem d_M_keep_130 : decode b_M_keep 130 = .ok (.istore 5, 2) := by decide +kernel
theorem d_M_keep_132 : decode b_M_keep 132 = .ok (.goto (-92), 3) := by decide +kernel
theorem d_M_keep_135 : decode b_M_keep 135 = .ok (.iconst 0, 1) := by decide +kernel
theorem d_M_keep_136 : decode b_M_keep 136 = .ok (.istore 5, 2) := by decide +kernel
theorem d_M_keep_138 : decode b_M_keep 138 = .ok (.aload_n 0, 1) := by decide +kernel
theorem d_M_keep_139 : decode b_M_keep 139 = .ok (.getfield 59, 3) := by decide +kernel
theorem d_M_keep_142 : decode b_M_keep 142 = .ok (.iload 5, 2) := by decide +kernel
theorem d_M_keep_144 : decode b_M_keep 144 = .ok (.iaload, 1) := by decide +kernel
theorem d_M_keep_145 : decode b_M_keep 145 = .ok (.iload 4, 2) := by decide +kernel
theorem d_M_keep_147 : decode b_M_keep 147 = .ok (.if_icmp .eq 9, 3) := by decide +kernel
theorem d_M_keep_150 : decode b_M_keep 150 = .ok (.iinc 5 1, 3) := by decide +kernel
theorem d_M_keep_153 : decode b_M_keep 153 = .ok (.goto (-15), 3) := by decide +kernel
theorem d_M_keep_156 : decode b_M_keep 156 = .ok (.iload 4, 2) := by decide +kernel
theorem d_M_keep_158 : decode b_M_keep 158 = .ok (.iload_n 1, 1) := by decide +kernel
theorem d_M_keep_159 : decode b_M_keep 159 = .ok (.if_icmp .ne 7, 3) := by decide +kernel
theorem d_M_keep_162 : decode b_M_keep 162 = .ok (.iconst 1, 1) := by decide +kernel
theorem d_M_keep_163 : decode b_M_keep 163 = .ok (.goto 4, 3) := by decide +kernel
theorem d_M_keep_166 : decode b_M_keep 166 = .ok (.iconst 0, 1) := by decide +kernel
theorem d_M_keep_167 : decode b_M_keep 167 = .ok (.istore 6, 2) := by decide +kernel
theorem d_M_keep_169 : decode b_M_keep 169 = .ok (.iload 6, 2) := by decide +kernel
theorem d_M_keep_171 : decode b_M_keep 171 = .ok (.ifCond .eq 7, 3) := by decide +kernel
theorem d_M_keep_174 : decode b_M_keep 174 = .ok (.iconst (-1), 1) := by decide +kernel
theorem d_M_keep_175 : decode b_M_keep 175 = .ok (.goto 10, 3) := by decide +kernel
theorem d_M_keep_178 : decode b_M_keep 178 = .ok (.aload_n 0, 1) := by decide +kernel
theorem d_M_keep_179 : decode b_M_keep 179 = .ok (.getfield 41, 3) := by decide +kernel
theorem d_M_keep_182 : decode b_M_keep 182 = .ok (.iload 4, 2) := by decide +kernel
theorem d_M_keep_184 : decode b_M_keep 184 = .ok (.iaload, 1) := by decide +kernel
theorem d_M_keep_185 : decode b_M_keep 185 = .ok (.istore 7, 2) := by decide +kernel
theorem d_M_keep_187 : decode b_M_keep 187 = .ok (.aload_n 0, 1) := by decide +kernel
theorem d_M_keep_188 : decode b_M_keep 188 = .ok (.invokevirtual 111, 3) := by decide +kernel
theorem d_M_keep_191 : decode b_M_keep 191 = .ok (.istore 8, 2) := by decide +kernel
theorem d_M_keep_193 : decode b_M_keep 193 = .ok (.aload_n 0, 1) := by decide +kernel
theorem d_M_keep_194 : decode b_M_keep 194 = .ok (.getfield 35, 3) := by decide +kernel
theorem d_M_keep_197 : decode b_M_keep 197 = .ok (.iload 8, 2) := by decide +kernel
theorem d_M_keep_199 : decode b_M_keep 199 = .ok (.iconst 1, 1) := by decide +kernel
theorem d_M_keep_200 : decode b_M_keep 200 = .ok (.bastore, 1) := by decide +kernel
theorem d_M_keep_201 : decode b_M_keep 201 = .ok (.aload_n 0, 1) := by decide +kernel
theorem d_M_keep_202 : decode b_M_keep 202 = .ok (.getfield 26, 3) := by decide +kernel
theorem d_M_keep_205 : decode b_M_keep 205 = .ok (.iload 8, 2) := by decide +kernel
theorem d_M_keep_207 : decode b_M_keep 207 = .ok (.iload_n 1, 1) := by decide +kernel
theorem d_M_keep_208 : decode b_M_keep 208 = .ok (.iastore, 1) := by decide +kernel
theorem d_M_keep_209 : decode b_M_keep 209 = .ok (.aload_n 0, 1) := by decide +kernel
theorem d_M_keep_210 : decode b_M_keep 210 = .ok (.getfield 29, 3) := by decide +kernel
theorem d_M_keep_213 : decode b_M_keep 213 = .ok (.iload 8, 2) := by decide +kernel
theorem d_M_keep_215 : decode b_M_keep 215 = .ok (.iload_n 2, 1) := by decide +kernel
theorem d_M_keep_216 : decode b_M_keep 216 = .ok (.iastore, 1) := by decide +kernel
theorem d_M_keep_217 : decode b_M_keep 217 = .ok (.iconst 0, 1) := by decide +kernel
theorem d_M_keep_218 : decode b_M_keep 218 = .ok (.istore 9, 2) := by decide +kernel
theorem d_M_keep_220 : decode b_M_keep 220 = .ok (.iload 9, 2) := by decide +kernel
theorem d_M_keep_222 : decode b_M_keep 222 = .ok (.bipush 24, 2) := by decide +kernel
theorem d_M_keep_224 : decode b_M_keep 224 = .ok (.if_icmp .ge 38, 3) := by decide +kernel
theorem d_M_keep_227 : decode b_M_keep 227 = .ok (.aload_n 0, 1) := by decide +kernel
theorem d_M_keep_228 : decode b_M_keep 228 = .ok (.getfield 32, 3) := by decide +kernel
theorem d_M_keep_231 : decode b_M_keep 231 = .ok (.bipush 24, 2) := by decide +kernel
theorem d_M_keep_233 : decode b_M_keep 233 = .ok (.iload 8, 2) := by decide +kernel
theorem d_M_keep_235 : decode b_M_keep 235 = .ok (.imul, 1) := by decide +kernel
theorem d_M_keep_236 : decode b_M_keep 236 = .ok (.iload 9, 2) := by decide +kernel
theorem d_M_keep_238 : decode b_M_keep 238 = .ok (.iadd, 1) := by decide +kernel
theorem d_M_keep_239 : decode b_M_keep 239 = .ok (.aload_n 0, 1) := by decide +kernel
theorem d_M_keep_240 : decode b_M_keep 240 = .ok (.getfield 47, 3) := by decide +kernel
theorem d_M_keep_243 : decode b_M_keep 243 = .ok (.iload 9, 2) := by decide +kernel
theorem d_M_keep_245 : decode b_M_keep 245 = .ok (.iaload, 1) := by decide +kernel
theorem d_M_keep_246 : decode b_M_keep 246 = .ok (.iastore, 1) := by decide +kernel
theorem d_M_keep_247 : decode b_M_keep 247 = .ok (.aload_n 0, 1) := by decide +kernel
theorem d_M_keep_248 : decode b_M_keep 248 = .ok (.getfield 47, 3) := by decide +kernel
theorem d_M_keep_251 : decode b_M_keep 251 = .ok (.iload 9, 2) := by decide +kernel
theorem d_M_keep_253 : decode b_M_keep 253 = .ok (.iload 9, 2) := by decide +kernel
theorem d_M_keep_255 : decode b_M_keep 255 = .ok (.iastore, 1) := by decide +kernel
theorem d_M_keep_256 : decode b_M_keep 256 = .ok (.iinc 9 1, 3) := by decide +kernel
theorem d_M_keep_259 : decode b_M_keep 259 = .ok (.goto (-39), 3) := by decide +kernel
theorem d_M_keep_262 : decode b_M_keep 262 = .ok (.iconst 0, 1) := by decide +kernel
theorem d_M_keep_263 : decode b_M_keep 263 = .ok (.istore 9, 2) := by decide +kernel
theorem d_M_keep_265 : decode b_M_keep 265 = .ok (.iload 9, 2) := by decide +kernel
theorem d_M_keep_267 : decode b_M_keep 267 = .ok (.iload_n 3, 1) := by decide +kernel
theorem d_M_keep_268 : decode b_M_keep 268 = .ok (.if_icmp .ge 91, 3) := by decide +kernel
theorem d_M_keep_271 : decode b_M_keep 271 = .ok (.aload_n 0, 1) := by decide +kernel
theorem d_M_keep_272 : decode b_M_keep 272 = .ok (.getfield 59, 3) := by decide +kernel
theorem d_M_keep_275 : decode b_M_keep 275 = .ok (.iload 5, 2) := by decide +kernel
theorem d_M_keep_277 : decode b_M_keep 277 = .ok (.iload_n 3, 1) := by decide +kernel
theorem d_M_keep_278 : decode b_M_keep 278 = .ok (.iadd, 1) := by decide +kernel
theorem d_M_keep_279 : decode b_M_keep 279 = .ok (.iload 9, 2) := by decide +kernel
theorem d_M_keep_281 : decode b_M_keep 281 = .ok (.isub, 1) := by decide +kernel
theorem d_M_keep_282 : decode b_M_keep 282 = .ok (.iload_n 3, 1) := by decide +kernel
theorem d_M_keep_283 : decode b_M_keep 283 = .ok (.irem, 1) := by decide +kernel
theorem d_M_keep_284 : decode b_M_keep 284 = .ok (.iaload, 1) := by decide +kernel
theorem d_M_keep_285 : decode b_M_keep 285 = .ok (.istore 10, 2) := by decide +kernel
theorem d_M_keep_287 : decode b_M_keep 287 = .ok (.aload_n 0, 1) := by decide +kernel
theorem d_M_keep_288 : decode b_M_keep 288 = .ok (.getfield 59, 3) := by decide +kernel
theorem d_M_keep_291 : decode b_M_keep 291 = .ok (.iload 5, 2) := by decide +kernel
theorem d_M_keep_293 : decode b_M_keep 293 = .ok (.iload_n 3, 1) := by decide +kernel
theorem d_M_keep_294 : decode b_M_keep 294 = .ok (.iadd, 1) := by decide +kernel
theorem d_M_keep_295 : decode b_M_keep 295 = .ok (.iload 9, 2) := by decide +kernel
theorem d_M_keep_297 : decode b_M_keep 297 = .ok (.isub, 1) := by decide +kernel
theorem d_M_keep_298 : decode b_M_keep 298 = .ok (.iconst 1, 1) := by decide +kernel
theorem d_M_keep_299 : decode b_M_keep 299 = .ok (.isub, 1) := by decide +kernel
theorem d_M_keep_300 : decode b_M_keep 300 = .ok (.iload_n 3, 1) := by decide +kernel
theorem d_M_keep_301 : decode b_M_keep 301 = .ok (.iadd, 1) := by decide +kernel
theorem d_M_keep_302 : decode b_M_keep 302 = .ok (.iload_n 3, 1) := by decide +kernel
theorem d_M_keep_303 : decode b_M_keep 303 = .ok (.irem, 1) := by decide +kernel
theorem d_M_keep_304 : decode b_M_keep 304 = .ok (.iaload, 1) := by decide +kernel
theorem d_M_keep_305 : decode b_M_keep 305 = .ok (.istore 11, 2) := by decide +kernel
theorem d_M_keep_307 : decode b_M_keep 307 = .ok (.iload 10, 2) := by decide +kernel
theorem d_M_keep_309 : decode b_M_keep 309 = .ok (.iload_n 1, 1) := by decide +kernel
theorem d_M_keep_310 : decode b_M_keep 310 = .ok (.if_icmp .ne 8, 3) := by decide +kernel
theorem d_M_keep_313 : decode b_M_keep 313 = .ok (.iload 8, 2) := by decide +kernel
theorem d_M_keep_315 : decode b_M_keep 315 = .ok (.goto 13, 3) := by decide +kernel
theorem d_M_keep_318 : decode b_M_keep 318 = .ok (.aload_n 0, 1) := by decide +kernel
theorem d_M_keep_319 : decode b_M_keep 319 = .ok (.iload 10, 2) := by decide +kernel
theorem d_M_keep_321 : decode b_M_keep 321 = .ok (.iload 11, 2) := by decide +kernel
theorem d_M_keep_323 : decode b_M_keep 323 = .ok (.iload 8, 2) := by decide +kernel
theorem d_M_keep_325 : decode b_M_keep 325 = .ok (.invokevirtual 114, 3) := by decide +kernel
theorem d_M_keep_328 : decode b_M_keep 328 = .ok (.istore 12, 2) := by decide +kernel
theorem d_M_keep_330 : decode b_M_keep 330 = .ok (.aload_n 0, 1) := by decide +kernel
theorem d_M_keep_331 : decode b_M_keep 331 = .ok (.iload 12, 2) := by decide +kernel
theorem d_M_keep_333 : decode b_M_keep 333 = .ok (.aload_n 0, 1) := by decide +kernel
theorem d_M_keep_334 : decode b_M_keep 334 = .ok (.getfield 26, 3) := by decide +kernel
theorem d_M_keep_337 : decode b_M_keep 337 = .ok (.iload 12, 2) := by decide +kernel
theorem d_M_keep_339 : decode b_M_keep 339 = .ok (.iaload, 1) := by decide +kernel
theorem d_M_keep_340 : decode b_M_keep 340 = .ok (.iload 10, 2) := by decide +kernel
theorem d_M_keep_342 : decode b_M_keep 342 = .ok (.if_icmp .ne 7, 3) := by decide +kernel
theorem d_M_keep_345 : decode b_M_keep 345 = .ok (.iconst 1, 1) := by decide +kernel
theorem d_M_keep_346 : decode b_M_keep 346 = .ok (.goto 4, 3) := by decide +kernel
theorem d_M_keep_349 : decode b_M_keep 349 = .ok (.iconst 0, 1) := by decide +kernel
theorem d_M_keep_350 : decode b_M_keep 350 = .ok (.invokevirtual 118, 3) := by decide +kernel
theorem d_M_keep_353 : decode b_M_keep 353 = .ok (.iinc 9 1, 3) := by decide +kernel
theorem d_M_keep_356 : decode b_M_keep 356 = .ok (.goto (-91), 3) := by decide +kernel
theorem d_M_keep_359 : decode b_M_keep 359 = .ok (.aload_n 0, 1) := by decide +kernel
theorem d_M_keep_360 : decode b_M_keep 360 = .ok (.getfield 35, 3) := by decide +kernel
theorem d_M_keep_363 : decode b_M_keep 363 = .ok (.iload 6, 2) := by decide +kernel
theorem d_M_keep_365 : decode b_M_keep 365 = .ok (.ifCond .eq 8, 3) := by decide +kernel
theorem d_M_keep_368 : decode b_M_keep 368 = .ok (.iload 8, 2) := by decide +kernel
theorem d_M_keep_370 : decode b_M_keep 370 = .ok (.goto 5, 3) := by decide +kernel
theorem d_M_keep_373 : decode b_M_keep 373 = .ok (.iload 7, 2) := by decide +kernel
theorem d_M_keep_375 : decode b_M_keep 375 = .ok (.iconst 0, 1) := by decide +kernel
theorem d_M_keep_376 : decode b_M_keep 376 = .ok (.bastore, 1) := by decide +kernel
theorem d_M_keep_377 : decode b_M_keep 377 = .ok (.aload_n 0, 1) := by decide +kernel
theorem d_M_keep_378 : decode b_M_keep 378 = .ok (.invokevirtual 100, 3) := by decide +kernel
theorem d_M_keep_381 : decode b_M_keep 381 = .ok (.istore_n 1, 1) := by decide +kernel
theorem d_M_keep_382 : decode b_M_keep 382 = .ok (.goto (-377), 3) := by decide +kernel
theorem d_M_keep_385 : decode b_M_keep 385 = .ok (.return_, 1) := by decide +kernel
theorem d_M_free_0 : decode b_M_free 0 = .ok (.iconst 0, 1) := by decide +kernel
theorem d_M_free_1 : decode b_M_free 1 = .ok (.istore_n 1, 1) := by decide +kernel
theorem d_M_free_2 : decode b_M_free 2 = .ok (.aload_n 0, 1) := by decide +kernel
theorem d_M_free_3 : decode b_M_free 3 = .ok (.getfield 35, 3) := by decide +kernel
theorem d_M_free_6 : decode b_M_free 6 = .ok (.iload_n 1, 1) := by decide +kernel
theorem d_M_free_7 : decode b_M_free 7 = .ok (.baload, 1) := by decide +kernel
theorem d_M_free_8 : decode b_M_free 8 = .ok (.ifCond .eq 9, 3) := by decide +kernel
theorem d_M_free_11 : decode b_M_free 11 = .ok (.iinc 1 1, 3) := by decide +kernel
theorem d_M_free_14 : decode b_M_free 14 = .ok (.goto (-12), 3) := by decide +kernel
theorem d_M_free_17 : decode b_M_free 17 = .ok (.iload_n 1, 1) := by decide +kernel
theorem d_M_free_18 : decode b_M_free 18 = .ok (.ireturn, 1) := by decide +kernel
theorem d_M_edgeBetween_0 : decode b_M_edgeBetween 0 = .ok (.iconst 0, 1) := by decide +kernel
theorem d_M_edgeBetween_1 : decode b_M_edgeBetween 1 = .ok (.istore 4, 2) := by decide +kernel
theorem d_M_edgeBetween_3 : decode b_M_edgeBetween 3 = .ok (.iload 4, 2) := by decide +kernel
theorem d_M_edgeBetween_5 : decode b_M_edgeBetween 5 = .ok (.bipush 24, 2) := by decide +kernel
theorem d_M_edgeBetween_7 : decode b_M_edgeBetween 7 = .ok (.if_icmp .ge 72, 3) := by decide +kernel
theorem d_M_edgeBetween_10 : decode b_M_edgeBetween 10 = .ok (.aload_n 0, 1) := by decide +kernel
theorem d_M_edgeBetween_11 : decode b_M_edgeBetween 11 = .ok (.getfield 35, 3) := by decide +kernel
theorem d_M_edgeBetween_14 : decode b_M_edgeBetween 14 = .ok (.iload 4, 2) := by decide +kernel
theorem d_M_edgeBetween_16 : decode b_M_edgeBetween 16 = .ok (.baload, 1) := by decide +kernel
theorem d_M_edgeBetween_17 : decode b_M_edgeBetween 17 = .ok (.ifCond .eq 56, 3) := by decide +kernel
theorem d_M_edgeBetween_20 : decode b_M_edgeBetween 20 = .ok (.iload 4, 2) := by decide +kernel
theorem d_M_edgeBetween_22 : decode b_M_edgeBetween 22 = .ok (.iload_n 3, 1) := by decide +kernel
theorem d_M_edgeBetween_23 : decode b_M_edgeBetween 23 = .ok (.if_icmp .eq 50, 3) := by decide +kernel
theorem d_M_edgeBetween_26 : decode b_M_edgeBetween 26 = .ok (.aload_n 0, 1) := by decide +kernel
theorem d_M_edgeBetween_27 : decode b_M_edgeBetween 27 = .ok (.getfield 26, 3) := by decide +kernel
theorem d_M_edgeBetween_30 : decode b_M_edgeBetween 30 = .ok (.iload 4, 2) := by decide +kernel
theorem d_M_edgeBetween_32 : decode b_M_edgeBetween 32 = .ok (.iaload, 1) := by decide +kernel
theorem d_M_edgeBetween_33 : decode b_M_edgeBetween 33 = .ok (.iload_n 1, 1) := by decide +kernel
theorem d_M_edgeBetween_34 : decode b_M_edgeBetween 34 = .ok (.if_icmp .ne 14, 3) := by decide +kernel
theorem d_M_edgeBetween_37 : decode b_M_edgeBetween 37 = .ok (.aload_n 0, 1) := by decide +kernel
theorem d_M_edgeBetween_38 : decode b_M_edgeBetween 38 = .ok (.getfield 29, 3) := by decide +kernel
theorem d_M_edgeBetween_41 : decode b_M_edgeBetween 41 = .ok (.iload 4, 2) := by decide +kernel
theorem d_M_edgeBetween_43 : decode b_M_edgeBetween 43 = .ok (.iaload, 1) := by decide +kernel
theorem d_M_edgeBetween_44 : decode b_M_edgeBetween 44 = .ok (.iload_n 2, 1) := by decide +kernel
theorem d_M_edgeBetween_45 : decode b_M_edgeBetween 45 = .ok (.if_icmp .eq 25, 3) := by decide +kernel
theorem d_M_edgeBetween_48 : decode b_M_edgeBetween 48 = .ok (.aload_n 0, 1) := by decide +kernel
theorem d_M_edgeBetween_49 : decode b_M_edgeBetween 49 = .ok (.getfield 26, 3) := by decide +kernel
theorem d_M_edgeBetween_52 : decode b_M_edgeBetween 52 = .ok (.iload 4, 2) := by decide +kernel
theorem d_M_edgeBetween_54 : decode b_M_edgeBetween 54 = .ok (.iaload, 1) := by decide +kernel
theorem d_M_edgeBetween_55 : decode b_M_edgeBetween 55 = .ok (.iload_n 2, 1) := by decide +kernel
theorem d_M_edgeBetween_56 : decode b_M_edgeBetween 56 = .ok (.if_icmp .ne 17, 3) := by decide +kernel
theorem d_M_edgeBetween_59 : decode b_M_edgeBetween 59 = .ok (.aload_n 0, 1) := by decide +kernel
theorem d_M_edgeBetween_60 : decode b_M_edgeBetween 60 = .ok (.getfield 29, 3) := by decide +kernel
theorem d_M_edgeBetween_63 : decode b_M_edgeBetween 63 = .ok (.iload 4, 2) := by decide +kernel
theorem d_M_edgeBetween_65 : decode b_M_edgeBetween 65 = .ok (.iaload, 1) := by decide +kernel
theorem d_M_edgeBetween_66 : decode b_M_edgeBetween 66 = .ok (.iload_n 1, 1) := by decide +kernel
theorem d_M_edgeBetween_67 : decode b_M_edgeBetween 67 = .ok (.if_icmp .ne 6, 3) := by decide +kernel
theorem d_M_edgeBetween_70 : decode b_M_edgeBetween 70 = .ok (.iload 4, 2) := by decide +kernel
theorem d_M_edgeBetween_72 : decode b_M_edgeBetween 72 = .ok (.ireturn, 1) := by decide +kernel
theorem d_M_edgeBetween_73 : decode b_M_edgeBetween 73 = .ok (.iinc 4 1, 3) := by decide +kernel
theorem d_M_edgeBetween_76 : decode b_M_edgeBetween 76 = .ok (.goto (-73), 3) := by decide +kernel
theorem d_M_edgeBetween_79 : decode b_M_edgeBetween 79 = .ok (.iload_n 3, 1) := by decide +kernel
theorem d_M_edgeBetween_80 : decode b_M_edgeBetween 80 = .ok (.ireturn, 1) := by decide +kernel
theorem d_M_nextPart_0 : decode b_M_nextPart 0 = .ok (.iconst 0, 1) := by decide +kernel
theorem d_M_nextPart_1 : decode b_M_nextPart 1 = .ok (.istore_n 2, 1) := by decide +kernel
theorem d_M_nextPart_2 : decode b_M_nextPart 2 = .ok (.iload_n 2, 1) := by decide +kernel
theorem d_M_nextPart_3 : decode b_M_nextPart 3 = .ok (.bipush 24, 2) := by decide +kernel
theorem d_M_nextPart_5 : decode b_M_nextPart 5 = .ok (.if_icmp .ge 16, 3) := by decide +kernel
theorem d_M_nextPart_8 : decode b_M_nextPart 8 = .ok (.aload_n 0, 1) := by decide +kernel
theorem d_M_nextPart_9 : decode b_M_nextPart 9 = .ok (.getfield 35, 3) := by decide +kernel
theorem d_M_nextPart_12 : decode b_M_nextPart 12 = .ok (.iload_n 2, 1) := by decide +kernel
theorem d_M_nextPart_13 : decode b_M_nextPart 13 = .ok (.iconst 0, 1) := by decide +kernel
theorem d_M_nextPart_14 : decode b_M_nextPart 14 = .ok (.bastore, 1) := by decide +kernel
theorem d_M_nextPart_15 : decode b_M_nextPart 15 = .ok (.iinc 2 1, 3) := by decide +kernel
theorem d_M_nextPart_18 : decode b_M_nextPart 18 = .ok (.goto (-16), 3) := by decide +kernel
theorem d_M_nextPart_21 : decode b_M_nextPart 21 = .ok (.iconst 0, 1) := by decide +kernel
theorem d_M_nextPart_22 : decode b_M_nextPart 22 = .ok (.istore_n 2, 1) := by decide +kernel
theorem d_M_nextPart_23 : decode b_M_nextPart 23 = .ok (.iload_n 2, 1) := by decide +kernel
theorem d_M_nextPart_24 : decode b_M_nextPart 24 = .ok (.aload_n 0, 1) := by decide +kernel
theorem d_M_nextPart_25 : decode b_M_nextPart 25 = .ok (.getfield 65, 3) := by decide +kernel
theorem d_M_nextPart_28 : decode b_M_nextPart 28 = .ok (.if_icmp .ge 112, 3) := by decide +kernel
theorem d_M_nextPart_31 : decode b_M_nextPart 31 = .ok (.aload_n 0, 1) := by decide +kernel
theorem d_M_nextPart_32 : decode b_M_nextPart 32 = .ok (.getfield 19, 3) := by decide +kernel
theorem d_M_nextPart_35 : decode b_M_nextPart 35 = .ok (.bipush 24, 2) := by decide +kernel
theorem d_M_nextPart_37 : decode b_M_nextPart 37 = .ok (.iload_n 1, 1) := by decide +kernel
theorem d_M_nextPart_38 : decode b_M_nextPart 38 = .ok (.imul, 1) := by decide +kernel
theorem d_M_nextPart_39 : decode b_M_nextPart 39 = .ok (.iload_n 2, 1) := by decide +kernel
theorem d_M_nextPart_40 : decode b_M_nextPart 40 = .ok (.iadd, 1) := by decide +kernel
theorem d_M_nextPart_41 : decode b_M_nextPart 41 = .ok (.baload, 1) := by decide +kernel
theorem d_M_nextPart_42 : decode b_M_nextPart 42 = .ok (.ifCond .ne 6, 3) := by decide +kernel
theorem d_M_nextPart_45 : decode b_M_nextPart 45 = .ok (.goto 89, 3) := by decide +kernel
theorem d_M_nextPart_48 : decode b_M_nextPart 48 = .ok (.iconst 0, 1) := by decide +kernel
theorem d_M_nextPart_49 : decode b_M_nextPart 49 = .ok (.istore_n 3, 1) := by decide +kernel
theorem d_M_nextPart_50 : decode b_M_nextPart 50 = .ok (.iload_n 3, 1) := by decide +kernel
theorem d_M_nextPart_51 : decode b_M_nextPart 51 = .ok (.aload_n 0, 1) := by decide +kernel
theorem d_M_nextPart_52 : decode b_M_nextPart 52 = .ok (.getfield 97, 3) := by decide +kernel
theorem d_M_nextPart_55 : decode b_M_nextPart 55 = .ok (.if_icmp .ge 79, 3) := by decide +kernel
theorem d_M_nextPart_58 : decode b_M_nextPart 58 = .ok (.iconst 0, 1) := by decide +kernel
theorem d_M_nextPart_59 : decode b_M_nextPart 59 = .ok (.istore 4, 2) := by decide +kernel
theorem d_M_nextPart_61 : decode b_M_nextPart 61 = .ok (.iload 4, 2) := by decide +kernel
theorem d_M_nextPart_63 : decode b_M_nextPart 63 = .ok (.bipush 24, 2) := by decide +kernel
theorem d_M_nextPart_65 : decode b_M_nextPart 65 = .ok (.if_icmp .ge 43, 3) := by decide +kernel
theorem d_M_nextPart_68 : decode b_M_nextPart 68 = .ok (.aload_n 0, 1) := by decide +kernel
theorem d_M_nextPart_69 : decode b_M_nextPart 69 = .ok (.getfield 47, 3) := by decide +kernel
theorem d_M_nextPart_72 : decode b_M_nextPart 72 = .ok (.iload 4, 2) := by decide +kernel
theorem d_M_nextPart_74 : decode b_M_nextPart 74 = .ok (.aload_n 0, 1) := by decide +kernel
theorem d_M_nextPart_75 : decode b_M_nextPart 75 = .ok (.getfield 23, 3) := by decide +kernel
theorem d_M_nextPart_78 : decode b_M_nextPart 78 = .ok (.bipush 24, 2) := by decide +kernel
theorem d_M_nextPart_80 : decode b_M_nextPart 80 = .ok (.iload_n 3, 1) := by decide +kernel
theorem d_M_nextPart_81 : decode b_M_nextPart 81 = .ok (.imul, 1) := by decide +kernel
theorem d_M_nextPart_82 : decode b_M_nextPart 82 = .ok (.aload_n 0, 1) := by decide +kernel
theorem d_M_nextPart_83 : decode b_M_nextPart 83 = .ok (.getfield 16, 3) := by decide +kernel
theorem d_M_nextPart_86 : decode b_M_nextPart 86 = .ok (.bipush 24, 2) := by decide +kernel
theorem d_M_nextPart_88 : decode b_M_nextPart 88 = .ok (.bipush 24, 2) := by decide +kernel
theorem d_M_nextPart_90 : decode b_M_nextPart 90 = .ok (.iload_n 1, 1) := by decide +kernel
theorem d_M_nextPart_91 : decode b_M_nextPart 91 = .ok (.imul, 1) := by decide +kernel
theorem d_M_nextPart_92 : decode b_M_nextPart 92 = .ok (.iload_n 2, 1) := by decide +kernel
theorem d_M_nextPart_93 : decode b_M_nextPart 93 = .ok (.iadd, 1) := by decide +kernel
theorem d_M_nextPart_94 : decode b_M_nextPart 94 = .ok (.imul, 1) := by decide +kernel
theorem d_M_nextPart_95 : decode b_M_nextPart 95 = .ok (.iload 4, 2) := by decide +kernel
theorem d_M_nextPart_97 : decode b_M_nextPart 97 = .ok (.iadd, 1) := by decide +kernel
theorem d_M_nextPart_98 : decode b_M_nextPart 98 = .ok (.iaload, 1) := by decide +kernel
theorem d_M_nextPart_99 : decode b_M_nextPart 99 = .ok (.iadd, 1) := by decide +kernel
theorem d_M_nextPart_100 : decode b_M_nextPart 100 = .ok (.iaload, 1) := by decide +kernel
theorem d_M_nextPart_101 : decode b_M_nextPart 101 = .ok (.iastore, 1) := by decide +kernel
theorem d_M_nextPart_102 : decode b_M_nextPart 102 = .ok (.iinc 4 1, 3) := by decide +kernel
theorem d_M_nextPart_105 : decode b_M_nextPart 105 = .ok (.goto (-44), 3) := by decide +kernel
theorem d_M_nextPart_108 : decode b_M_nextPart 108 = .ok (.aload_n 0, 1) := by decide +kernel
theorem d_M_nextPart_109 : decode b_M_nextPart 109 = .ok (.iload_n 1, 1) := by decide +kernel
theorem d_M_nextPart_110 : decode b_M_nextPart 110 = .ok (.aload_n 0, 1) := by decide +kernel
theorem d_M_nextPart_111 : decode b_M_nextPart 111 = .ok (.getfield 23, 3) := by decide +kernel
theorem d_M_nextPart_114 : decode b_M_nextPart 114 = .ok (.bipush 24, 2) := by decide +kernel
theorem d_M_nextPart_116 : decode b_M_nextPart 116 = .ok (.iload_n 3, 1) := by decide +kernel
theorem d_M_nextPart_117 : decode b_M_nextPart 117 = .ok (.imul, 1) := by decide +kernel
theorem d_M_nextPart_118 : decode b_M_nextPart 118 = .ok (.iload_n 2, 1) := by decide +kernel
theorem d_M_nextPart_119 : decode b_M_nextPart 119 = .ok (.iadd, 1) := by decide +kernel
theorem d_M_nextPart_120 : decode b_M_nextPart 120 = .ok (.iaload, 1) := by decide +kernel
theorem d_M_nextPart_121 : decode b_M_nextPart 121 = .ok (.invokevirtual 122, 3) := by decide +kernel
theorem d_M_nextPart_124 : decode b_M_nextPart 124 = .ok (.aload_n 0, 1) := by decide +kernel
theorem d_M_nextPart_125 : decode b_M_nextPart 125 = .ok (.invokevirtual 125, 3) := by decide +kernel
theorem d_M_nextPart_128 : decode b_M_nextPart 128 = .ok (.iinc 3 1, 3) := by decide +kernel
theorem d_M_nextPart_131 : decode b_M_nextPart 131 = .ok (.goto (-81), 3) := by decide +kernel
theorem d_M_nextPart_134 : decode b_M_nextPart 134 = .ok (.iinc 2 1, 3) := by decide +kernel
theorem d_M_nextPart_137 : decode b_M_nextPart 137 = .ok (.goto (-114), 3) := by decide +kernel
theorem d_M_nextPart_140 : decode b_M_nextPart 140 = .ok (.aload_n 0, 1) := by decide +kernel
theorem d_M_nextPart_141 : decode b_M_nextPart 141 = .ok (.iconst 0, 1) := by decide +kernel
theorem d_M_nextPart_142 : decode b_M_nextPart 142 = .ok (.putfield 97, 3) := by decide +kernel
theorem d_M_nextPart_145 : decode b_M_nextPart 145 = .ok (.iconst 0, 1) := by decide +kernel
theorem d_M_nextPart_146 : decode b_M_nextPart 146 = .ok (.istore_n 2, 1) := by decide +kernel
theorem d_M_nextPart_147 : decode b_M_nextPart 147 = .ok (.iload_n 2, 1) := by decide +kernel
theorem d_M_nextPart_148 : decode b_M_nextPart 148 = .ok (.bipush 24, 2) := by decide +kernel
theorem d_M_nextPart_150 : decode b_M_nextPart 150 = .ok (.if_icmp .ge 70, 3) := by decide +kernel
theorem d_M_nextPart_153 : decode b_M_nextPart 153 = .ok (.aload_n 0, 1) := by decide +kernel
theorem d_M_nextPart_154 : decode b_M_nextPart 154 = .ok (.getfield 35, 3) := by decide +kernel
theorem d_M_nextPart_157 : decode b_M_nextPart 157 = .ok (.iload_n 2, 1) := by decide +kernel
theorem d_M_nextPart_158 : decode b_M_nextPart 158 = .ok (.baload, 1) := by decide +kernel
theorem d_M_nextPart_159 : decode b_M_nextPart 159 = .ok (.ifCond .ne 6, 3) := by decide +kernel
theorem d_M_nextPart_162 : decode b_M_nextPart 162 = .ok (.goto 52, 3) := by decide +kernel
theorem d_M_nextPart_165 : decode b_M_nextPart 165 = .ok (.iconst 0, 1) := by decide +kernel
theorem d_M_nextPart_166 : decode b_M_nextPart 166 = .ok (.istore_n 3, 1) := by decide +kernel
theorem d_M_nextPart_167 : decode b_M_nextPart 167 = .ok (.iload_n 3, 1) := by decide +kernel
theorem d_M_nextPart_168 : decode b_M_nextPart 168 = .ok (.bipush 24, 2) := by decide +kernel
theorem d_M_nextPart_170 : decode b_M_nextPart 170 = .ok (.if_icmp .ge 34, 3) := by decide +kernel
theorem d_M_nextPart_173 : decode b_M_nextPart 173 = .ok (.aload_n 0, 1) := by decide +kernel
theorem d_M_nextPart_174 : decode b_M_nextPart 174 = .ok (.getfield 62, 3) := by decide +kernel
theorem d_M_nextPart_177 : decode b_M_nextPart 177 = .ok (.bipush 24, 2) := by decide +kernel
theorem d_M_nextPart_179 : decode b_M_nextPart 179 = .ok (.aload_n 0, 1) := by decide +kernel
theorem d_M_nextPart_180 : decode b_M_nextPart 180 = .ok (.getfield 97, 3) := by decide +kernel
theorem d_M_nextPart_183 : decode b_M_nextPart 183 = .ok (.imul, 1) := by decide +kernel
theorem d_M_nextPart_184 : decode b_M_nextPart 184 = .ok (.iload_n 3, 1) := by decide +kernel
theorem d_M_nextPart_185 : decode b_M_nextPart 185 = .ok (.iadd, 1) := by decide +kernel
theorem d_M_nextPart_186 : decode b_M_nextPart 186 = .ok (.aload_n 0, 1) := by decide +kernel
theorem d_M_nextPart_187 : decode b_M_nextPart 187 = .ok (.getfield 32, 3) := by decide +kernel
theorem d_M_nextPart_190 : decode b_M_nextPart 190 = .ok (.bipush 24, 2) := by decide +kernel
theorem d_M_nextPart_192 : decode b_M_nextPart 192 = .ok (.iload_n 2, 1) := by decide +kernel
theorem d_M_nextPart_193 : decode b_M_nextPart 193 = .ok (.imul, 1) := by decide +kernel
theorem d_M_nextPart_194 : decode b_M_nextPart 194 = .ok (.iload_n 3, 1) := by decide +kernel
theorem d_M_nextPart_195 : decode b_M_nextPart 195 = .ok (.iadd, 1) := by decide +kernel
theorem d_M_nextPart_196 : decode b_M_nextPart 196 = .ok (.iaload, 1) := by decide +kernel
theorem d_M_nextPart_197 : decode b_M_nextPart 197 = .ok (.iastore, 1) := by decide +kernel
theorem d_M_nextPart_198 : decode b_M_nextPart 198 = .ok (.iinc 3 1, 3) := by decide +kernel
theorem d_M_nextPart_201 : decode b_M_nextPart 201 = .ok (.goto (-34), 3) := by decide +kernel
theorem d_M_nextPart_204 : decode b_M_nextPart 204 = .ok (.aload_n 0, 1) := by decide +kernel
theorem d_M_nextPart_205 : decode b_M_nextPart 205 = .ok (.dup, 1) := by decide +kernel
theorem d_M_nextPart_206 : decode b_M_nextPart 206 = .ok (.getfield 97, 3) := by decide +kernel
theorem d_M_nextPart_209 : decode b_M_nextPart 209 = .ok (.iconst 1, 1) := by decide +kernel
theorem d_M_nextPart_210 : decode b_M_nextPart 210 = .ok (.iadd, 1) := by decide +kernel
theorem d_M_nextPart_211 : decode b_M_nextPart 211 = .ok (.putfield 97, 3) := by decide +kernel
theorem d_M_nextPart_214 : decode b_M_nextPart 214 = .ok (.iinc 2 1, 3) := by decide +kernel
theorem d_M_nextPart_217 : decode b_M_nextPart 217 = .ok (.goto (-70), 3) := by decide +kernel
theorem d_M_nextPart_220 : decode b_M_nextPart 220 = .ok (.iconst 0, 1) := by decide +kernel
theorem d_M_nextPart_221 : decode b_M_nextPart 221 = .ok (.istore_n 2, 1) := by decide +kernel
theorem d_M_nextPart_222 : decode b_M_nextPart 222 = .ok (.iload_n 2, 1) := by decide +kernel
theorem d_M_nextPart_223 : decode b_M_nextPart 223 = .ok (.bipush 24, 2) := by decide +kernel
theorem d_M_nextPart_225 : decode b_M_nextPart 225 = .ok (.aload_n 0, 1) := by decide +kernel
theorem d_M_nextPart_226 : decode b_M_nextPart 226 = .ok (.getfield 97, 3) := by decide +kernel
theorem d_M_nextPart_229 : decode b_M_nextPart 229 = .ok (.imul, 1) := by decide +kernel
theorem d_M_nextPart_230 : decode b_M_nextPart 230 = .ok (.if_icmp .ge 21, 3) := by decide +kernel
theorem d_M_nextPart_233 : decode b_M_nextPart 233 = .ok (.aload_n 0, 1) := by decide +kernel
theorem d_M_nextPart_234 : decode b_M_nextPart 234 = .ok (.getfield 23, 3) := by decide +kernel
theorem d_M_nextPart_237 : decode b_M_nextPart 237 = .ok (.iload_n 2, 1) := by decide +kernel
theorem d_M_nextPart_238 : decode b_M_nextPart 238 = .ok (.aload_n 0, 1) := by decide +kernel
theorem d_M_nextPart_239 : decode b_M_nextPart 239 = .ok (.getfield 62, 3) := by decide +kernel
theorem d_M_nextPart_242 : decode b_M_nextPart 242 = .ok (.iload_n 2, 1) := by decide +kernel
theorem d_M_nextPart_243 : decode b_M_nextPart 243 = .ok (.iaload, 1) := by decide +kernel
theorem d_M_nextPart_244 : decode b_M_nextPart 244 = .ok (.iastore, 1) := by decide +kernel
theorem d_M_nextPart_245 : decode b_M_nextPart 245 = .ok (.iinc 2 1, 3) := by decide +kernel
theorem d_M_nextPart_248 : decode b_M_nextPart 248 = .ok (.goto (-26), 3) := by decide +kernel
theorem d_M_nextPart_251 : decode b_M_nextPart 251 = .ok (.return_, 1) := by decide +kernel
theorem d_M_know_0 : decode b_M_know 0 = .ok (.aload_n 0, 1) := by decide +kernel
theorem d_M_know_1 : decode b_M_know 1 = .ok (.getfield 82, 3) := by decide +kernel
theorem d_M_know_4 : decode b_M_know 4 = .ok (.ifCond .eq 4, 3) := by decide +kernel
theorem d_M_know_7 : decode b_M_know 7 = .ok (.return_, 1) := by decide +kernel
theorem d_M_know_8 : decode b_M_know 8 = .ok (.aload_n 0, 1) := by decide +kernel
theorem d_M_know_9 : decode b_M_know 9 = .ok (.iconst 1, 1) := by decide +kernel
theorem d_M_know_10 : decode b_M_know 10 = .ok (.putfield 82, 3) := by decide +kernel
theorem d_M_know_13 : decode b_M_know 13 = .ok (.aload_n 0, 1) := by decide +kernel
theorem d_M_know_14 : decode b_M_know 14 = .ok (.aload_n 0, 1) := by decide +kernel
theorem d_M_know_15 : decode b_M_know 15 = .ok (.getfield 75, 3) := by decide +kernel
theorem d_M_know_18 : decode b_M_know 18 = .ok (.putfield 97, 3) := by decide +kernel
theorem d_M_know_21 : decode b_M_know 21 = .ok (.iconst 0, 1) := by decide +kernel
theorem d_M_know_22 : decode b_M_know 22 = .ok (.istore_n 1, 1) := by decide +kernel
theorem d_M_know_23 : decode b_M_know 23 = .ok (.iload_n 1, 1) := by decide +kernel
theorem d_M_know_24 : decode b_M_know 24 = .ok (.bipush 24, 2) := by decide +kernel
theorem d_M_know_26 : decode b_M_know 26 = .ok (.aload_n 0, 1) := by decide +kernel
theorem d_M_know_27 : decode b_M_know 27 = .ok (.getfield 75, 3) := by decide +kernel
theorem d_M_know_30 : decode b_M_know 30 = .ok (.imul, 1) := by decide +kernel
theorem d_M_know_31 : decode b_M_know 31 = .ok (.if_icmp .ge 21, 3) := by decide +kernel
theorem d_M_know_34 : decode b_M_know 34 = .ok (.aload_n 0, 1) := by decide +kernel
theorem d_M_know_35 : decode b_M_know 35 = .ok (.getfield 23, 3) := by decide +kernel
theorem d_M_know_38 : decode b_M_know 38 = .ok (.iload_n 1, 1) := by decide +kernel
theorem d_M_know_39 : decode b_M_know 39 = .ok (.aload_n 0, 1) := by decide +kernel
theorem d_M_know_40 : decode b_M_know 40 = .ok (.getfield 7, 3) := by decide +kernel
theorem d_M_know_43 : decode b_M_know 43 = .ok (.iload_n 1, 1) := by decide +kernel
theorem d_M_know_44 : decode b_M_know 44 = .ok (.iaload, 1) := by decide +kernel
theorem d_M_know_45 : decode b_M_know 45 = .ok (.iastore, 1) := by decide +kernel
theorem d_M_know_46 : decode b_M_know 46 = .ok (.iinc 1 1, 3) := by decide +kernel
theorem d_M_know_49 : decode b_M_know 49 = .ok (.goto (-26), 3) := by decide +kernel
theorem d_M_know_52 : decode b_M_know 52 = .ok (.iconst 0, 1) := by decide +kernel
theorem d_M_know_53 : decode b_M_know 53 = .ok (.istore_n 1, 1) := by decide +kernel
theorem d_M_know_54 : decode b_M_know 54 = .ok (.iload_n 1, 1) := by decide +kernel
theorem d_M_know_55 : decode b_M_know 55 = .ok (.aload_n 0, 1) := by decide +kernel
theorem d_M_know_56 : decode b_M_know 56 = .ok (.getfield 65, 3) := by decide +kernel
theorem d_M_know_59 : decode b_M_know 59 = .ok (.if_icmp .ge 19, 3) := by decide +kernel
theorem d_M_know_62 : decode b_M_know 62 = .ok (.aload_n 0, 1) := by decide +kernel
theorem d_M_know_63 : decode b_M_know 63 = .ok (.iload_n 1, 1) := by decide +kernel
theorem d_M_know_64 : decode b_M_know 64 = .ok (.invokevirtual 128, 3) := by decide +kernel
theorem d_M_know_67 : decode b_M_know 67 = .ok (.aload_n 0, 1) := by decide +kernel
theorem d_M_know_68 : decode b_M_know 68 = .ok (.iload_n 1, 1) := by decide +kernel
theorem d_M_know_69 : decode b_M_know 69 = .ok (.invokevirtual 132, 3) := by decide +kernel
theorem d_M_know_72 : decode b_M_know 72 = .ok (.iinc 1 1, 3) := by decide +kernel
theorem d_M_know_75 : decode b_M_know 75 = .ok (.goto (-21), 3) := by decide +kernel
theorem d_M_know_78 : decode b_M_know 78 = .ok (.return_, 1) := by decide +kernel
theorem d_M_spreadSize_0 : decode b_M_spreadSize 0 = .ok (.iconst 0, 1) := by decide +kernel
theorem d_M_spreadSize_1 : decode b_M_spreadSize 1 = .ok (.istore_n 2, 1) := by decide +kernel
theorem d_M_spreadSize_2 : decode b_M_spreadSize 2 = .ok (.iconst 0, 1) := by decide +kernel
theorem d_M_spreadSize_3 : decode b_M_spreadSize 3 = .ok (.istore_n 3, 1) := by decide +kernel
theorem d_M_spreadSize_4 : decode b_M_spreadSize 4 = .ok (.iload_n 3, 1) := by decide +kernel
theorem d_M_spreadSize_5 : decode b_M_spreadSize 5 = .ok (.aload_n 0, 1) := by decide +kernel
theorem d_M_spreadSize_6 : decode b_M_spreadSize 6 = .ok (.getfield 65, 3) := by decide +kernel
theorem d_M_spreadSize_9 : decode b_M_spreadSize 9 = .ok (.if_icmp .ge 31, 3) := by decide +kernel
theorem d_M_spreadSize_12 : decode b_M_spreadSize 12 = .ok (.iload_n 2, 1) := by decide +kernel
theorem d_M_spreadSize_13 : decode b_M_spreadSize 13 = .ok (.aload_n 0, 1) := by decide +kernel
theorem d_M_spreadSize_14 : decode b_M_spreadSize 14 = .ok (.getfield 19, 3) := by decide +kernel
theorem d_M_spreadSize_17 : decode b_M_spreadSize 17 = .ok (.bipush 24, 2) := by decide +kernel
theorem d_M_spreadSize_19 : decode b_M_spreadSize 19 = .ok (.iload_n 1, 1) := by decide +kernel
theorem d_M_spreadSize_20 : decode b_M_spreadSize 20 = .ok (.imul, 1) := by decide +kernel
theorem d_M_spreadSize_21 : decode b_M_spreadSize 21 = .ok (.iload_n 3, 1) := by decide +kernel
theorem d_M_spreadSize_22 : decode b_M_spreadSize 22 = .ok (.iadd, 1) := by decide +kernel
theorem d_M_spreadSize_23 : decode b_M_spreadSize 23 = .ok (.baload, 1) := by decide +kernel
theorem d_M_spreadSize_24 : decode b_M_spreadSize 24 = .ok (.ifCond .eq 7, 3) := by decide +kernel
theorem d_M_spreadSize_27 : decode b_M_spreadSize 27 = .ok (.iconst 1, 1) := by decide +kernel
theorem d_M_spreadSize_28 : decode b_M_spreadSize 28 = .ok (.goto 4, 3) := by decide +kernel
theorem d_M_spreadSize_31 : decode b_M_spreadSize 31 = .ok (.iconst 0, 1) := by decide +kernel
theorem d_M_spreadSize_32 : decode b_M_spreadSize 32 = .ok (.iadd, 1) := by decide +kernel
theorem d_M_spreadSize_33 : decode b_M_spreadSize 33 = .ok (.istore_n 2, 1) := by decide +kernel
theorem d_M_spreadSize_34 : decode b_M_spreadSize 34 = .ok (.iinc 3 1, 3) := by decide +kernel
theorem d_M_spreadSize_37 : decode b_M_spreadSize 37 = .ok (.goto (-33), 3) := by decide +kernel
theorem d_M_spreadSize_40 : decode b_M_spreadSize 40 = .ok (.iload_n 2, 1) := by decide +kernel
theorem d_M_spreadSize_41 : decode b_M_spreadSize 41 = .ok (.ireturn, 1) := by decide +kernel
theorem d_M_spread_0 : decode b_M_spread 0 = .ok (.aload_n 0, 1) := by decide +kernel
theorem d_M_spread_1 : decode b_M_spread 1 = .ok (.iconst 0, 1) := by decide +kernel
theorem d_M_spread_2 : decode b_M_spread 2 = .ok (.putfield 69, 3) := by decide +kernel
theorem d_M_spread_5 : decode b_M_spread 5 = .ok (.aload_n 0, 1) := by decide +kernel
theorem d_M_spread_6 : decode b_M_spread 6 = .ok (.iload_n 1, 1) := by decide +kernel
theorem d_M_spread_7 : decode b_M_spread 7 = .ok (.invokevirtual 78, 3) := by decide +kernel
theorem d_M_spread_10 : decode b_M_spread 10 = .ok (.ifCond .ne 5, 3) := by decide +kernel
theorem d_M_spread_13 : decode b_M_spread 13 = .ok (.iconst (-1), 1) := by decide +kernel
theorem d_M_spread_14 : decode b_M_spread 14 = .ok (.ireturn, 1) := by decide +kernel
theorem d_M_spread_15 : decode b_M_spread 15 = .ok (.aload_n 0, 1) := by decide +kernel
theorem d_M_spread_16 : decode b_M_spread 16 = .ok (.invokevirtual 135, 3) := by decide +kernel
theorem d_M_spread_19 : decode b_M_spread 19 = .ok (.aload_n 0, 1) := by decide +kernel
theorem d_M_spread_20 : decode b_M_spread 20 = .ok (.iload_n 1, 1) := by decide +kernel
theorem d_M_spread_21 : decode b_M_spread 21 = .ok (.invokevirtual 138, 3) := by decide +kernel
theorem d_M_spread_24 : decode b_M_spread 24 = .ok (.ireturn, 1) := by decide +kernel
theorem d_M_run_0 : decode b_M_run 0 = .ok (.aload_n 0, 1) := by decide +kernel
theorem d_M_run_1 : decode b_M_run 1 = .ok (.iconst 0, 1) := by decide +kernel
theorem d_M_run_2 : decode b_M_run 2 = .ok (.putfield 69, 3) := by decide +kernel
theorem d_M_run_5 : decode b_M_run 5 = .ok (.aload_n 0, 1) := by decide +kernel
theorem d_M_run_6 : decode b_M_run 6 = .ok (.invokevirtual 135, 3) := by decide +kernel
theorem d_M_run_9 : decode b_M_run 9 = .ok (.iconst 0, 1) := by decide +kernel
theorem d_M_run_10 : decode b_M_run 10 = .ok (.istore_n 1, 1) := by decide +kernel
theorem d_M_run_11 : decode b_M_run 11 = .ok (.iconst 0, 1) := by decide +kernel
theorem d_M_run_12 : decode b_M_run 12 = .ok (.istore_n 2, 1) := by decide +kernel
theorem d_M_run_13 : decode b_M_run 13 = .ok (.iload_n 2, 1) := by decide +kernel
theorem d_M_run_14 : decode b_M_run 14 = .ok (.aload_n 0, 1) := by decide +kernel
theorem d_M_run_15 : decode b_M_run 15 = .ok (.getfield 65, 3) := by decide +kernel
theorem d_M_run_18 : decode b_M_run 18 = .ok (.if_icmp .ge 26, 3) := by decide +kernel
theorem d_M_run_21 : decode b_M_run 21 = .ok (.iload_n 1, 1) := by decide +kernel
theorem d_M_run_22 : decode b_M_run 22 = .ok (.aload_n 0, 1) := by decide +kernel
theorem d_M_run_23 : decode b_M_run 23 = .ok (.iload_n 2, 1) := by decide +kernel
theorem d_M_run_24 : decode b_M_run 24 = .ok (.invokevirtual 138, 3) := by decide +kernel
theorem d_M_run_27 : decode b_M_run 27 = .ok (.iconst 1, 1) := by decide +kernel
theorem d_M_run_28 : decode b_M_run 28 = .ok (.if_icmp .le 7, 3) := by decide +kernel
theorem d_M_run_31 : decode b_M_run 31 = .ok (.iconst 1, 1) := by decide +kernel
theorem d_M_run_32 : decode b_M_run 32 = .ok (.goto 4, 3) := by decide +kernel
theorem d_M_run_35 : decode b_M_run 35 = .ok (.iconst 0, 1) := by decide +kernel
theorem d_M_run_36 : decode b_M_run 36 = .ok (.iadd, 1) := by decide +kernel
theorem d_M_run_37 : decode b_M_run 37 = .ok (.istore_n 1, 1) := by decide +kernel
theorem d_M_run_38 : decode b_M_run 38 = .ok (.iinc 2 1, 3) := by decide +kernel
theorem d_M_run_41 : decode b_M_run 41 = .ok (.goto (-28), 3) := by decide +kernel
theorem d_M_run_44 : decode b_M_run 44 = .ok (.iload_n 1, 1) := by decide +kernel
theorem d_M_run_45 : decode b_M_run 45 = .ok (.ireturn, 1) := by decide +kernel
theorem d_M_base_0 : decode b_M_base 0 = .ok (.aload_n 0, 1) := by decide +kernel
theorem d_M_base_1 : decode b_M_base 1 = .ok (.iconst 0, 1) := by decide +kernel
theorem d_M_base_2 : decode b_M_base 2 = .ok (.putfield 69, 3) := by decide +kernel
theorem d_M_base_5 : decode b_M_base 5 = .ok (.aload_n 0, 1) := by decide +kernel
theorem d_M_base_6 : decode b_M_base 6 = .ok (.invokevirtual 135, 3) := by decide +kernel
theorem d_M_base_9 : decode b_M_base 9 = .ok (.iconst 0, 1) := by decide +kernel
theorem d_M_base_10 : decode b_M_base 10 = .ok (.istore_n 2, 1) := by decide +kernel
theorem d_M_base_11 : decode b_M_base 11 = .ok (.iconst 0, 1) := by decide +kernel
theorem d_M_base_12 : decode b_M_base 12 = .ok (.istore_n 3, 1) := by decide +kernel
theorem d_M_base_13 : decode b_M_base 13 = .ok (.iload_n 3, 1) := by decide +kernel
theorem d_M_base_14 : decode b_M_base 14 = .ok (.aload_n 0, 1) := by decide +kernel
theorem d_M_base_15 : decode b_M_base 15 = .ok (.getfield 65, 3) := by decide +kernel
theorem d_M_base_18 : decode b_M_base 18 = .ok (.if_icmp .ge 31, 3) := by decide +kernel
theorem d_M_base_21 : decode b_M_base 21 = .ok (.aload_n 0, 1) := by decide +kernel
theorem d_M_base_22 : decode b_M_base 22 = .ok (.iload_n 3, 1) := by decide +kernel
theorem d_M_base_23 : decode b_M_base 23 = .ok (.invokevirtual 138, 3) := by decide +kernel
theorem d_M_base_26 : decode b_M_base 26 = .ok (.iconst 2, 1) := by decide +kernel
theorem d_M_base_27 : decode b_M_base 27 = .ok (.if_icmp .ge 6, 3) := by decide +kernel
theorem d_M_base_30 : decode b_M_base 30 = .ok (.goto 13, 3) := by decide +kernel
theorem d_M_base_33 : decode b_M_base 33 = .ok (.iload_n 2, 1) := by decide +kernel
theorem d_M_base_34 : decode b_M_base 34 = .ok (.iload_n 1, 1) := by decide +kernel
theorem d_M_base_35 : decode b_M_base 35 = .ok (.if_icmp .ne 5, 3) := by decide +kernel
theorem d_M_base_38 : decode b_M_base 38 = .ok (.iload_n 3, 1) := by decide +kernel
theorem d_M_base_39 : decode b_M_base 39 = .ok (.ireturn, 1) := by decide +kernel
theorem d_M_base_40 : decode b_M_base 40 = .ok (.iinc 2 1, 3) := by decide +kernel
theorem d_M_base_43 : decode b_M_base 43 = .ok (.iinc 3 1, 3) := by decide +kernel
theorem d_M_base_46 : decode b_M_base 46 = .ok (.goto (-33), 3) := by decide +kernel
theorem d_M_base_49 : decode b_M_base 49 = .ok (.iconst (-1), 1) := by decide +kernel
theorem d_M_base_50 : decode b_M_base 50 = .ok (.ireturn, 1) := by decide +kernel
theorem d_M_digitOf_0 : decode b_M_digitOf 0 = .ok (.iconst 0, 1) := by decide +kernel
theorem d_M_digitOf_1 : decode b_M_digitOf 1 = .ok (.istore_n 3, 1) := by decide +kernel
theorem d_M_digitOf_2 : decode b_M_digitOf 2 = .ok (.iload_n 3, 1) := by decide +kernel
theorem d_M_digitOf_3 : decode b_M_digitOf 3 = .ok (.bipush 40, 2) := by decide +kernel
theorem d_M_digitOf_5 : decode b_M_digitOf 5 = .ok (.if_icmp .ge 16, 3) := by decide +kernel
theorem d_M_digitOf_8 : decode b_M_digitOf 8 = .ok (.aload_n 0, 1) := by decide +kernel
theorem d_M_digitOf_9 : decode b_M_digitOf 9 = .ok (.getfield 56, 3) := by decide +kernel
theorem d_M_digitOf_12 : decode b_M_digitOf 12 = .ok (.iload_n 3, 1) := by decide +kernel
theorem d_M_digitOf_13 : decode b_M_digitOf 13 = .ok (.iconst 0, 1) := by decide +kernel
theorem d_M_digitOf_14 : decode b_M_digitOf 14 = .ok (.iastore, 1) := by decide +kernel
theorem d_M_digitOf_15 : decode b_M_digitOf 15 = .ok (.iinc 3 1, 3) := by decide +kernel
theorem d_M_digitOf_18 : decode b_M_digitOf 18 = .ok (.goto (-16), 3) := by decide +kernel
theorem d_M_digitOf_21 : decode b_M_digitOf 21 = .ok (.aload_n 0, 1) := by decide +kernel
theorem d_M_digitOf_22 : decode b_M_digitOf 22 = .ok (.getfield 56, 3) := by decide +kernel
theorem d_M_digitOf_25 : decode b_M_digitOf 25 = .ok (.iconst 0, 1) := by decide +kernel
theorem d_M_digitOf_26 : decode b_M_digitOf 26 = .ok (.iconst 1, 1) := by decide +kernel
theorem d_M_digitOf_27 : decode b_M_digitOf 27 = .ok (.iastore, 1) := by decide +kernel
theorem d_M_digitOf_28 : decode b_M_digitOf 28 = .ok (.iconst 0, 1) := by decide +kernel
theorem d_M_digitOf_29 : decode b_M_digitOf 29 = .ok (.istore_n 3, 1) := by decide +kernel
theorem d_M_digitOf_30 : decode b_M_digitOf 30 = .ok (.iload_n 3, 1) := by decide +kernel
theorem d_M_digitOf_31 : decode b_M_digitOf 31 = .ok (.aload_n 0, 1) := by decide +kernel
theorem d_M_digitOf_32 : decode b_M_digitOf 32 = .ok (.getfield 65, 3) := by decide +kernel
theorem d_M_digitOf_35 : decode b_M_digitOf 35 = .ok (.if_icmp .ge 65, 3) := by decide +kernel
theorem d_M_digitOf_38 : decode b_M_digitOf 38 = .ok (.iconst 0, 1) := by decide +kernel
theorem d_M_digitOf_39 : decode b_M_digitOf 39 = .ok (.istore 4, 2) := by decide +kernel
theorem d_M_digitOf_41 : decode b_M_digitOf 41 = .ok (.iconst 0, 1) := by decide +kernel
theorem d_M_digitOf_42 : decode b_M_digitOf 42 = .ok (.istore 5, 2) := by decide +kernel
theorem d_M_digitOf_44 : decode b_M_digitOf 44 = .ok (.iload 5, 2) := by decide +kernel
theorem d_M_digitOf_46 : decode b_M_digitOf 46 = .ok (.bipush 40, 2) := by decide +kernel
theorem d_M_digitOf_48 : decode b_M_digitOf 48 = .ok (.if_icmp .ge 46, 3) := by decide +kernel
theorem d_M_digitOf_51 : decode b_M_digitOf 51 = .ok (.aload_n 0, 1) := by decide +kernel
theorem d_M_digitOf_52 : decode b_M_digitOf 52 = .ok (.getfield 56, 3) := by decide +kernel
theorem d_M_digitOf_55 : decode b_M_digitOf 55 = .ok (.iload 5, 2) := by decide +kernel
theorem d_M_digitOf_57 : decode b_M_digitOf 57 = .ok (.iaload, 1) := by decide +kernel
theorem d_M_digitOf_58 : decode b_M_digitOf 58 = .ok (.aload_n 0, 1) := by decide +kernel
theorem d_M_digitOf_59 : decode b_M_digitOf 59 = .ok (.iload_n 3, 1) := by decide +kernel
theorem d_M_digitOf_60 : decode b_M_digitOf 60 = .ok (.invokevirtual 138, 3) := by decide +kernel
theorem d_M_digitOf_63 : decode b_M_digitOf 63 = .ok (.imul, 1) := by decide +kernel
theorem d_M_digitOf_64 : decode b_M_digitOf 64 = .ok (.iload 4, 2) := by decide +kernel
theorem d_M_digitOf_66 : decode b_M_digitOf 66 = .ok (.iadd, 1) := by decide +kernel
theorem d_M_digitOf_67 : decode b_M_digitOf 67 = .ok (.istore 6, 2) := by decide +kernel
theorem d_M_digitOf_69 : decode b_M_digitOf 69 = .ok (.aload_n 0, 1) := by decide +kernel
theorem d_M_digitOf_70 : decode b_M_digitOf 70 = .ok (.getfield 56, 3) := by decide +kernel
theorem d_M_digitOf_73 : decode b_M_digitOf 73 = .ok (.iload 5, 2) := by decide +kernel
theorem d_M_digitOf_75 : decode b_M_digitOf 75 = .ok (.iload 6, 2) := by decide +kernel
theorem d_M_digitOf_77 : decode b_M_digitOf 77 = .ok (.bipush 10, 2) := by decide +kernel
theorem d_M_digitOf_79 : decode b_M_digitOf 79 = .ok (.irem, 1) := by decide +kernel
theorem d_M_digitOf_80 : decode b_M_digitOf 80 = .ok (.iastore, 1) := by decide +kernel
theorem d_M_digitOf_81 : decode b_M_digitOf 81 = .ok (.iload 6, 2) := by decide +kernel
theorem d_M_digitOf_83 : decode b_M_digitOf 83 = .ok (.bipush 10, 2) := by decide +kernel
theorem d_M_digitOf_85 : decode b_M_digitOf 85 = .ok (.idiv, 1) := by decide +kernel
theorem d_M_digitOf_86 : decode b_M_digitOf 86 = .ok (.istore 4, 2) := by decide +kernel
theorem d_M_digitOf_88 : decode b_M_digitOf 88 = .ok (.iinc 5 1, 3) := by decide +kernel
theorem d_M_digitOf_91 : decode b_M_digitOf 91 = .ok (.goto (-47), 3) := by decide +kernel
theorem d_M_digitOf_94 : decode b_M_digitOf 94 = .ok (.iinc 3 1, 3) := by decide +kernel
theorem d_M_digitOf_97 : decode b_M_digitOf 97 = .ok (.goto (-67), 3) := by decide +kernel
theorem d_M_digitOf_100 : decode b_M_digitOf 100 = .ok (.iconst 0, 1) := by decide +kernel
theorem d_M_digitOf_101 : decode b_M_digitOf 101 = .ok (.istore_n 3, 1) := by decide +kernel
theorem d_M_digitOf_102 : decode b_M_digitOf 102 = .ok (.bipush 39, 2) := by decide +kernel
theorem d_M_digitOf_104 : decode b_M_digitOf 104 = .ok (.istore 4, 2) := by decide +kernel
theorem d_M_digitOf_106 : decode b_M_digitOf 106 = .ok (.iload 4, 2) := by decide +kernel
theorem d_M_digitOf_108 : decode b_M_digitOf 108 = .ok (.ifCond .lt 39, 3) := by decide +kernel
theorem d_M_digitOf_111 : decode b_M_digitOf 111 = .ok (.bipush 10, 2) := by decide +kernel
theorem d_M_digitOf_113 : decode b_M_digitOf 113 = .ok (.iload_n 3, 1) := by decide +kernel
theorem d_M_digitOf_114 : decode b_M_digitOf 114 = .ok (.imul, 1) := by decide +kernel
theorem d_M_digitOf_115 : decode b_M_digitOf 115 = .ok (.aload_n 0, 1) := by decide +kernel
theorem d_M_digitOf_116 : decode b_M_digitOf 116 = .ok (.getfield 56, 3) := by decide +kernel
theorem d_M_digitOf_119 : decode b_M_digitOf 119 = .ok (.iload 4, 2) := by decide +kernel
theorem d_M_digitOf_121 : decode b_M_digitOf 121 = .ok (.iaload, 1) := by decide +kernel
theorem d_M_digitOf_122 : decode b_M_digitOf 122 = .ok (.iadd, 1) := by decide +kernel
theorem d_M_digitOf_123 : decode b_M_digitOf 123 = .ok (.istore 5, 2) := by decide +kernel
theorem d_M_digitOf_125 : decode b_M_digitOf 125 = .ok (.aload_n 0, 1) := by decide +kernel
theorem d_M_digitOf_126 : decode b_M_digitOf 126 = .ok (.getfield 56, 3) := by decide +kernel
theorem d_M_digitOf_129 : decode b_M_digitOf 129 = .ok (.iload 4, 2) := by decide +kernel
theorem d_M_digitOf_131 : decode b_M_digitOf 131 = .ok (.iload 5, 2) := by decide +kernel
theorem d_M_digitOf_133 : decode b_M_digitOf 133 = .ok (.iload_n 2, 1) := by decide +kernel
theorem d_M_digitOf_134 : decode b_M_digitOf 134 = .ok (.idiv, 1) := by decide +kernel
theorem d_M_digitOf_135 : decode b_M_digitOf 135 = .ok (.iastore, 1) := by decide +kernel
theorem d_M_digitOf_136 : decode b_M_digitOf 136 = .ok (.iload 5, 2) := by decide +kernel
theorem d_M_digitOf_138 : decode b_M_digitOf 138 = .ok (.iload_n 2, 1) := by decide +kernel
theorem d_M_digitOf_139 : decode b_M_digitOf 139 = .ok (.irem, 1) := by decide +kernel
theorem d_M_digitOf_140 : decode b_M_digitOf 140 = .ok (.istore_n 3, 1) := by decide +kernel
theorem d_M_digitOf_141 : decode b_M_digitOf 141 = .ok (.iinc 4 (-1), 3) := by decide +kernel
theorem d_M_digitOf_144 : decode b_M_digitOf 144 = .ok (.goto (-38), 3) := by decide +kernel
theorem d_M_digitOf_147 : decode b_M_digitOf 147 = .ok (.bipush 40, 2) := by decide +kernel
theorem d_M_digitOf_149 : decode b_M_digitOf 149 = .ok (.istore 4, 2) := by decide +kernel
theorem d_M_digitOf_151 : decode b_M_digitOf 151 = .ok (.iload 4, 2) := by decide +kernel
theorem d_M_digitOf_153 : decode b_M_digitOf 153 = .ok (.iconst 1, 1) := by decide +kernel
theorem d_M_digitOf_154 : decode b_M_digitOf 154 = .ok (.if_icmp .le 21, 3) := by decide +kernel
theorem d_M_digitOf_157 : decode b_M_digitOf 157 = .ok (.aload_n 0, 1) := by decide +kernel
theorem d_M_digitOf_158 : decode b_M_digitOf 158 = .ok (.getfield 56, 3) := by decide +kernel
theorem d_M_digitOf_161 : decode b_M_digitOf 161 = .ok (.iload 4, 2) := by decide +kernel
theorem d_M_digitOf_163 : decode b_M_digitOf 163 = .ok (.iconst 1, 1) := by decide +kernel
theorem d_M_digitOf_164 : decode b_M_digitOf 164 = .ok (.isub, 1) := by decide +kernel
theorem d_M_digitOf_165 : decode b_M_digitOf 165 = .ok (.iaload, 1) := by decide +kernel
theorem d_M_digitOf_166 : decode b_M_digitOf 166 = .ok (.ifCond .ne 9, 3) := by decide +kernel
theorem d_M_digitOf_169 : decode b_M_digitOf 169 = .ok (.iinc 4 (-1), 3) := by decide +kernel
theorem d_M_digitOf_172 : decode b_M_digitOf 172 = .ok (.goto (-21), 3) := by decide +kernel
theorem d_M_digitOf_175 : decode b_M_digitOf 175 = .ok (.iload_n 1, 1) := by decide +kernel
theorem d_M_digitOf_176 : decode b_M_digitOf 176 = .ok (.ifCond .lt 18, 3) := by decide +kernel
theorem d_M_digitOf_179 : decode b_M_digitOf 179 = .ok (.iload_n 1, 1) := by decide +kernel
theorem d_M_digitOf_180 : decode b_M_digitOf 180 = .ok (.iload 4, 2) := by decide +kernel
theorem d_M_digitOf_182 : decode b_M_digitOf 182 = .ok (.if_icmp .ge 12, 3) := by decide +kernel
theorem d_M_digitOf_185 : decode b_M_digitOf 185 = .ok (.aload_n 0, 1) := by decide +kernel
theorem d_M_digitOf_186 : decode b_M_digitOf 186 = .ok (.getfield 56, 3) := by decide +kernel
theorem d_M_digitOf_189 : decode b_M_digitOf 189 = .ok (.iload_n 1, 1) := by decide +kernel
theorem d_M_digitOf_190 : decode b_M_digitOf 190 = .ok (.iaload, 1) := by decide +kernel
theorem d_M_digitOf_191 : decode b_M_digitOf 191 = .ok (.goto 4, 3) := by decide +kernel
theorem d_M_digitOf_194 : decode b_M_digitOf 194 = .ok (.iconst (-1), 1) := by decide +kernel
theorem d_M_digitOf_195 : decode b_M_digitOf 195 = .ok (.ireturn, 1) := by decide +kernel
theorem d_M_order_0 : decode b_M_order 0 = .ok (.aload_n 0, 1) := by decide +kernel
theorem d_M_order_1 : decode b_M_order 1 = .ok (.iconst 0, 1) := by decide +kernel
theorem d_M_order_2 : decode b_M_order 2 = .ok (.putfield 69, 3) := by decide +kernel
theorem d_M_order_5 : decode b_M_order 5 = .ok (.aload_n 0, 1) := by decide +kernel
theorem d_M_order_6 : decode b_M_order 6 = .ok (.invokevirtual 135, 3) := by decide +kernel
theorem d_M_order_9 : decode b_M_order 9 = .ok (.aload_n 0, 1) := by decide +kernel
theorem d_M_order_10 : decode b_M_order 10 = .ok (.iload_n 1, 1) := by decide +kernel
theorem d_M_order_11 : decode b_M_order 11 = .ok (.iconst 1, 1) := by decide +kernel
theorem d_M_order_12 : decode b_M_order 12 = .ok (.invokevirtual 142, 3) := by decide +kernel
theorem d_M_order_15 : decode b_M_order 15 = .ok (.ireturn, 1) := by decide +kernel
theorem d_M_share_0 : decode b_M_share 0 = .ok (.iconst 0, 1) := by decide +kernel
theorem d_M_share_1 : decode b_M_share 1 = .ok (.istore_n 1, 1) := by decide +kernel
theorem d_M_share_2 : decode b_M_share 2 = .ok (.iload_n 1, 1) := by decide +kernel
theorem d_M_share_3 : decode b_M_share 3 = .ok (.bipush 24, 2) := by decide +kernel
theorem d_M_share_5 : decode b_M_share 5 = .ok (.if_icmp .ge 16, 3) := by decide +kernel
theorem d_M_share_8 : decode b_M_share 8 = .ok (.aload_n 0, 1) := by decide +kernel
theorem d_M_share_9 : decode b_M_share 9 = .ok (.getfield 53, 3) := by decide +kernel
theorem d_M_share_12 : decode b_M_share 12 = .ok (.iload_n 1, 1) := by decide +kernel
theorem d_M_share_13 : decode b_M_share 13 = .ok (.iload_n 1, 1) := by decide +kernel
theorem d_M_share_14 : decode b_M_share 14 = .ok (.iastore, 1) := by decide +kernel
theorem d_M_share_15 : decode b_M_share 15 = .ok (.iinc 1 1, 3) := by decide +kernel
theorem d_M_share_18 : decode b_M_share 18 = .ok (.goto (-16), 3) := by decide +kernel
theorem d_M_share_21 : decode b_M_share 21 = .ok (.return_, 1) := by decide +kernel
theorem d_M_joinSets_0 : decode b_M_joinSets 0 = .ok (.aload_n 0, 1) := by decide +kernel
theorem d_M_joinSets_1 : decode b_M_joinSets 1 = .ok (.getfield 53, 3) := by decide +kernel
theorem d_M_joinSets_4 : decode b_M_joinSets 4 = .ok (.iload_n 1, 1) := by decide +kernel
theorem d_M_joinSets_5 : decode b_M_joinSets 5 = .ok (.iaload, 1) := by decide +kernel
theorem d_M_joinSets_6 : decode b_M_joinSets 6 = .ok (.aload_n 0, 1) := by decide +kernel
theorem d_M_joinSets_7 : decode b_M_joinSets 7 = .ok (.getfield 53, 3) := by decide +kernel
theorem d_M_joinSets_10 : decode b_M_joinSets 10 = .ok (.iload_n 2, 1) := by decide +kernel
theorem d_M_joinSets_11 : decode b_M_joinSets 11 = .ok (.iaload, 1) := by decide +kernel
theorem d_M_joinSets_12 : decode b_M_joinSets 12 = .ok (.if_icmp .le 12, 3) := by decide +kernel
theorem d_M_joinSets_15 : decode b_M_joinSets 15 = .ok (.aload_n 0, 1) := by decide +kernel
theorem d_M_joinSets_16 : decode b_M_joinSets 16 = .ok (.getfield 53, 3) := by decide +kernel
theorem d_M_joinSets_19 : decode b_M_joinSets 19 = .ok (.iload_n 1, 1) := by decide +kernel
theorem d_M_joinSets_20 : decode b_M_joinSets 20 = .ok (.iaload, 1) := by decide +kernel
theorem d_M_joinSets_21 : decode b_M_joinSets 21 = .ok (.goto 9, 3) := by decide +kernel
theorem d_M_joinSets_24 : decode b_M_joinSets 24 = .ok (.aload_n 0, 1) := by decide +kernel
theorem d_M_joinSets_25 : decode b_M_joinSets 25 = .ok (.getfield 53, 3) := by decide +kernel
theorem d_M_joinSets_28 : decode b_M_joinSets 28 = .ok (.iload_n 2, 1) := by decide +kernel
theorem d_M_joinSets_29 : decode b_M_joinSets 29 = .ok (.iaload, 1) := by decide +kernel
theorem d_M_joinSets_30 : decode b_M_joinSets 30 = .ok (.istore_n 3, 1) := by decide +kernel
theorem d_M_joinSets_31 : decode b_M_joinSets 31 = .ok (.aload_n 0, 1) := by decide +kernel
theorem d_M_joinSets_32 : decode b_M_joinSets 32 = .ok (.getfield 53, 3) := by decide +kernel
theorem d_M_joinSets_35 : decode b_M_joinSets 35 = .ok (.iload_n 1, 1) := by decide +kernel
theorem d_M_joinSets_36 : decode b_M_joinSets 36 = .ok (.iaload, 1) := by decide +kernel
theorem d_M_joinSets_37 : decode b_M_joinSets 37 = .ok (.aload_n 0, 1) := by decide +kernel
theorem d_M_joinSets_38 : decode b_M_joinSets 38 = .ok (.getfield 53, 3) := by decide +kernel
theorem d_M_joinSets_41 : decode b_M_joinSets 41 = .ok (.iload_n 2, 1) := by decide +kernel
theorem d_M_joinSets_42 : decode b_M_joinSets 42 = .ok (.iaload, 1) := by decide +kernel
theorem d_M_joinSets_43 : decode b_M_joinSets 43 = .ok (.if_icmp .le 12, 3) := by decide +kernel
theorem d_M_joinSets_46 : decode b_M_joinSets 46 = .ok (.aload_n 0, 1) := by decide +kernel
theorem d_M_joinSets_47 : decode b_M_joinSets 47 = .ok (.getfield 53, 3) := by decide +kernel
theorem d_M_joinSets_50 : decode b_M_joinSets 50 = .ok (.iload_n 2, 1) := by decide +kernel
theorem d_M_joinSets_51 : decode b_M_joinSets 51 = .ok (.iaload, 1) := by decide +kernel
theorem d_M_joinSets_52 : decode b_M_joinSets 52 = .ok (.goto 9, 3) := by decide +kernel
theorem d_M_joinSets_55 : decode b_M_joinSets 55 = .ok (.aload_n 0, 1) := by decide +kernel
theorem d_M_joinSets_56 : decode b_M_joinSets 56 = .ok (.getfield 53, 3) := by decide +kernel
theorem d_M_joinSets_59 : decode b_M_joinSets 59 = .ok (.iload_n 1, 1) := by decide +kernel
theorem d_M_joinSets_60 : decode b_M_joinSets 60 = .ok (.iaload, 1) := by decide +kernel
theorem d_M_joinSets_61 : decode b_M_joinSets 61 = .ok (.istore 4, 2) := by decide +kernel
theorem d_M_joinSets_63 : decode b_M_joinSets 63 = .ok (.iconst 0, 1) := by decide +kernel
theorem d_M_joinSets_64 : decode b_M_joinSets 64 = .ok (.istore 5, 2) := by decide +kernel
theorem d_M_joinSets_66 : decode b_M_joinSets 66 = .ok (.iload 5, 2) := by decide +kernel
theorem d_M_joinSets_68 : decode b_M_joinSets 68 = .ok (.bipush 24, 2) := by decide +kernel
theorem d_M_joinSets_70 : decode b_M_joinSets 70 = .ok (.if_icmp .ge 35, 3) := by decide +kernel
theorem d_M_joinSets_73 : decode b_M_joinSets 73 = .ok (.iload_n 3, 1) := by decide +kernel
theorem d_M_joinSets_74 : decode b_M_joinSets 74 = .ok (.iload 4, 2) := by decide +kernel
theorem d_M_joinSets_76 : decode b_M_joinSets 76 = .ok (.if_icmp .eq 29, 3) := by decide +kernel
theorem d_M_joinSets_79 : decode b_M_joinSets 79 = .ok (.aload_n 0, 1) := by decide +kernel
theorem d_M_joinSets_80 : decode b_M_joinSets 80 = .ok (.getfield 53, 3) := by decide +kernel
theorem d_M_joinSets_83 : decode b_M_joinSets 83 = .ok (.iload 5, 2) := by decide +kernel
theorem d_M_joinSets_85 : decode b_M_joinSets 85 = .ok (.iaload, 1) := by decide +kernel
theorem d_M_joinSets_86 : decode b_M_joinSets 86 = .ok (.iload_n 3, 1) := by decide +kernel
theorem d_M_joinSets_87 : decode b_M_joinSets 87 = .ok (.if_icmp .ne 12, 3) := by decide +kernel
theorem d_M_joinSets_90 : decode b_M_joinSets 90 = .ok (.aload_n 0, 1) := by decide +kernel
theorem d_M_joinSets_91 : decode b_M_joinSets 91 = .ok (.getfield 53, 3) := by decide +kernel
theorem d_M_joinSets_94 : decode b_M_joinSets 94 = .ok (.iload 5, 2) := by decide +kernel
theorem d_M_joinSets_96 : decode b_M_joinSets 96 = .ok (.iload 4, 2) := by decide +kernel
theorem d_M_joinSets_98 : decode b_M_joinSets 98 = .ok (.iastore, 1) := by decide +kernel
theorem d_M_joinSets_99 : decode b_M_joinSets 99 = .ok (.iinc 5 1, 3) := by decide +kernel
theorem d_M_joinSets_102 : decode b_M_joinSets 102 = .ok (.goto (-36), 3) := by decide +kernel
theorem d_M_joinSets_105 : decode b_M_joinSets 105 = .ok (.iload_n 3, 1) := by decide +kernel
theorem d_M_joinSets_106 : decode b_M_joinSets 106 = .ok (.iload 4, 2) := by decide +kernel
theorem d_M_joinSets_108 : decode b_M_joinSets 108 = .ok (.if_icmp .eq 7, 3) := by decide +kernel
theorem d_M_joinSets_111 : decode b_M_joinSets 111 = .ok (.iconst 1, 1) := by decide +kernel
theorem d_M_joinSets_112 : decode b_M_joinSets 112 = .ok (.goto 4, 3) := by decide +kernel
theorem d_M_joinSets_115 : decode b_M_joinSets 115 = .ok (.iconst 0, 1) := by decide +kernel
theorem d_M_joinSets_116 : decode b_M_joinSets 116 = .ok (.ireturn, 1) := by decide +kernel
theorem d_M_orbits_0 : decode b_M_orbits 0 = .ok (.aload_n 0, 1) := by decide +kernel
theorem d_M_orbits_1 : decode b_M_orbits 1 = .ok (.invokevirtual 146, 3) := by decide +kernel
theorem d_M_orbits_4 : decode b_M_orbits 4 = .ok (.iconst 0, 1) := by decide +kernel
theorem d_M_orbits_5 : decode b_M_orbits 5 = .ok (.istore_n 1, 1) := by decide +kernel
theorem d_M_orbits_6 : decode b_M_orbits 6 = .ok (.iload_n 1, 1) := by decide +kernel
theorem d_M_orbits_7 : decode b_M_orbits 7 = .ok (.aload_n 0, 1) := by decide +kernel
theorem d_M_orbits_8 : decode b_M_orbits 8 = .ok (.getfield 75, 3) := by decide +kernel
theorem d_M_orbits_11 : decode b_M_orbits 11 = .ok (.if_icmp .ge 42, 3) := by decide +kernel
theorem d_M_orbits_14 : decode b_M_orbits 14 = .ok (.iconst 0, 1) := by decide +kernel
theorem d_M_orbits_15 : decode b_M_orbits 15 = .ok (.istore_n 2, 1) := by decide +kernel
theorem d_M_orbits_16 : decode b_M_orbits 16 = .ok (.iload_n 2, 1) := by decide +kernel
theorem d_M_orbits_17 : decode b_M_orbits 17 = .ok (.aload_n 0, 1) := by decide +kernel
theorem d_M_orbits_18 : decode b_M_orbits 18 = .ok (.getfield 65, 3) := by decide +kernel
theorem d_M_orbits_21 : decode b_M_orbits 21 = .ok (.if_icmp .ge 26, 3) := by decide +kernel
theorem d_M_orbits_24 : decode b_M_orbits 24 = .ok (.aload_n 0, 1) := by decide +kernel
theorem d_M_orbits_25 : decode b_M_orbits 25 = .ok (.iload_n 2, 1) := by decide +kernel
theorem d_M_orbits_26 : decode b_M_orbits 26 = .ok (.aload_n 0, 1) := by decide +kernel
theorem d_M_orbits_27 : decode b_M_orbits 27 = .ok (.getfield 7, 3) := by decide +kernel
theorem d_M_orbits_30 : decode b_M_orbits 30 = .ok (.bipush 24, 2) := by decide +kernel
theorem d_M_orbits_32 : decode b_M_orbits 32 = .ok (.iload_n 1, 1) := by decide +kernel
theorem d_M_orbits_33 : decode b_M_orbits 33 = .ok (.imul, 1) := by decide +kernel
theorem d_M_orbits_34 : decode b_M_orbits 34 = .ok (.iload_n 2, 1) := by decide +kernel
theorem d_M_orbits_35 : decode b_M_orbits 35 = .ok (.iadd, 1) := by decide +kernel
theorem d_M_orbits_36 : decode b_M_orbits 36 = .ok (.iaload, 1) := by decide +kernel
theorem d_M_orbits_37 : decode b_M_orbits 37 = .ok (.invokevirtual 149, 3) := by decide +kernel
theorem d_M_orbits_40 : decode b_M_orbits 40 = .ok (.pop, 1) := by decide +kernel
theorem d_M_orbits_41 : decode b_M_orbits 41 = .ok (.iinc 2 1, 3) := by decide +kernel
theorem d_M_orbits_44 : decode b_M_orbits 44 = .ok (.goto (-28), 3) := by decide +kernel
theorem d_M_orbits_47 : decode b_M_orbits 47 = .ok (.iinc 1 1, 3) := by decide +kernel
theorem d_M_orbits_50 : decode b_M_orbits 50 = .ok (.goto (-44), 3) := by decide +kernel
theorem d_M_orbits_53 : decode b_M_orbits 53 = .ok (.return_, 1) := by decide +kernel
theorem d_M_sizeOf_0 : decode b_M_sizeOf 0 = .ok (.iconst 0, 1) := by decide +kernel
theorem d_M_sizeOf_1 : decode b_M_sizeOf 1 = .ok (.istore_n 2, 1) := by decide +kernel
theorem d_M_sizeOf_2 : decode b_M_sizeOf 2 = .ok (.iconst 0, 1) := by decide +kernel
theorem d_M_sizeOf_3 : decode b_M_sizeOf 3 = .ok (.istore_n 3, 1) := by decide +kernel
theorem d_M_sizeOf_4 : decode b_M_sizeOf 4 = .ok (.iload_n 3, 1) := by decide +kernel
theorem d_M_sizeOf_5 : decode b_M_sizeOf 5 = .ok (.aload_n 0, 1) := by decide +kernel
theorem d_M_sizeOf_6 : decode b_M_sizeOf 6 = .ok (.getfield 65, 3) := by decide +kernel
theorem d_M_sizeOf_9 : decode b_M_sizeOf 9 = .ok (.if_icmp .ge 32, 3) := by decide +kernel
theorem d_M_sizeOf_12 : decode b_M_sizeOf 12 = .ok (.iload_n 2, 1) := by decide +kernel
theorem d_M_sizeOf_13 : decode b_M_sizeOf 13 = .ok (.aload_n 0, 1) := by decide +kernel
theorem d_M_sizeOf_14 : decode b_M_sizeOf 14 = .ok (.getfield 53, 3) := by decide +kernel
theorem d_M_sizeOf_17 : decode b_M_sizeOf 17 = .ok (.iload_n 3, 1) := by decide +kernel
theorem d_M_sizeOf_18 : decode b_M_sizeOf 18 = .ok (.iaload, 1) := by decide +kernel
theorem d_M_sizeOf_19 : decode b_M_sizeOf 19 = .ok (.aload_n 0, 1) := by decide +kernel
theorem d_M_sizeOf_20 : decode b_M_sizeOf 20 = .ok (.getfield 53, 3) := by decide +kernel
theorem d_M_sizeOf_23 : decode b_M_sizeOf 23 = .ok (.iload_n 1, 1) := by decide +kernel
theorem d_M_sizeOf_24 : decode b_M_sizeOf 24 = .ok (.iaload, 1) := by decide +kernel
theorem d_M_sizeOf_25 : decode b_M_sizeOf 25 = .ok (.if_icmp .ne 7, 3) := by decide +kernel
theorem d_M_sizeOf_28 : decode b_M_sizeOf 28 = .ok (.iconst 1, 1) := by decide +kernel
theorem d_M_sizeOf_29 : decode b_M_sizeOf 29 = .ok (.goto 4, 3) := by decide +kernel
theorem d_M_sizeOf_32 : decode b_M_sizeOf 32 = .ok (.iconst 0, 1) := by decide +kernel
theorem d_M_sizeOf_33 : decode b_M_sizeOf 33 = .ok (.iadd, 1) := by decide +kernel
theorem d_M_sizeOf_34 : decode b_M_sizeOf 34 = .ok (.istore_n 2, 1) := by decide +kernel
theorem d_M_sizeOf_35 : decode b_M_sizeOf 35 = .ok (.iinc 3 1, 3) := by decide +kernel
theorem d_M_sizeOf_38 : decode b_M_sizeOf 38 = .ok (.goto (-34), 3) := by decide +kernel
theorem d_M_sizeOf_41 : decode b_M_sizeOf 41 = .ok (.iload_n 2, 1) := by decide +kernel
theorem d_M_sizeOf_42 : decode b_M_sizeOf 42 = .ok (.ireturn, 1) := by decide +kernel
theorem d_M_orbit_0 : decode b_M_orbit 0 = .ok (.aload_n 0, 1) := by decide +kernel
theorem d_M_orbit_1 : decode b_M_orbit 1 = .ok (.iconst 0, 1) := by decide +kernel
theorem d_M_orbit_2 : decode b_M_orbit 2 = .ok (.putfield 69, 3) := by decide +kernel
theorem d_M_orbit_5 : decode b_M_orbit 5 = .ok (.aload_n 0, 1) := by decide +kernel
theorem d_M_orbit_6 : decode b_M_orbit 6 = .ok (.iload_n 1, 1) := by decide +kernel
theorem d_M_orbit_7 : decode b_M_orbit 7 = .ok (.invokevirtual 78, 3) := by decide +kernel
theorem d_M_orbit_10 : decode b_M_orbit 10 = .ok (.ifCond .ne 5, 3) := by decide +kernel
theorem d_M_orbit_13 : decode b_M_orbit 13 = .ok (.iconst (-1), 1) := by decide +kernel
theorem d_M_orbit_14 : decode b_M_orbit 14 = .ok (.ireturn, 1) := by decide +kernel
theorem d_M_orbit_15 : decode b_M_orbit 15 = .ok (.aload_n 0, 1) := by decide +kernel
theorem d_M_orbit_16 : decode b_M_orbit 16 = .ok (.invokevirtual 152, 3) := by decide +kernel
theorem d_M_orbit_19 : decode b_M_orbit 19 = .ok (.aload_n 0, 1) := by decide +kernel
theorem d_M_orbit_20 : decode b_M_orbit 20 = .ok (.getfield 53, 3) := by decide +kernel
theorem d_M_orbit_23 : decode b_M_orbit 23 = .ok (.iload_n 1, 1) := by decide +kernel
theorem d_M_orbit_24 : decode b_M_orbit 24 = .ok (.iaload, 1) := by decide +kernel
theorem d_M_orbit_25 : decode b_M_orbit 25 = .ok (.ireturn, 1) := by decide +kernel
theorem d_M_stabiliser_0 : decode b_M_stabiliser 0 = .ok (.aload_n 0, 1) := by decide +kernel
theorem d_M_stabiliser_1 : decode b_M_stabiliser 1 = .ok (.iconst 0, 1) := by decide +kernel
theorem d_M_stabiliser_2 : decode b_M_stabiliser 2 = .ok (.putfield 69, 3) := by decide +kernel
theorem d_M_stabiliser_5 : decode b_M_stabiliser 5 = .ok (.aload_n 0, 1) := by decide +kernel
theorem d_M_stabiliser_6 : decode b_M_stabiliser 6 = .ok (.iload_n 1, 1) := by decide +kernel
theorem d_M_stabiliser_7 : decode b_M_stabiliser 7 = .ok (.invokevirtual 78, 3) := by decide +kernel
theorem d_M_stabiliser_10 : decode b_M_stabiliser 10 = .ok (.ifCond .ne 5, 3) := by decide +kernel
theorem d_M_stabiliser_13 : decode b_M_stabiliser 13 = .ok (.iconst (-1), 1) := by decide +kernel
theorem d_M_stabiliser_14 : decode b_M_stabiliser 14 = .ok (.ireturn, 1) := by decide +kernel
theorem d_M_stabiliser_15 : decode b_M_stabiliser 15 = .ok (.aload_n 0, 1) := by decide +kernel
theorem d_M_stabiliser_16 : decode b_M_stabiliser 16 = .ok (.invokevirtual 135, 3) := by decide +kernel
theorem d_M_stabiliser_19 : decode b_M_stabiliser 19 = .ok (.aload_n 0, 1) := by decide +kernel
theorem d_M_stabiliser_20 : decode b_M_stabiliser 20 = .ok (.invokevirtual 152, 3) := by decide +kernel
theorem d_M_stabiliser_23 : decode b_M_stabiliser 23 = .ok (.aload_n 0, 1) := by decide +kernel
theorem d_M_stabiliser_24 : decode b_M_stabiliser 24 = .ok (.iload_n 2, 1) := by decide +kernel
theorem d_M_stabiliser_25 : decode b_M_stabiliser 25 = .ok (.aload_n 0, 1) := by decide +kernel
theorem d_M_stabiliser_26 : decode b_M_stabiliser 26 = .ok (.iload_n 1, 1) := by decide +kernel
theorem d_M_stabiliser_27 : decode b_M_stabiliser 27 = .ok (.invokevirtual 155, 3) := by decide +kernel
theorem d_M_stabiliser_30 : decode b_M_stabiliser 30 = .ok (.invokevirtual 142, 3) := by decide +kernel
theorem d_M_stabiliser_33 : decode b_M_stabiliser 33 = .ok (.ireturn, 1) := by decide +kernel
theorem d_M_block_0 : decode b_M_block 0 = .ok (.aload_n 0, 1) := by decide +kernel
theorem d_M_block_1 : decode b_M_block 1 = .ok (.iconst 0, 1) := by decide +kernel
theorem d_M_block_2 : decode b_M_block 2 = .ok (.putfield 69, 3) := by decide +kernel
theorem d_M_block_5 : decode b_M_block 5 = .ok (.aload_n 0, 1) := by decide +kernel
theorem d_M_block_6 : decode b_M_block 6 = .ok (.iload_n 1, 1) := by decide +kernel
theorem d_M_block_7 : decode b_M_block 7 = .ok (.invokevirtual 78, 3) := by decide +kernel
theorem d_M_block_10 : decode b_M_block 10 = .ok (.ifCond .eq 11, 3) := by decide +kernel
theorem d_M_block_13 : decode b_M_block 13 = .ok (.aload_n 0, 1) := by decide +kernel
theorem d_M_block_14 : decode b_M_block 14 = .ok (.iload_n 2, 1) := by decide +kernel
theorem d_M_block_15 : decode b_M_block 15 = .ok (.invokevirtual 78, 3) := by decide +kernel
theorem d_M_block_18 : decode b_M_block 18 = .ok (.ifCond .ne 5, 3) := by decide +kernel
theorem d_M_block_21 : decode b_M_block 21 = .ok (.iconst (-1), 1) := by decide +kernel
theorem d_M_block_22 : decode b_M_block 22 = .ok (.ireturn, 1) := by decide +kernel
theorem d_M_block_23 : decode b_M_block 23 = .ok (.aload_n 0, 1) := by decide +kernel
theorem d_M_block_24 : decode b_M_block 24 = .ok (.invokevirtual 146, 3) := by decide +kernel
theorem d_M_block_27 : decode b_M_block 27 = .ok (.aload_n 0, 1) := by decide +kernel
theorem d_M_block_28 : decode b_M_block 28 = .ok (.iload_n 1, 1) := by decide +kernel
theorem d_M_block_29 : decode b_M_block 29 = .ok (.iload_n 2, 1) := by decide +kernel
theorem d_M_block_30 : decode b_M_block 30 = .ok (.invokevirtual 149, 3) := by decide +kernel
theorem d_M_block_33 : decode b_M_block 33 = .ok (.pop, 1) := by decide +kernel
theorem d_M_block_34 : decode b_M_block 34 = .ok (.iconst 1, 1) := by decide +kernel
theorem d_M_block_35 : decode b_M_block 35 = .ok (.istore_n 3, 1) := by decide +kernel
theorem d_M_block_36 : decode b_M_block 36 = .ok (.iload_n 3, 1) := by decide +kernel
theorem d_M_block_37 : decode b_M_block 37 = .ok (.ifCond .eq 92, 3) := by decide +kernel
theorem d_M_block_40 : decode b_M_block 40 = .ok (.iconst 0, 1) := by decide +kernel
theorem d_M_block_41 : decode b_M_block 41 = .ok (.istore_n 3, 1) := by decide +kernel
theorem d_M_block_42 : decode b_M_block 42 = .ok (.iconst 0, 1) := by decide +kernel
theorem d_M_block_43 : decode b_M_block 43 = .ok (.istore 4, 2) := by decide +kernel
theorem d_M_block_45 : decode b_M_block 45 = .ok (.iload 4, 2) := by decide +kernel
theorem d_M_block_47 : decode b_M_block 47 = .ok (.aload_n 0, 1) := by decide +kernel
theorem d_M_block_48 : decode b_M_block 48 = .ok (.getfield 75, 3) := by decide +kernel
theorem d_M_block_51 : decode b_M_block 51 = .ok (.if_icmp .ge 75, 3) := by decide +kernel
theorem d_M_block_54 : decode b_M_block 54 = .ok (.iconst 0, 1) := by decide +kernel
theorem d_M_block_55 : decode b_M_block 55 = .ok (.istore 5, 2) := by decide +kernel
theorem d_M_block_57 : decode b_M_block 57 = .ok (.iload 5, 2) := by decide +kernel
theorem d_M_block_59 : decode b_M_block 59 = .ok (.aload_n 0, 1) := by decide +kernel
theorem d_M_block_60 : decode b_M_block 60 = .ok (.getfield 65, 3) := by decide +kernel
theorem d_M_block_63 : decode b_M_block 63 = .ok (.if_icmp .ge 57, 3) := by decide +kernel
theorem d_M_block_66 : decode b_M_block 66 = .ok (.aload_n 0, 1) := by decide +kernel
theorem d_M_block_67 : decode b_M_block 67 = .ok (.aload_n 0, 1) := by decide +kernel
theorem d_M_block_68 : decode b_M_block 68 = .ok (.getfield 7, 3) := by decide +kernel
theorem d_M_block_71 : decode b_M_block 71 = .ok (.bipush 24, 2) := by decide +kernel
theorem d_M_block_73 : decode b_M_block 73 = .ok (.iload 4, 2) := by decide +kernel
theorem d_M_block_75 : decode b_M_block 75 = .ok (.imul, 1) := by decide +kernel
theorem d_M_block_76 : decode b_M_block 76 = .ok (.iload 5, 2) := by decide +kernel
theorem d_M_block_78 : decode b_M_block 78 = .ok (.iadd, 1) := by decide +kernel
theorem d_M_block_79 : decode b_M_block 79 = .ok (.iaload, 1) := by decide +kernel
theorem d_M_block_80 : decode b_M_block 80 = .ok (.aload_n 0, 1) := by decide +kernel
theorem d_M_block_81 : decode b_M_block 81 = .ok (.getfield 7, 3) := by decide +kernel
theorem d_M_block_84 : decode b_M_block 84 = .ok (.bipush 24, 2) := by decide +kernel
theorem d_M_block_86 : decode b_M_block 86 = .ok (.iload 4, 2) := by decide +kernel
theorem d_M_block_88 : decode b_M_block 88 = .ok (.imul, 1) := by decide +kernel
theorem d_M_block_89 : decode b_M_block 89 = .ok (.aload_n 0, 1) := by decide +kernel
theorem d_M_block_90 : decode b_M_block 90 = .ok (.getfield 53, 3) := by decide +kernel
theorem d_M_block_93 : decode b_M_block 93 = .ok (.iload 5, 2) := by decide +kernel
theorem d_M_block_95 : decode b_M_block 95 = .ok (.iaload, 1) := by decide +kernel
theorem d_M_block_96 : decode b_M_block 96 = .ok (.iadd, 1) := by decide +kernel
theorem d_M_block_97 : decode b_M_block 97 = .ok (.iaload, 1) := by decide +kernel
theorem d_M_block_98 : decode b_M_block 98 = .ok (.invokevirtual 149, 3) := by decide +kernel
theorem d_M_block_101 : decode b_M_block 101 = .ok (.ifCond .ne 7, 3) := by decide +kernel
theorem d_M_block_104 : decode b_M_block 104 = .ok (.iload_n 3, 1) := by decide +kernel
theorem d_M_block_105 : decode b_M_block 105 = .ok (.ifCond .eq 7, 3) := by decide +kernel
theorem d_M_block_108 : decode b_M_block 108 = .ok (.iconst 1, 1) := by decide +kernel
theorem d_M_block_109 : decode b_M_block 109 = .ok (.goto 4, 3) := by decide +kernel
theorem d_M_block_112 : decode b_M_block 112 = .ok (.iconst 0, 1) := by decide +kernel
theorem d_M_block_113 : decode b_M_block 113 = .ok (.istore_n 3, 1) := by decide +kernel
theorem d_M_block_114 : decode b_M_block 114 = .ok (.iinc 5 1, 3) := by decide +kernel
theorem d_M_block_117 : decode b_M_block 117 = .ok (.goto (-60), 3) := by decide +kernel
theorem d_M_block_120 : decode b_M_block 120 = .ok (.iinc 4 1, 3) := by decide +kernel
theorem d_M_block_123 : decode b_M_block 123 = .ok (.goto (-78), 3) := by decide +kernel
theorem d_M_block_126 : decode b_M_block 126 = .ok (.goto (-90), 3) := by decide +kernel
theorem d_M_block_129 : decode b_M_block 129 = .ok (.aload_n 0, 1) := by decide +kernel
theorem d_M_block_130 : decode b_M_block 130 = .ok (.iload_n 1, 1) := by decide +kernel
theorem d_M_block_131 : decode b_M_block 131 = .ok (.invokevirtual 155, 3) := by decide +kernel
theorem d_M_block_134 : decode b_M_block 134 = .ok (.ireturn, 1) := by decide +kernel
theorem d_M_level_0 : decode b_M_level 0 = .ok (.aload_n 0, 1) := by decide +kernel
theorem d_M_level_1 : decode b_M_level 1 = .ok (.iconst 0, 1) := by decide +kernel
theorem d_M_level_2 : decode b_M_level 2 = .ok (.putfield 69, 3) := by decide +kernel
theorem d_M_level_5 : decode b_M_level 5 = .ok (.aload_n 0, 1) := by decide +kernel
theorem d_M_level_6 : decode b_M_level 6 = .ok (.iload_n 1, 1) := by decide +kernel
theorem d_M_level_7 : decode b_M_level 7 = .ok (.invokevirtual 86, 3) := by decide +kernel
theorem d_M_level_10 : decode b_M_level 10 = .ok (.ifCond .ne 5, 3) := by decide +kernel
theorem d_M_level_13 : decode b_M_level 13 = .ok (.iconst (-1), 1) := by decide +kernel
theorem d_M_level_14 : decode b_M_level 14 = .ok (.ireturn, 1) := by decide +kernel
theorem d_M_level_15 : decode b_M_level 15 = .ok (.aload_n 0, 1) := by decide +kernel
theorem d_M_level_16 : decode b_M_level 16 = .ok (.invokevirtual 135, 3) := by decide +kernel
theorem d_M_level_19 : decode b_M_level 19 = .ok (.iconst 0, 1) := by decide +kernel
theorem d_M_level_20 : decode b_M_level 20 = .ok (.istore_n 2, 1) := by decide +kernel
theorem d_M_level_21 : decode b_M_level 21 = .ok (.iload_n 2, 1) := by decide +kernel
theorem d_M_level_22 : decode b_M_level 22 = .ok (.bipush 24, 2) := by decide +kernel
theorem d_M_level_24 : decode b_M_level 24 = .ok (.if_icmp .ge 26, 3) := by decide +kernel
theorem d_M_level_27 : decode b_M_level 27 = .ok (.aload_n 0, 1) := by decide +kernel
theorem d_M_level_28 : decode b_M_level 28 = .ok (.getfield 47, 3) := by decide +kernel
theorem d_M_level_31 : decode b_M_level 31 = .ok (.iload_n 2, 1) := by decide +kernel
theorem d_M_level_32 : decode b_M_level 32 = .ok (.aload_n 0, 1) := by decide +kernel
theorem d_M_level_33 : decode b_M_level 33 = .ok (.getfield 13, 3) := by decide +kernel
theorem d_M_level_36 : decode b_M_level 36 = .ok (.bipush 24, 2) := by decide +kernel
theorem d_M_level_38 : decode b_M_level 38 = .ok (.iload_n 1, 1) := by decide +kernel
theorem d_M_level_39 : decode b_M_level 39 = .ok (.imul, 1) := by decide +kernel
theorem d_M_level_40 : decode b_M_level 40 = .ok (.iload_n 2, 1) := by decide +kernel
theorem d_M_level_41 : decode b_M_level 41 = .ok (.iadd, 1) := by decide +kernel
theorem d_M_level_42 : decode b_M_level 42 = .ok (.iaload, 1) := by decide +kernel
theorem d_M_level_43 : decode b_M_level 43 = .ok (.iastore, 1) := by decide +kernel
theorem d_M_level_44 : decode b_M_level 44 = .ok (.iinc 2 1, 3) := by decide +kernel
theorem d_M_level_47 : decode b_M_level 47 = .ok (.goto (-26), 3) := by decide +kernel
theorem d_M_level_50 : decode b_M_level 50 = .ok (.iconst 0, 1) := by decide +kernel
theorem d_M_level_51 : decode b_M_level 51 = .ok (.istore_n 2, 1) := by decide +kernel
theorem d_M_level_52 : decode b_M_level 52 = .ok (.iload_n 2, 1) := by decide +kernel
theorem d_M_level_53 : decode b_M_level 53 = .ok (.aload_n 0, 1) := by decide +kernel
theorem d_M_level_54 : decode b_M_level 54 = .ok (.getfield 65, 3) := by decide +kernel
theorem d_M_level_57 : decode b_M_level 57 = .ok (.if_icmp .ge 41, 3) := by decide +kernel
theorem d_M_level_60 : decode b_M_level 60 = .ok (.aload_n 0, 1) := by decide +kernel
theorem d_M_level_61 : decode b_M_level 61 = .ok (.getfield 19, 3) := by decide +kernel
theorem d_M_level_64 : decode b_M_level 64 = .ok (.bipush 24, 2) := by decide +kernel
theorem d_M_level_66 : decode b_M_level 66 = .ok (.iload_n 2, 1) := by decide +kernel
theorem d_M_level_67 : decode b_M_level 67 = .ok (.imul, 1) := by decide +kernel
theorem d_M_level_68 : decode b_M_level 68 = .ok (.aload_n 0, 1) := by decide +kernel
theorem d_M_level_69 : decode b_M_level 69 = .ok (.getfield 47, 3) := by decide +kernel
theorem d_M_level_72 : decode b_M_level 72 = .ok (.iload_n 2, 1) := by decide +kernel
theorem d_M_level_73 : decode b_M_level 73 = .ok (.iaload, 1) := by decide +kernel
theorem d_M_level_74 : decode b_M_level 74 = .ok (.iadd, 1) := by decide +kernel
theorem d_M_level_75 : decode b_M_level 75 = .ok (.baload, 1) := by decide +kernel
theorem d_M_level_76 : decode b_M_level 76 = .ok (.ifCond .ne 5, 3) := by decide +kernel
theorem d_M_level_79 : decode b_M_level 79 = .ok (.iload_n 2, 1) := by decide +kernel
theorem d_M_level_80 : decode b_M_level 80 = .ok (.ireturn, 1) := by decide +kernel
theorem d_M_level_81 : decode b_M_level 81 = .ok (.aload_n 0, 1) := by decide +kernel
theorem d_M_level_82 : decode b_M_level 82 = .ok (.iload_n 2, 1) := by decide +kernel
theorem d_M_level_83 : decode b_M_level 83 = .ok (.aload_n 0, 1) := by decide +kernel
theorem d_M_level_84 : decode b_M_level 84 = .ok (.getfield 47, 3) := by decide +kernel
theorem d_M_level_87 : decode b_M_level 87 = .ok (.iload_n 2, 1) := by decide +kernel
theorem d_M_level_88 : decode b_M_level 88 = .ok (.iaload, 1) := by decide +kernel
theorem d_M_level_89 : decode b_M_level 89 = .ok (.invokevirtual 122, 3) := by decide +kernel
theorem d_M_level_92 : decode b_M_level 92 = .ok (.iinc 2 1, 3) := by decide +kernel
theorem d_M_level_95 : decode b_M_level 95 = .ok (.goto (-43), 3) := by decide +kernel
theorem d_M_level_98 : decode b_M_level 98 = .ok (.aload_n 0, 1) := by decide +kernel
theorem d_M_level_99 : decode b_M_level 99 = .ok (.getfield 65, 3) := by decide +kernel
theorem d_M_level_102 : decode b_M_level 102 = .ok (.ireturn, 1) := by decide +kernel
theorem d_M_member_0 : decode b_M_member 0 = .ok (.aload_n 0, 1) := by decide +kernel
theorem d_M_member_1 : decode b_M_member 1 = .ok (.iload_n 1, 1) := by decide +kernel
theorem d_M_member_2 : decode b_M_member 2 = .ok (.invokevirtual 158, 3) := by decide +kernel
theorem d_M_member_5 : decode b_M_member 5 = .ok (.istore_n 2, 1) := by decide +kernel
theorem d_M_member_6 : decode b_M_member 6 = .ok (.iload_n 2, 1) := by decide +kernel
theorem d_M_member_7 : decode b_M_member 7 = .ok (.ifCond .ge 7, 3) := by decide +kernel
theorem d_M_member_10 : decode b_M_member 10 = .ok (.iconst (-1), 1) := by decide +kernel
theorem d_M_member_11 : decode b_M_member 11 = .ok (.goto 16, 3) := by decide +kernel
theorem d_M_member_14 : decode b_M_member 14 = .ok (.iload_n 2, 1) := by decide +kernel
theorem d_M_member_15 : decode b_M_member 15 = .ok (.aload_n 0, 1) := by decide +kernel
theorem d_M_member_16 : decode b_M_member 16 = .ok (.getfield 65, 3) := by decide +kernel
theorem d_M_member_19 : decode b_M_member 19 = .ok (.if_icmp .ne 7, 3) := by decide +kernel
theorem d_M_member_22 : decode b_M_member 22 = .ok (.iconst 1, 1) := by decide +kernel
theorem d_M_member_23 : decode b_M_member 23 = .ok (.goto 4, 3) := by decide +kernel
theorem d_M_member_26 : decode b_M_member 26 = .ok (.iconst 0, 1) := by decide +kernel
theorem d_M_member_27 : decode b_M_member 27 = .ok (.ireturn, 1) := by decide +kernel
theorem d_M_roundOf_0 : decode b_M_roundOf 0 = .ok (.iconst 1, 1) := by decide +kernel
theorem d_M_roundOf_1 : decode b_M_roundOf 1 = .ok (.istore_n 3, 1) := by decide +kernel
theorem d_M_roundOf_2 : decode b_M_roundOf 2 = .ok (.aload_n 0, 1) := by decide +kernel
theorem d_M_roundOf_3 : decode b_M_roundOf 3 = .ok (.getfield 13, 3) := by decide +kernel
theorem d_M_roundOf_6 : decode b_M_roundOf 6 = .ok (.bipush 24, 2) := by decide +kernel
theorem d_M_roundOf_8 : decode b_M_roundOf 8 = .ok (.iload_n 1, 1) := by decide +kernel
theorem d_M_roundOf_9 : decode b_M_roundOf 9 = .ok (.imul, 1) := by decide +kernel
theorem d_M_roundOf_10 : decode b_M_roundOf 10 = .ok (.iload_n 2, 1) := by decide +kernel
theorem d_M_roundOf_11 : decode b_M_roundOf 11 = .ok (.iadd, 1) := by decide +kernel
theorem d_M_roundOf_12 : decode b_M_roundOf 12 = .ok (.iaload, 1) := by decide +kernel
theorem d_M_roundOf_13 : decode b_M_roundOf 13 = .ok (.istore 4, 2) := by decide +kernel
theorem d_M_roundOf_15 : decode b_M_roundOf 15 = .ok (.iload 4, 2) := by decide +kernel
theorem d_M_roundOf_17 : decode b_M_roundOf 17 = .ok (.iload_n 2, 1) := by decide +kernel
theorem d_M_roundOf_18 : decode b_M_roundOf 18 = .ok (.if_icmp .eq 23, 3) := by decide +kernel
theorem d_M_roundOf_21 : decode b_M_roundOf 21 = .ok (.iinc 3 1, 3) := by decide +kernel
theorem d_M_roundOf_24 : decode b_M_roundOf 24 = .ok (.aload_n 0, 1) := by decide +kernel
theorem d_M_roundOf_25 : decode b_M_roundOf 25 = .ok (.getfield 13, 3) := by decide +kernel
theorem d_M_roundOf_28 : decode b_M_roundOf 28 = .ok (.bipush 24, 2) := by decide +kernel
theorem d_M_roundOf_30 : decode b_M_roundOf 30 = .ok (.iload_n 1, 1) := by decide +kernel
theorem d_M_roundOf_31 : decode b_M_roundOf 31 = .ok (.imul, 1) := by decide +kernel
theorem d_M_roundOf_32 : decode b_M_roundOf 32 = .ok (.iload 4, 2) := by decide +kernel
theorem d_M_roundOf_34 : decode b_M_roundOf 34 = .ok (.iadd, 1) := by decide +kernel
theorem d_M_roundOf_35 : decode b_M_roundOf 35 = .ok (.iaload, 1) := by decide +kernel
theorem d_M_roundOf_36 : decode b_M_roundOf 36 = .ok (.istore 4, 2) := by decide +kernel
theorem d_M_roundOf_38 : decode b_M_roundOf 38 = .ok (.goto (-23), 3) := by decide +kernel
theorem d_M_roundOf_41 : decode b_M_roundOf 41 = .ok (.iload_n 3, 1) := by decide +kernel
theorem d_M_roundOf_42 : decode b_M_roundOf 42 = .ok (.ireturn, 1) := by decide +kernel
theorem d_M_parity_0 : decode b_M_parity 0 = .ok (.aload_n 0, 1) := by decide +kernel
theorem d_M_parity_1 : decode b_M_parity 1 = .ok (.iconst 0, 1) := by decide +kernel
theorem d_M_parity_2 : decode b_M_parity 2 = .ok (.putfield 69, 3) := by decide +kernel
theorem d_M_parity_5 : decode b_M_parity 5 = .ok (.aload_n 0, 1) := by decide +kernel
theorem d_M_parity_6 : decode b_M_parity 6 = .ok (.iload_n 1, 1) := by decide +kernel
theorem d_M_parity_7 : decode b_M_parity 7 = .ok (.invokevirtual 86, 3) := by decide +kernel
theorem d_M_parity_10 : decode b_M_parity 10 = .ok (.ifCond .ne 5, 3) := by decide +kernel
theorem d_M_parity_13 : decode b_M_parity 13 = .ok (.iconst (-1), 1) := by decide +kernel
theorem d_M_parity_14 : decode b_M_parity 14 = .ok (.ireturn, 1) := by decide +kernel
theorem d_M_parity_15 : decode b_M_parity 15 = .ok (.iconst 0, 1) := by decide +kernel
theorem d_M_parity_16 : decode b_M_parity 16 = .ok (.istore_n 2, 1) := by decide +kernel
theorem d_M_parity_17 : decode b_M_parity 17 = .ok (.iconst 0, 1) := by decide +kernel
theorem d_M_parity_18 : decode b_M_parity 18 = .ok (.istore_n 3, 1) := by decide +kernel
theorem d_M_parity_19 : decode b_M_parity 19 = .ok (.iload_n 3, 1) := by decide +kernel
theorem d_M_parity_20 : decode b_M_parity 20 = .ok (.aload_n 0, 1) := by decide +kernel
theorem d_M_parity_21 : decode b_M_parity 21 = .ok (.getfield 65, 3) := by decide +kernel
theorem d_M_parity_24 : decode b_M_parity 24 = .ok (.if_icmp .ge 63, 3) := by decide +kernel
theorem d_M_parity_27 : decode b_M_parity 27 = .ok (.iload_n 3, 1) := by decide +kernel
theorem d_M_parity_28 : decode b_M_parity 28 = .ok (.iconst 1, 1) := by decide +kernel
theorem d_M_parity_29 : decode b_M_parity 29 = .ok (.iadd, 1) := by decide +kernel
theorem d_M_parity_30 : decode b_M_parity 30 = .ok (.istore 4, 2) := by decide +kernel
theorem d_M_parity_32 : decode b_M_parity 32 = .ok (.iload 4, 2) := by decide +kernel
theorem d_M_parity_34 : decode b_M_parity 34 = .ok (.aload_n 0, 1) := by decide +kernel
theorem d_M_parity_35 : decode b_M_parity 35 = .ok (.getfield 65, 3) := by decide +kernel
theorem d_M_parity_38 : decode b_M_parity 38 = .ok (.if_icmp .ge 43, 3) := by decide +kernel
theorem d_M_parity_41 : decode b_M_parity 41 = .ok (.iload_n 2, 1) := by decide +kernel
theorem d_M_parity_42 : decode b_M_parity 42 = .ok (.aload_n 0, 1) := by decide +kernel
theorem d_M_parity_43 : decode b_M_parity 43 = .ok (.getfield 13, 3) := by decide +kernel
theorem d_M_parity_46 : decode b_M_parity 46 = .ok (.bipush 24, 2) := by decide +kernel
theorem d_M_parity_48 : decode b_M_parity 48 = .ok (.iload_n 1, 1) := by decide +kernel
theorem d_M_parity_49 : decode b_M_parity 49 = .ok (.imul, 1) := by decide +kernel
theorem d_M_parity_50 : decode b_M_parity 50 = .ok (.iload_n 3, 1) := by decide +kernel
theorem d_M_parity_51 : decode b_M_parity 51 = .ok (.iadd, 1) := by decide +kernel
theorem d_M_parity_52 : decode b_M_parity 52 = .ok (.iaload, 1) := by decide +kernel
theorem d_M_parity_53 : decode b_M_parity 53 = .ok (.aload_n 0, 1) := by decide +kernel
theorem d_M_parity_54 : decode b_M_parity 54 = .ok (.getfield 13, 3) := by decide +kernel
theorem d_M_parity_57 : decode b_M_parity 57 = .ok (.bipush 24, 2) := by decide +kernel
theorem d_M_parity_59 : decode b_M_parity 59 = .ok (.iload_n 1, 1) := by decide +kernel
theorem d_M_parity_60 : decode b_M_parity 60 = .ok (.imul, 1) := by decide +kernel
theorem d_M_parity_61 : decode b_M_parity 61 = .ok (.iload 4, 2) := by decide +kernel
theorem d_M_parity_63 : decode b_M_parity 63 = .ok (.iadd, 1) := by decide +kernel
theorem d_M_parity_64 : decode b_M_parity 64 = .ok (.iaload, 1) := by decide +kernel
theorem d_M_parity_65 : decode b_M_parity 65 = .ok (.if_icmp .le 7, 3) := by decide +kernel
theorem d_M_parity_68 : decode b_M_parity 68 = .ok (.iconst 1, 1) := by decide +kernel
theorem d_M_parity_69 : decode b_M_parity 69 = .ok (.goto 4, 3) := by decide +kernel
theorem d_M_parity_72 : decode b_M_parity 72 = .ok (.iconst 0, 1) := by decide +kernel
theorem d_M_parity_73 : decode b_M_parity 73 = .ok (.iadd, 1) := by decide +kernel
theorem d_M_parity_74 : decode b_M_parity 74 = .ok (.istore_n 2, 1) := by decide +kernel
theorem d_M_parity_75 : decode b_M_parity 75 = .ok (.iinc 4 1, 3) := by decide +kernel
theorem d_M_parity_78 : decode b_M_parity 78 = .ok (.goto (-46), 3) := by decide +kernel
theorem d_M_parity_81 : decode b_M_parity 81 = .ok (.iinc 3 1, 3) := by decide +kernel
theorem d_M_parity_84 : decode b_M_parity 84 = .ok (.goto (-65), 3) := by decide +kernel
theorem d_M_parity_87 : decode b_M_parity 87 = .ok (.iload_n 2, 1) := by decide +kernel
theorem d_M_parity_88 : decode b_M_parity 88 = .ok (.iconst 2, 1) := by decide +kernel
theorem d_M_parity_89 : decode b_M_parity 89 = .ok (.irem, 1) := by decide +kernel
theorem d_M_parity_90 : decode b_M_parity 90 = .ok (.ireturn, 1) := by decide +kernel
theorem d_M_times_0 : decode b_M_times 0 = .ok (.aload_n 0, 1) := by decide +kernel
theorem d_M_times_1 : decode b_M_times 1 = .ok (.iconst 0, 1) := by decide +kernel
theorem d_M_times_2 : decode b_M_times 2 = .ok (.putfield 69, 3) := by decide +kernel
theorem d_M_times_5 : decode b_M_times 5 = .ok (.aload_n 0, 1) := by decide +kernel
theorem d_M_times_6 : decode b_M_times 6 = .ok (.iload_n 1, 1) := by decide +kernel
theorem d_M_times_7 : decode b_M_times 7 = .ok (.invokevirtual 86, 3) := by decide +kernel
theorem d_M_times_10 : decode b_M_times 10 = .ok (.ifCond .ne 5, 3) := by decide +kernel
theorem d_M_times_13 : decode b_M_times 13 = .ok (.lconst 0, 1) := by decide +kernel
theorem d_M_times_14 : decode b_M_times 14 = .ok (.lreturn, 1) := by decide +kernel
theorem d_M_times_15 : decode b_M_times 15 = .ok (.lconst 1, 1) := by decide +kernel
theorem d_M_times_16 : decode b_M_times 16 = .ok (.lstore_n 2, 1) := by decide +kernel
theorem d_M_times_17 : decode b_M_times 17 = .ok (.iconst 0, 1) := by decide +kernel
theorem d_M_times_18 : decode b_M_times 18 = .ok (.istore 4, 2) := by decide +kernel
theorem d_M_times_20 : decode b_M_times 20 = .ok (.iload 4, 2) := by decide +kernel
theorem d_M_times_22 : decode b_M_times 22 = .ok (.ifCond .ne 67, 3) := by decide +kernel
theorem d_M_times_25 : decode b_M_times 25 = .ok (.iconst 1, 1) := by decide +kernel
theorem d_M_times_26 : decode b_M_times 26 = .ok (.istore 4, 2) := by decide +kernel
theorem d_M_times_28 : decode b_M_times 28 = .ok (.iconst 0, 1) := by decide +kernel
theorem d_M_times_29 : decode b_M_times 29 = .ok (.istore 5, 2) := by decide +kernel
theorem d_M_times_31 : decode b_M_times 31 = .ok (.iload 5, 2) := by decide +kernel
theorem d_M_times_33 : decode b_M_times 33 = .ok (.aload_n 0, 1) := by decide +kernel
theorem d_M_times_34 : decode b_M_times 34 = .ok (.getfield 65, 3) := by decide +kernel
theorem d_M_times_37 : decode b_M_times 37 = .ok (.if_icmp .ge 36, 3) := by decide +kernel
theorem d_M_times_40 : decode b_M_times 40 = .ok (.iload 4, 2) := by decide +kernel
theorem d_M_times_42 : decode b_M_times 42 = .ok (.ifCond .eq 22, 3) := by decide +kernel
theorem d_M_times_45 : decode b_M_times 45 = .ok (.lload_n 2, 1) := by decide +kernel
theorem d_M_times_46 : decode b_M_times 46 = .ok (.aload_n 0, 1) := by decide +kernel
theorem d_M_times_47 : decode b_M_times 47 = .ok (.iload_n 1, 1) := by decide +kernel
theorem d_M_times_48 : decode b_M_times 48 = .ok (.iload 5, 2) := by decide +kernel
theorem d_M_times_50 : decode b_M_times 50 = .ok (.invokevirtual 161, 3) := by decide +kernel
theorem d_M_times_53 : decode b_M_times 53 = .ok (.i2l, 1) := by decide +kernel
theorem d_M_times_54 : decode b_M_times 54 = .ok (.lrem, 1) := by decide +kernel
theorem d_M_times_55 : decode b_M_times 55 = .ok (.lconst 0, 1) := by decide +kernel
theorem d_M_times_56 : decode b_M_times 56 = .ok (.lcmp, 1) := by decide +kernel
theorem d_M_times_57 : decode b_M_times 57 = .ok (.ifCond .ne 7, 3) := by decide +kernel
theorem d_M_times_60 : decode b_M_times 60 = .ok (.iconst 1, 1) := by decide +kernel
theorem d_M_times_61 : decode b_M_times 61 = .ok (.goto 4, 3) := by decide +kernel
theorem d_M_times_64 : decode b_M_times 64 = .ok (.iconst 0, 1) := by decide +kernel
theorem d_M_times_65 : decode b_M_times 65 = .ok (.istore 4, 2) := by decide +kernel
theorem d_M_times_67 : decode b_M_times 67 = .ok (.iinc 5 1, 3) := by decide +kernel
theorem d_M_times_70 : decode b_M_times 70 = .ok (.goto (-39), 3) := by decide +kernel
theorem d_M_times_73 : decode b_M_times 73 = .ok (.lload_n 2, 1) := by decide +kernel
theorem d_M_times_74 : decode b_M_times 74 = .ok (.iload 4, 2) := by decide +kernel
theorem d_M_times_76 : decode b_M_times 76 = .ok (.ifCond .eq 7, 3) := by decide +kernel
theorem d_M_times_79 : decode b_M_times 79 = .ok (.lconst 0, 1) := by decide +kernel
theorem d_M_times_80 : decode b_M_times 80 = .ok (.goto 4, 3) := by decide +kernel
theorem d_M_times_83 : decode b_M_times 83 = .ok (.lconst 1, 1) := by decide +kernel
theorem d_M_times_84 : decode b_M_times 84 = .ok (.ladd, 1) := by decide +kernel
theorem d_M_times_85 : decode b_M_times 85 = .ok (.lstore_n 2, 1) := by decide +kernel
theorem d_M_times_86 : decode b_M_times 86 = .ok (.goto (-66), 3) := by decide +kernel
theorem d_M_times_89 : decode b_M_times 89 = .ok (.lload_n 2, 1) := by decide +kernel
theorem d_M_times_90 : decode b_M_times 90 = .ok (.lreturn, 1) := by decide +kernel
