theorem d_L_cell_0 : decode b_L_cell 0 = .ok (.iload_n 1, 1) := by decide +kernel
theorem d_L_cell_1 : decode b_L_cell 1 = .ok (.aload_n 0, 1) := by decide +kernel
theorem d_L_cell_2 : decode b_L_cell 2 = .ok (.arraylength, 1) := by decide +kernel
theorem d_L_cell_3 : decode b_L_cell 3 = .ok (.if_icmp .ge 9, 3) := by decide +kernel
theorem d_L_cell_6 : decode b_L_cell 6 = .ok (.aload_n 0, 1) := by decide +kernel
theorem d_L_cell_7 : decode b_L_cell 7 = .ok (.iload_n 1, 1) := by decide +kernel
theorem d_L_cell_8 : decode b_L_cell 8 = .ok (.iaload, 1) := by decide +kernel
theorem d_L_cell_9 : decode b_L_cell 9 = .ok (.goto 4, 3) := by decide +kernel
theorem d_L_cell_12 : decode b_L_cell 12 = .ok (.iconst 0, 1) := by decide +kernel
theorem d_L_cell_13 : decode b_L_cell 13 = .ok (.ireturn, 1) := by decide +kernel
theorem d_L_law_0 : decode b_L_law 0 = .ok (.new 7, 3) := by decide +kernel
theorem d_L_law_3 : decode b_L_law 3 = .ok (.dup, 1) := by decide +kernel
theorem d_L_law_4 : decode b_L_law 4 = .ok (.aload_n 0, 1) := by decide +kernel
theorem d_L_law_5 : decode b_L_law 5 = .ok (.iconst 0, 1) := by decide +kernel
theorem d_L_law_6 : decode b_L_law 6 = .ok (.invokestatic 9, 3) := by decide +kernel
theorem d_L_law_9 : decode b_L_law 9 = .ok (.invokespecial 15, 3) := by decide +kernel
theorem d_L_law_12 : decode b_L_law 12 = .ok (.astore_n 1, 1) := by decide +kernel
theorem d_L_law_13 : decode b_L_law 13 = .ok (.new 18, 3) := by decide +kernel
theorem d_L_law_16 : decode b_L_law 16 = .ok (.dup, 1) := by decide +kernel
theorem d_L_law_17 : decode b_L_law 17 = .ok (.aload_n 0, 1) := by decide +kernel
theorem d_L_law_18 : decode b_L_law 18 = .ok (.iconst 0, 1) := by decide +kernel
theorem d_L_law_19 : decode b_L_law 19 = .ok (.invokestatic 9, 3) := by decide +kernel
theorem d_L_law_22 : decode b_L_law 22 = .ok (.invokespecial 20, 3) := by decide +kernel
theorem d_L_law_25 : decode b_L_law 25 = .ok (.astore_n 2, 1) := by decide +kernel
theorem d_L_law_26 : decode b_L_law 26 = .ok (.iconst 1, 1) := by decide +kernel
theorem d_L_law_27 : decode b_L_law 27 = .ok (.istore_n 3, 1) := by decide +kernel
theorem d_L_law_28 : decode b_L_law 28 = .ok (.iload_n 3, 1) := by decide +kernel
theorem d_L_law_29 : decode b_L_law 29 = .ok (.aload_n 0, 1) := by decide +kernel
theorem d_L_law_30 : decode b_L_law 30 = .ok (.arraylength, 1) := by decide +kernel
theorem d_L_law_31 : decode b_L_law 31 = .ok (.iconst 5, 1) := by decide +kernel
theorem d_L_law_32 : decode b_L_law 32 = .ok (.isub, 1) := by decide +kernel
theorem d_L_law_33 : decode b_L_law 33 = .ok (.if_icmp .gt 616, 3) := by decide +kernel
theorem d_L_law_36 : decode b_L_law 36 = .ok (.aload_n 0, 1) := by decide +kernel
theorem d_L_law_37 : decode b_L_law 37 = .ok (.iload_n 3, 1) := by decide +kernel
theorem d_L_law_38 : decode b_L_law 38 = .ok (.iaload, 1) := by decide +kernel
theorem d_L_law_39 : decode b_L_law 39 = .ok (.bipush 31, 2) := by decide +kernel
theorem d_L_law_41 : decode b_L_law 41 = .ok (.iand, 1) := by decide +kernel
theorem d_L_law_42 : decode b_L_law 42 = .ok (.tableswitch 601 0 17 #[86, 99, 142, 155, 178, 201, 224, 257, 280, 313, 326, 359, 402, 475, 508, 531, 554, 577], 86) := by decide +kernel
theorem d_L_law_128 : decode b_L_law 128 = .ok (.aload_n 1, 1) := by decide +kernel
theorem d_L_law_129 : decode b_L_law 129 = .ok (.invokevirtual 21, 3) := by decide +kernel
theorem d_L_law_132 : decode b_L_law 132 = .ok (.aload_n 2, 1) := by decide +kernel
theorem d_L_law_133 : decode b_L_law 133 = .ok (.invokevirtual 25, 3) := by decide +kernel
theorem d_L_law_136 : decode b_L_law 136 = .ok (.if_icmp .eq 507, 3) := by decide +kernel
theorem d_L_law_139 : decode b_L_law 139 = .ok (.iconst 0, 1) := by decide +kernel
theorem d_L_law_140 : decode b_L_law 140 = .ok (.ireturn, 1) := by decide +kernel
theorem d_L_law_141 : decode b_L_law 141 = .ok (.aload_n 1, 1) := by decide +kernel
theorem d_L_law_142 : decode b_L_law 142 = .ok (.aload_n 0, 1) := by decide +kernel
theorem d_L_law_143 : decode b_L_law 143 = .ok (.iload_n 3, 1) := by decide +kernel
theorem d_L_law_144 : decode b_L_law 144 = .ok (.iconst 1, 1) := by decide +kernel
theorem d_L_law_145 : decode b_L_law 145 = .ok (.iadd, 1) := by decide +kernel
theorem d_L_law_146 : decode b_L_law 146 = .ok (.iaload, 1) := by decide +kernel
theorem d_L_law_147 : decode b_L_law 147 = .ok (.aload_n 0, 1) := by decide +kernel
theorem d_L_law_148 : decode b_L_law 148 = .ok (.iload_n 3, 1) := by decide +kernel
theorem d_L_law_149 : decode b_L_law 149 = .ok (.iconst 2, 1) := by decide +kernel
theorem d_L_law_150 : decode b_L_law 150 = .ok (.iadd, 1) := by decide +kernel
theorem d_L_law_151 : decode b_L_law 151 = .ok (.iaload, 1) := by decide +kernel
theorem d_L_law_152 : decode b_L_law 152 = .ok (.aload_n 0, 1) := by decide +kernel
theorem d_L_law_153 : decode b_L_law 153 = .ok (.iload_n 3, 1) := by decide +kernel
theorem d_L_law_154 : decode b_L_law 154 = .ok (.iconst 3, 1) := by decide +kernel
theorem d_L_law_155 : decode b_L_law 155 = .ok (.iadd, 1) := by decide +kernel
theorem d_L_law_156 : decode b_L_law 156 = .ok (.iaload, 1) := by decide +kernel
theorem d_L_law_157 : decode b_L_law 157 = .ok (.invokevirtual 26, 3) := by decide +kernel
theorem d_L_law_160 : decode b_L_law 160 = .ok (.aload_n 2, 1) := by decide +kernel
theorem d_L_law_161 : decode b_L_law 161 = .ok (.aload_n 0, 1) := by decide +kernel
theorem d_L_law_162 : decode b_L_law 162 = .ok (.iload_n 3, 1) := by decide +kernel
theorem d_L_law_163 : decode b_L_law 163 = .ok (.iconst 1, 1) := by decide +kernel
theorem d_L_law_164 : decode b_L_law 164 = .ok (.iadd, 1) := by decide +kernel
theorem d_L_law_165 : decode b_L_law 165 = .ok (.iaload, 1) := by decide +kernel
theorem d_L_law_166 : decode b_L_law 166 = .ok (.aload_n 0, 1) := by decide +kernel
theorem d_L_law_167 : decode b_L_law 167 = .ok (.iload_n 3, 1) := by decide +kernel
theorem d_L_law_168 : decode b_L_law 168 = .ok (.iconst 2, 1) := by decide +kernel
theorem d_L_law_169 : decode b_L_law 169 = .ok (.iadd, 1) := by decide +kernel
theorem d_L_law_170 : decode b_L_law 170 = .ok (.iaload, 1) := by decide +kernel
theorem d_L_law_171 : decode b_L_law 171 = .ok (.aload_n 0, 1) := by decide +kernel
theorem d_L_law_172 : decode b_L_law 172 = .ok (.iload_n 3, 1) := by decide +kernel
theorem d_L_law_173 : decode b_L_law 173 = .ok (.iconst 3, 1) := by decide +kernel
theorem d_L_law_174 : decode b_L_law 174 = .ok (.iadd, 1) := by decide +kernel
theorem d_L_law_175 : decode b_L_law 175 = .ok (.iaload, 1) := by decide +kernel
theorem d_L_law_176 : decode b_L_law 176 = .ok (.invokevirtual 30, 3) := by decide +kernel
theorem d_L_law_179 : decode b_L_law 179 = .ok (.if_icmp .eq 464, 3) := by decide +kernel
theorem d_L_law_182 : decode b_L_law 182 = .ok (.iconst 0, 1) := by decide +kernel
theorem d_L_law_183 : decode b_L_law 183 = .ok (.ireturn, 1) := by decide +kernel
theorem d_L_law_184 : decode b_L_law 184 = .ok (.aload_n 1, 1) := by decide +kernel
theorem d_L_law_185 : decode b_L_law 185 = .ok (.invokevirtual 31, 3) := by decide +kernel
theorem d_L_law_188 : decode b_L_law 188 = .ok (.aload_n 2, 1) := by decide +kernel
theorem d_L_law_189 : decode b_L_law 189 = .ok (.invokevirtual 34, 3) := by decide +kernel
theorem d_L_law_192 : decode b_L_law 192 = .ok (.if_icmp .eq 451, 3) := by decide +kernel
theorem d_L_law_195 : decode b_L_law 195 = .ok (.iconst 0, 1) := by decide +kernel
theorem d_L_law_196 : decode b_L_law 196 = .ok (.ireturn, 1) := by decide +kernel
theorem d_L_law_197 : decode b_L_law 197 = .ok (.aload_n 1, 1) := by decide +kernel
theorem d_L_law_198 : decode b_L_law 198 = .ok (.aload_n 0, 1) := by decide +kernel
theorem d_L_law_199 : decode b_L_law 199 = .ok (.iload_n 3, 1) := by decide +kernel
theorem d_L_law_200 : decode b_L_law 200 = .ok (.iconst 1, 1) := by decide +kernel
theorem d_L_law_201 : decode b_L_law 201 = .ok (.iadd, 1) := by decide +kernel
theorem d_L_law_202 : decode b_L_law 202 = .ok (.iaload, 1) := by decide +kernel
theorem d_L_law_203 : decode b_L_law 203 = .ok (.invokevirtual 35, 3) := by decide +kernel
theorem d_L_law_206 : decode b_L_law 206 = .ok (.aload_n 2, 1) := by decide +kernel
theorem d_L_law_207 : decode b_L_law 207 = .ok (.aload_n 0, 1) := by decide +kernel
theorem d_L_law_208 : decode b_L_law 208 = .ok (.iload_n 3, 1) := by decide +kernel
theorem d_L_law_209 : decode b_L_law 209 = .ok (.iconst 1, 1) := by decide +kernel
theorem d_L_law_210 : decode b_L_law 210 = .ok (.iadd, 1) := by decide +kernel
theorem d_L_law_211 : decode b_L_law 211 = .ok (.iaload, 1) := by decide +kernel
theorem d_L_law_212 : decode b_L_law 212 = .ok (.invokevirtual 39, 3) := by decide +kernel
theorem d_L_law_215 : decode b_L_law 215 = .ok (.if_icmp .eq 428, 3) := by decide +kernel
theorem d_L_law_218 : decode b_L_law 218 = .ok (.iconst 0, 1) := by decide +kernel
theorem d_L_law_219 : decode b_L_law 219 = .ok (.ireturn, 1) := by decide +kernel
theorem d_L_law_220 : decode b_L_law 220 = .ok (.aload_n 1, 1) := by decide +kernel
theorem d_L_law_221 : decode b_L_law 221 = .ok (.aload_n 0, 1) := by decide +kernel
theorem d_L_law_222 : decode b_L_law 222 = .ok (.iload_n 3, 1) := by decide +kernel
theorem d_L_law_223 : decode b_L_law 223 = .ok (.iconst 1, 1) := by decide +kernel
theorem d_L_law_224 : decode b_L_law 224 = .ok (.iadd, 1) := by decide +kernel
theorem d_L_law_225 : decode b_L_law 225 = .ok (.iaload, 1) := by decide +kernel
theorem d_L_law_226 : decode b_L_law 226 = .ok (.invokevirtual 40, 3) := by decide +kernel
theorem d_L_law_229 : decode b_L_law 229 = .ok (.aload_n 2, 1) := by decide +kernel
theorem d_L_law_230 : decode b_L_law 230 = .ok (.aload_n 0, 1) := by decide +kernel
theorem d_L_law_231 : decode b_L_law 231 = .ok (.iload_n 3, 1) := by decide +kernel
theorem d_L_law_232 : decode b_L_law 232 = .ok (.iconst 1, 1) := by decide +kernel
theorem d_L_law_233 : decode b_L_law 233 = .ok (.iadd, 1) := by decide +kernel
theorem d_L_law_234 : decode b_L_law 234 = .ok (.iaload, 1) := by decide +kernel
theorem d_L_law_235 : decode b_L_law 235 = .ok (.invokevirtual 43, 3) := by decide +kernel
theorem d_L_law_238 : decode b_L_law 238 = .ok (.if_icmp .eq 405, 3) := by decide +kernel
theorem d_L_law_241 : decode b_L_law 241 = .ok (.iconst 0, 1) := by decide +kernel
theorem d_L_law_242 : decode b_L_law 242 = .ok (.ireturn, 1) := by decide +kernel
theorem d_L_law_243 : decode b_L_law 243 = .ok (.aload_n 1, 1) := by decide +kernel
theorem d_L_law_244 : decode b_L_law 244 = .ok (.aload_n 0, 1) := by decide +kernel
theorem d_L_law_245 : decode b_L_law 245 = .ok (.iload_n 3, 1) := by decide +kernel
theorem d_L_law_246 : decode b_L_law 246 = .ok (.iconst 1, 1) := by decide +kernel
theorem d_L_law_247 : decode b_L_law 247 = .ok (.iadd, 1) := by decide +kernel
theorem d_L_law_248 : decode b_L_law 248 = .ok (.iaload, 1) := by decide +kernel
theorem d_L_law_249 : decode b_L_law 249 = .ok (.invokevirtual 44, 3) := by decide +kernel
theorem d_L_law_252 : decode b_L_law 252 = .ok (.aload_n 2, 1) := by decide +kernel
theorem d_L_law_253 : decode b_L_law 253 = .ok (.aload_n 0, 1) := by decide +kernel
theorem d_L_law_254 : decode b_L_law 254 = .ok (.iload_n 3, 1) := by decide +kernel
theorem d_L_law_255 : decode b_L_law 255 = .ok (.iconst 1, 1) := by decide +kernel
theorem d_L_law_256 : decode b_L_law 256 = .ok (.iadd, 1) := by decide +kernel
theorem d_L_law_257 : decode b_L_law 257 = .ok (.iaload, 1) := by decide +kernel
theorem d_L_law_258 : decode b_L_law 258 = .ok (.invokevirtual 47, 3) := by decide +kernel
theorem d_L_law_261 : decode b_L_law 261 = .ok (.if_icmp .eq 382, 3) := by decide +kernel
theorem d_L_law_264 : decode b_L_law 264 = .ok (.iconst 0, 1) := by decide +kernel
theorem d_L_law_265 : decode b_L_law 265 = .ok (.ireturn, 1) := by decide +kernel
theorem d_L_law_266 : decode b_L_law 266 = .ok (.aload_n 1, 1) := by decide +kernel
theorem d_L_law_267 : decode b_L_law 267 = .ok (.aload_n 0, 1) := by decide +kernel
theorem d_L_law_268 : decode b_L_law 268 = .ok (.iload_n 3, 1) := by decide +kernel
theorem d_L_law_269 : decode b_L_law 269 = .ok (.iconst 1, 1) := by decide +kernel
theorem d_L_law_270 : decode b_L_law 270 = .ok (.iadd, 1) := by decide +kernel
theorem d_L_law_271 : decode b_L_law 271 = .ok (.iaload, 1) := by decide +kernel
theorem d_L_law_272 : decode b_L_law 272 = .ok (.aload_n 0, 1) := by decide +kernel
theorem d_L_law_273 : decode b_L_law 273 = .ok (.iload_n 3, 1) := by decide +kernel
theorem d_L_law_274 : decode b_L_law 274 = .ok (.iconst 2, 1) := by decide +kernel
theorem d_L_law_275 : decode b_L_law 275 = .ok (.iadd, 1) := by decide +kernel
theorem d_L_law_276 : decode b_L_law 276 = .ok (.iaload, 1) := by decide +kernel
theorem d_L_law_277 : decode b_L_law 277 = .ok (.invokevirtual 48, 3) := by decide +kernel
theorem d_L_law_280 : decode b_L_law 280 = .ok (.aload_n 2, 1) := by decide +kernel
theorem d_L_law_281 : decode b_L_law 281 = .ok (.aload_n 0, 1) := by decide +kernel
theorem d_L_law_282 : decode b_L_law 282 = .ok (.iload_n 3, 1) := by decide +kernel
theorem d_L_law_283 : decode b_L_law 283 = .ok (.iconst 1, 1) := by decide +kernel
theorem d_L_law_284 : decode b_L_law 284 = .ok (.iadd, 1) := by decide +kernel
theorem d_L_law_285 : decode b_L_law 285 = .ok (.iaload, 1) := by decide +kernel
theorem d_L_law_286 : decode b_L_law 286 = .ok (.aload_n 0, 1) := by decide +kernel
theorem d_L_law_287 : decode b_L_law 287 = .ok (.iload_n 3, 1) := by decide +kernel
theorem d_L_law_288 : decode b_L_law 288 = .ok (.iconst 2, 1) := by decide +kernel
theorem d_L_law_289 : decode b_L_law 289 = .ok (.iadd, 1) := by decide +kernel
theorem d_L_law_290 : decode b_L_law 290 = .ok (.iaload, 1) := by decide +kernel
theorem d_L_law_291 : decode b_L_law 291 = .ok (.invokevirtual 52, 3) := by decide +kernel
theorem d_L_law_294 : decode b_L_law 294 = .ok (.if_icmp .eq 349, 3) := by decide +kernel
theorem d_L_law_297 : decode b_L_law 297 = .ok (.iconst 0, 1) := by decide +kernel
theorem d_L_law_298 : decode b_L_law 298 = .ok (.ireturn, 1) := by decide +kernel
theorem d_L_law_299 : decode b_L_law 299 = .ok (.aload_n 1, 1) := by decide +kernel
theorem d_L_law_300 : decode b_L_law 300 = .ok (.aload_n 0, 1) := by decide +kernel
theorem d_L_law_301 : decode b_L_law 301 = .ok (.iload_n 3, 1) := by decide +kernel
theorem d_L_law_302 : decode b_L_law 302 = .ok (.iconst 1, 1) := by decide +kernel
theorem d_L_law_303 : decode b_L_law 303 = .ok (.iadd, 1) := by decide +kernel
theorem d_L_law_304 : decode b_L_law 304 = .ok (.iaload, 1) := by decide +kernel
theorem d_L_law_305 : decode b_L_law 305 = .ok (.invokevirtual 53, 3) := by decide +kernel
theorem d_L_law_308 : decode b_L_law 308 = .ok (.aload_n 2, 1) := by decide +kernel
theorem d_L_law_309 : decode b_L_law 309 = .ok (.aload_n 0, 1) := by decide +kernel
theorem d_L_law_310 : decode b_L_law 310 = .ok (.iload_n 3, 1) := by decide +kernel
theorem d_L_law_311 : decode b_L_law 311 = .ok (.iconst 1, 1) := by decide +kernel
theorem d_L_law_312 : decode b_L_law 312 = .ok (.iadd, 1) := by decide +kernel
theorem d_L_law_313 : decode b_L_law 313 = .ok (.iaload, 1) := by decide +kernel
theorem d_L_law_314 : decode b_L_law 314 = .ok (.invokevirtual 56, 3) := by decide +kernel
theorem d_L_law_317 : decode b_L_law 317 = .ok (.if_icmp .eq 326, 3) := by decide +kernel
theorem d_L_law_320 : decode b_L_law 320 = .ok (.iconst 0, 1) := by decide +kernel
theorem d_L_law_321 : decode b_L_law 321 = .ok (.ireturn, 1) := by decide +kernel
theorem d_L_law_322 : decode b_L_law 322 = .ok (.aload_n 1, 1) := by decide +kernel
theorem d_L_law_323 : decode b_L_law 323 = .ok (.aload_n 0, 1) := by decide +kernel
theorem d_L_law_324 : decode b_L_law 324 = .ok (.iload_n 3, 1) := by decide +kernel
theorem d_L_law_325 : decode b_L_law 325 = .ok (.iconst 1, 1) := by decide +kernel
theorem d_L_law_326 : decode b_L_law 326 = .ok (.iadd, 1) := by decide +kernel
theorem d_L_law_327 : decode b_L_law 327 = .ok (.iaload, 1) := by decide +kernel
theorem d_L_law_328 : decode b_L_law 328 = .ok (.aload_n 0, 1) := by decide +kernel
theorem d_L_law_329 : decode b_L_law 329 = .ok (.iload_n 3, 1) := by decide +kernel
theorem d_L_law_330 : decode b_L_law 330 = .ok (.iconst 2, 1) := by decide +kernel
theorem d_L_law_331 : decode b_L_law 331 = .ok (.iadd, 1) := by decide +kernel
theorem d_L_law_332 : decode b_L_law 332 = .ok (.iaload, 1) := by decide +kernel
theorem d_L_law_333 : decode b_L_law 333 = .ok (.invokevirtual 57, 3) := by decide +kernel
theorem d_L_law_336 : decode b_L_law 336 = .ok (.aload_n 2, 1) := by decide +kernel
theorem d_L_law_337 : decode b_L_law 337 = .ok (.aload_n 0, 1) := by decide +kernel
theorem d_L_law_338 : decode b_L_law 338 = .ok (.iload_n 3, 1) := by decide +kernel
theorem d_L_law_339 : decode b_L_law 339 = .ok (.iconst 1, 1) := by decide +kernel
theorem d_L_law_340 : decode b_L_law 340 = .ok (.iadd, 1) := by decide +kernel
theorem d_L_law_341 : decode b_L_law 341 = .ok (.iaload, 1) := by decide +kernel
theorem d_L_law_342 : decode b_L_law 342 = .ok (.aload_n 0, 1) := by decide +kernel
theorem d_L_law_343 : decode b_L_law 343 = .ok (.iload_n 3, 1) := by decide +kernel
theorem d_L_law_344 : decode b_L_law 344 = .ok (.iconst 2, 1) := by decide +kernel
theorem d_L_law_345 : decode b_L_law 345 = .ok (.iadd, 1) := by decide +kernel
theorem d_L_law_346 : decode b_L_law 346 = .ok (.iaload, 1) := by decide +kernel
theorem d_L_law_347 : decode b_L_law 347 = .ok (.invokevirtual 60, 3) := by decide +kernel
theorem d_L_law_350 : decode b_L_law 350 = .ok (.if_icmp .eq 293, 3) := by decide +kernel
theorem d_L_law_353 : decode b_L_law 353 = .ok (.iconst 0, 1) := by decide +kernel
theorem d_L_law_354 : decode b_L_law 354 = .ok (.ireturn, 1) := by decide +kernel
theorem d_L_law_355 : decode b_L_law 355 = .ok (.aload_n 1, 1) := by decide +kernel
theorem d_L_law_356 : decode b_L_law 356 = .ok (.invokevirtual 61, 3) := by decide +kernel
theorem d_L_law_359 : decode b_L_law 359 = .ok (.aload_n 2, 1) := by decide +kernel
theorem d_L_law_360 : decode b_L_law 360 = .ok (.invokevirtual 64, 3) := by decide +kernel
theorem d_L_law_363 : decode b_L_law 363 = .ok (.if_icmp .eq 280, 3) := by decide +kernel
theorem d_L_law_366 : decode b_L_law 366 = .ok (.iconst 0, 1) := by decide +kernel
theorem d_L_law_367 : decode b_L_law 367 = .ok (.ireturn, 1) := by decide +kernel
theorem d_L_law_368 : decode b_L_law 368 = .ok (.aload_n 1, 1) := by decide +kernel
theorem d_L_law_369 : decode b_L_law 369 = .ok (.aload_n 0, 1) := by decide +kernel
theorem d_L_law_370 : decode b_L_law 370 = .ok (.iload_n 3, 1) := by decide +kernel
theorem d_L_law_371 : decode b_L_law 371 = .ok (.iconst 1, 1) := by decide +kernel
theorem d_L_law_372 : decode b_L_law 372 = .ok (.iadd, 1) := by decide +kernel
theorem d_L_law_373 : decode b_L_law 373 = .ok (.iaload, 1) := by decide +kernel
theorem d_L_law_374 : decode b_L_law 374 = .ok (.aload_n 0, 1) := by decide +kernel
theorem d_L_law_375 : decode b_L_law 375 = .ok (.iload_n 3, 1) := by decide +kernel
theorem d_L_law_376 : decode b_L_law 376 = .ok (.iconst 2, 1) := by decide +kernel
theorem d_L_law_377 : decode b_L_law 377 = .ok (.iadd, 1) := by decide +kernel
theorem d_L_law_378 : decode b_L_law 378 = .ok (.iaload, 1) := by decide +kernel
theorem d_L_law_379 : decode b_L_law 379 = .ok (.invokevirtual 65, 3) := by decide +kernel
theorem d_L_law_382 : decode b_L_law 382 = .ok (.aload_n 2, 1) := by decide +kernel
theorem d_L_law_383 : decode b_L_law 383 = .ok (.aload_n 0, 1) := by decide +kernel
theorem d_L_law_384 : decode b_L_law 384 = .ok (.iload_n 3, 1) := by decide +kernel
theorem d_L_law_385 : decode b_L_law 385 = .ok (.iconst 1, 1) := by decide +kernel
theorem d_L_law_386 : decode b_L_law 386 = .ok (.iadd, 1) := by decide +kernel
theorem d_L_law_387 : decode b_L_law 387 = .ok (.iaload, 1) := by decide +kernel
theorem d_L_law_388 : decode b_L_law 388 = .ok (.aload_n 0, 1) := by decide +kernel
theorem d_L_law_389 : decode b_L_law 389 = .ok (.iload_n 3, 1) := by decide +kernel
theorem d_L_law_390 : decode b_L_law 390 = .ok (.iconst 2, 1) := by decide +kernel
theorem d_L_law_391 : decode b_L_law 391 = .ok (.iadd, 1) := by decide +kernel
theorem d_L_law_392 : decode b_L_law 392 = .ok (.iaload, 1) := by decide +kernel
theorem d_L_law_393 : decode b_L_law 393 = .ok (.invokevirtual 69, 3) := by decide +kernel
theorem d_L_law_396 : decode b_L_law 396 = .ok (.if_icmp .eq 247, 3) := by decide +kernel
theorem d_L_law_399 : decode b_L_law 399 = .ok (.iconst 0, 1) := by decide +kernel
theorem d_L_law_400 : decode b_L_law 400 = .ok (.ireturn, 1) := by decide +kernel
theorem d_L_law_401 : decode b_L_law 401 = .ok (.aload_n 1, 1) := by decide +kernel
theorem d_L_law_402 : decode b_L_law 402 = .ok (.aload_n 0, 1) := by decide +kernel
theorem d_L_law_403 : decode b_L_law 403 = .ok (.iload_n 3, 1) := by decide +kernel
theorem d_L_law_404 : decode b_L_law 404 = .ok (.iconst 1, 1) := by decide +kernel
theorem d_L_law_405 : decode b_L_law 405 = .ok (.iadd, 1) := by decide +kernel
theorem d_L_law_406 : decode b_L_law 406 = .ok (.iaload, 1) := by decide +kernel
theorem d_L_law_407 : decode b_L_law 407 = .ok (.aload_n 0, 1) := by decide +kernel
theorem d_L_law_408 : decode b_L_law 408 = .ok (.iload_n 3, 1) := by decide +kernel
theorem d_L_law_409 : decode b_L_law 409 = .ok (.iconst 2, 1) := by decide +kernel
theorem d_L_law_410 : decode b_L_law 410 = .ok (.iadd, 1) := by decide +kernel
theorem d_L_law_411 : decode b_L_law 411 = .ok (.iaload, 1) := by decide +kernel
theorem d_L_law_412 : decode b_L_law 412 = .ok (.aload_n 0, 1) := by decide +kernel
theorem d_L_law_413 : decode b_L_law 413 = .ok (.iload_n 3, 1) := by decide +kernel
theorem d_L_law_414 : decode b_L_law 414 = .ok (.iconst 3, 1) := by decide +kernel
theorem d_L_law_415 : decode b_L_law 415 = .ok (.iadd, 1) := by decide +kernel
theorem d_L_law_416 : decode b_L_law 416 = .ok (.iaload, 1) := by decide +kernel
theorem d_L_law_417 : decode b_L_law 417 = .ok (.invokevirtual 70, 3) := by decide +kernel
theorem d_L_law_420 : decode b_L_law 420 = .ok (.aload_n 2, 1) := by decide +kernel
theorem d_L_law_421 : decode b_L_law 421 = .ok (.aload_n 0, 1) := by decide +kernel
theorem d_L_law_422 : decode b_L_law 422 = .ok (.iload_n 3, 1) := by decide +kernel
theorem d_L_law_423 : decode b_L_law 423 = .ok (.iconst 1, 1) := by decide +kernel
theorem d_L_law_424 : decode b_L_law 424 = .ok (.iadd, 1) := by decide +kernel
theorem d_L_law_425 : decode b_L_law 425 = .ok (.iaload, 1) := by decide +kernel
theorem d_L_law_426 : decode b_L_law 426 = .ok (.aload_n 0, 1) := by decide +kernel
theorem d_L_law_427 : decode b_L_law 427 = .ok (.iload_n 3, 1) := by decide +kernel
theorem d_L_law_428 : decode b_L_law 428 = .ok (.iconst 2, 1) := by decide +kernel
theorem d_L_law_429 : decode b_L_law 429 = .ok (.iadd, 1) := by decide +kernel
theorem d_L_law_430 : decode b_L_law 430 = .ok (.iaload, 1) := by decide +kernel
theorem d_L_law_431 : decode b_L_law 431 = .ok (.aload_n 0, 1) := by decide +kernel
theorem d_L_law_432 : decode b_L_law 432 = .ok (.iload_n 3, 1) := by decide +kernel
theorem d_L_law_433 : decode b_L_law 433 = .ok (.iconst 3, 1) := by decide +kernel
theorem d_L_law_434 : decode b_L_law 434 = .ok (.iadd, 1) := by decide +kernel
theorem d_L_law_435 : decode b_L_law 435 = .ok (.iaload, 1) := by decide +kernel
theorem d_L_law_436 : decode b_L_law 436 = .ok (.invokevirtual 73, 3) := by decide +kernel
theorem d_L_law_439 : decode b_L_law 439 = .ok (.if_icmp .eq 204, 3) := by decide +kernel
theorem d_L_law_442 : decode b_L_law 442 = .ok (.iconst 0, 1) := by decide +kernel
theorem d_L_law_443 : decode b_L_law 443 = .ok (.ireturn, 1) := by decide +kernel
theorem d_L_law_444 : decode b_L_law 444 = .ok (.aload_n 1, 1) := by decide +kernel
theorem d_L_law_445 : decode b_L_law 445 = .ok (.aload_n 0, 1) := by decide +kernel
theorem d_L_law_446 : decode b_L_law 446 = .ok (.iload_n 3, 1) := by decide +kernel
theorem d_L_law_447 : decode b_L_law 447 = .ok (.iconst 1, 1) := by decide +kernel
theorem d_L_law_448 : decode b_L_law 448 = .ok (.iadd, 1) := by decide +kernel
theorem d_L_law_449 : decode b_L_law 449 = .ok (.iaload, 1) := by decide +kernel
theorem d_L_law_450 : decode b_L_law 450 = .ok (.aload_n 0, 1) := by decide +kernel
theorem d_L_law_451 : decode b_L_law 451 = .ok (.iload_n 3, 1) := by decide +kernel
theorem d_L_law_452 : decode b_L_law 452 = .ok (.iconst 2, 1) := by decide +kernel
theorem d_L_law_453 : decode b_L_law 453 = .ok (.iadd, 1) := by decide +kernel
theorem d_L_law_454 : decode b_L_law 454 = .ok (.iaload, 1) := by decide +kernel
theorem d_L_law_455 : decode b_L_law 455 = .ok (.i2l, 1) := by decide +kernel
theorem d_L_law_456 : decode b_L_law 456 = .ok (.bipush 32, 2) := by decide +kernel
theorem d_L_law_458 : decode b_L_law 458 = .ok (.lshl, 1) := by decide +kernel
theorem d_L_law_459 : decode b_L_law 459 = .ok (.aload_n 0, 1) := by decide +kernel
theorem d_L_law_460 : decode b_L_law 460 = .ok (.iload_n 3, 1) := by decide +kernel
theorem d_L_law_461 : decode b_L_law 461 = .ok (.iconst 3, 1) := by decide +kernel
theorem d_L_law_462 : decode b_L_law 462 = .ok (.iadd, 1) := by decide +kernel
theorem d_L_law_463 : decode b_L_law 463 = .ok (.iaload, 1) := by decide +kernel
theorem d_L_law_464 : decode b_L_law 464 = .ok (.i2l, 1) := by decide +kernel
theorem d_L_law_465 : decode b_L_law 465 = .ok (.ldc2_w 74, 3) := by decide +kernel
theorem d_L_law_468 : decode b_L_law 468 = .ok (.land, 1) := by decide +kernel
theorem d_L_law_469 : decode b_L_law 469 = .ok (.lor, 1) := by decide +kernel
theorem d_L_law_470 : decode b_L_law 470 = .ok (.aload_n 0, 1) := by decide +kernel
theorem d_L_law_471 : decode b_L_law 471 = .ok (.iload_n 3, 1) := by decide +kernel
theorem d_L_law_472 : decode b_L_law 472 = .ok (.iconst 4, 1) := by decide +kernel
theorem d_L_law_473 : decode b_L_law 473 = .ok (.iadd, 1) := by decide +kernel
theorem d_L_law_474 : decode b_L_law 474 = .ok (.iaload, 1) := by decide +kernel
theorem d_L_law_475 : decode b_L_law 475 = .ok (.invokevirtual 76, 3) := by decide +kernel
theorem d_L_law_478 : decode b_L_law 478 = .ok (.aload_n 2, 1) := by decide +kernel
theorem d_L_law_479 : decode b_L_law 479 = .ok (.aload_n 0, 1) := by decide +kernel
theorem d_L_law_480 : decode b_L_law 480 = .ok (.iload_n 3, 1) := by decide +kernel
theorem d_L_law_481 : decode b_L_law 481 = .ok (.iconst 1, 1) := by decide +kernel
theorem d_L_law_482 : decode b_L_law 482 = .ok (.iadd, 1) := by decide +kernel
theorem d_L_law_483 : decode b_L_law 483 = .ok (.iaload, 1) := by decide +kernel
theorem d_L_law_484 : decode b_L_law 484 = .ok (.aload_n 0, 1) := by decide +kernel
theorem d_L_law_485 : decode b_L_law 485 = .ok (.iload_n 3, 1) := by decide +kernel
theorem d_L_law_486 : decode b_L_law 486 = .ok (.iconst 2, 1) := by decide +kernel
theorem d_L_law_487 : decode b_L_law 487 = .ok (.iadd, 1) := by decide +kernel
theorem d_L_law_488 : decode b_L_law 488 = .ok (.iaload, 1) := by decide +kernel
theorem d_L_law_489 : decode b_L_law 489 = .ok (.i2l, 1) := by decide +kernel
theorem d_L_law_490 : decode b_L_law 490 = .ok (.bipush 32, 2) := by decide +kernel
theorem d_L_law_492 : decode b_L_law 492 = .ok (.lshl, 1) := by decide +kernel
theorem d_L_law_493 : decode b_L_law 493 = .ok (.aload_n 0, 1) := by decide +kernel
theorem d_L_law_494 : decode b_L_law 494 = .ok (.iload_n 3, 1) := by decide +kernel
theorem d_L_law_495 : decode b_L_law 495 = .ok (.iconst 3, 1) := by decide +kernel
theorem d_L_law_496 : decode b_L_law 496 = .ok (.iadd, 1) := by decide +kernel
theorem d_L_law_497 : decode b_L_law 497 = .ok (.iaload, 1) := by decide +kernel
theorem d_L_law_498 : decode b_L_law 498 = .ok (.i2l, 1) := by decide +kernel
theorem d_L_law_499 : decode b_L_law 499 = .ok (.ldc2_w 74, 3) := by decide +kernel
theorem d_L_law_502 : decode b_L_law 502 = .ok (.land, 1) := by decide +kernel
theorem d_L_law_503 : decode b_L_law 503 = .ok (.lor, 1) := by decide +kernel
theorem d_L_law_504 : decode b_L_law 504 = .ok (.aload_n 0, 1) := by decide +kernel
theorem d_L_law_505 : decode b_L_law 505 = .ok (.iload_n 3, 1) := by decide +kernel
theorem d_L_law_506 : decode b_L_law 506 = .ok (.iconst 4, 1) := by decide +kernel
theorem d_L_law_507 : decode b_L_law 507 = .ok (.iadd, 1) := by decide +kernel
theorem d_L_law_508 : decode b_L_law 508 = .ok (.iaload, 1) := by decide +kernel
theorem d_L_law_509 : decode b_L_law 509 = .ok (.invokevirtual 80, 3) := by decide +kernel
theorem d_L_law_512 : decode b_L_law 512 = .ok (.if_icmp .eq 131, 3) := by decide +kernel
theorem d_L_law_515 : decode b_L_law 515 = .ok (.iconst 0, 1) := by decide +kernel
theorem d_L_law_516 : decode b_L_law 516 = .ok (.ireturn, 1) := by decide +kernel
theorem d_L_law_517 : decode b_L_law 517 = .ok (.aload_n 1, 1) := by decide +kernel
theorem d_L_law_518 : decode b_L_law 518 = .ok (.aload_n 0, 1) := by decide +kernel
theorem d_L_law_519 : decode b_L_law 519 = .ok (.iload_n 3, 1) := by decide +kernel
theorem d_L_law_520 : decode b_L_law 520 = .ok (.iconst 1, 1) := by decide +kernel
theorem d_L_law_521 : decode b_L_law 521 = .ok (.iadd, 1) := by decide +kernel
theorem d_L_law_522 : decode b_L_law 522 = .ok (.iaload, 1) := by decide +kernel
theorem d_L_law_523 : decode b_L_law 523 = .ok (.aload_n 0, 1) := by decide +kernel
theorem d_L_law_524 : decode b_L_law 524 = .ok (.iload_n 3, 1) := by decide +kernel
theorem d_L_law_525 : decode b_L_law 525 = .ok (.iconst 2, 1) := by decide +kernel
theorem d_L_law_526 : decode b_L_law 526 = .ok (.iadd, 1) := by decide +kernel
theorem d_L_law_527 : decode b_L_law 527 = .ok (.iaload, 1) := by decide +kernel
theorem d_L_law_528 : decode b_L_law 528 = .ok (.invokevirtual 81, 3) := by decide +kernel
theorem d_L_law_531 : decode b_L_law 531 = .ok (.aload_n 2, 1) := by decide +kernel
theorem d_L_law_532 : decode b_L_law 532 = .ok (.aload_n 0, 1) := by decide +kernel
theorem d_L_law_533 : decode b_L_law 533 = .ok (.iload_n 3, 1) := by decide +kernel
theorem d_L_law_534 : decode b_L_law 534 = .ok (.iconst 1, 1) := by decide +kernel
theorem d_L_law_535 : decode b_L_law 535 = .ok (.iadd, 1) := by decide +kernel
theorem d_L_law_536 : decode b_L_law 536 = .ok (.iaload, 1) := by decide +kernel
theorem d_L_law_537 : decode b_L_law 537 = .ok (.aload_n 0, 1) := by decide +kernel
theorem d_L_law_538 : decode b_L_law 538 = .ok (.iload_n 3, 1) := by decide +kernel
theorem d_L_law_539 : decode b_L_law 539 = .ok (.iconst 2, 1) := by decide +kernel
theorem d_L_law_540 : decode b_L_law 540 = .ok (.iadd, 1) := by decide +kernel
theorem d_L_law_541 : decode b_L_law 541 = .ok (.iaload, 1) := by decide +kernel
theorem d_L_law_542 : decode b_L_law 542 = .ok (.invokevirtual 84, 3) := by decide +kernel
theorem d_L_law_545 : decode b_L_law 545 = .ok (.if_icmp .eq 98, 3) := by decide +kernel
theorem d_L_law_548 : decode b_L_law 548 = .ok (.iconst 0, 1) := by decide +kernel
theorem d_L_law_549 : decode b_L_law 549 = .ok (.ireturn, 1) := by decide +kernel
theorem d_L_law_550 : decode b_L_law 550 = .ok (.aload_n 1, 1) := by decide +kernel
theorem d_L_law_551 : decode b_L_law 551 = .ok (.aload_n 0, 1) := by decide +kernel
theorem d_L_law_552 : decode b_L_law 552 = .ok (.iload_n 3, 1) := by decide +kernel
theorem d_L_law_553 : decode b_L_law 553 = .ok (.iconst 1, 1) := by decide +kernel
theorem d_L_law_554 : decode b_L_law 554 = .ok (.iadd, 1) := by decide +kernel
theorem d_L_law_555 : decode b_L_law 555 = .ok (.iaload, 1) := by decide +kernel
theorem d_L_law_556 : decode b_L_law 556 = .ok (.invokevirtual 85, 3) := by decide +kernel
theorem d_L_law_559 : decode b_L_law 559 = .ok (.aload_n 2, 1) := by decide +kernel
theorem d_L_law_560 : decode b_L_law 560 = .ok (.aload_n 0, 1) := by decide +kernel
theorem d_L_law_561 : decode b_L_law 561 = .ok (.iload_n 3, 1) := by decide +kernel
theorem d_L_law_562 : decode b_L_law 562 = .ok (.iconst 1, 1) := by decide +kernel
theorem d_L_law_563 : decode b_L_law 563 = .ok (.iadd, 1) := by decide +kernel
theorem d_L_law_564 : decode b_L_law 564 = .ok (.iaload, 1) := by decide +kernel
theorem d_L_law_565 : decode b_L_law 565 = .ok (.invokevirtual 88, 3) := by decide +kernel
theorem d_L_law_568 : decode b_L_law 568 = .ok (.if_icmp .eq 75, 3) := by decide +kernel
theorem d_L_law_571 : decode b_L_law 571 = .ok (.iconst 0, 1) := by decide +kernel
theorem d_L_law_572 : decode b_L_law 572 = .ok (.ireturn, 1) := by decide +kernel
theorem d_L_law_573 : decode b_L_law 573 = .ok (.aload_n 1, 1) := by decide +kernel
theorem d_L_law_574 : decode b_L_law 574 = .ok (.aload_n 0, 1) := by decide +kernel
theorem d_L_law_575 : decode b_L_law 575 = .ok (.iload_n 3, 1) := by decide +kernel
theorem d_L_law_576 : decode b_L_law 576 = .ok (.iconst 1, 1) := by decide +kernel
theorem d_L_law_577 : decode b_L_law 577 = .ok (.iadd, 1) := by decide +kernel
theorem d_L_law_578 : decode b_L_law 578 = .ok (.iaload, 1) := by decide +kernel
theorem d_L_law_579 : decode b_L_law 579 = .ok (.invokevirtual 89, 3) := by decide +kernel
theorem d_L_law_582 : decode b_L_law 582 = .ok (.aload_n 2, 1) := by decide +kernel
theorem d_L_law_583 : decode b_L_law 583 = .ok (.aload_n 0, 1) := by decide +kernel
theorem d_L_law_584 : decode b_L_law 584 = .ok (.iload_n 3, 1) := by decide +kernel
theorem d_L_law_585 : decode b_L_law 585 = .ok (.iconst 1, 1) := by decide +kernel
theorem d_L_law_586 : decode b_L_law 586 = .ok (.iadd, 1) := by decide +kernel
theorem d_L_law_587 : decode b_L_law 587 = .ok (.iaload, 1) := by decide +kernel
theorem d_L_law_588 : decode b_L_law 588 = .ok (.invokevirtual 92, 3) := by decide +kernel
theorem d_L_law_591 : decode b_L_law 591 = .ok (.if_icmp .eq 52, 3) := by decide +kernel
theorem d_L_law_594 : decode b_L_law 594 = .ok (.iconst 0, 1) := by decide +kernel
theorem d_L_law_595 : decode b_L_law 595 = .ok (.ireturn, 1) := by decide +kernel
theorem d_L_law_596 : decode b_L_law 596 = .ok (.aload_n 1, 1) := by decide +kernel
theorem d_L_law_597 : decode b_L_law 597 = .ok (.aload_n 0, 1) := by decide +kernel
theorem d_L_law_598 : decode b_L_law 598 = .ok (.iload_n 3, 1) := by decide +kernel
theorem d_L_law_599 : decode b_L_law 599 = .ok (.iconst 1, 1) := by decide +kernel
theorem d_L_law_600 : decode b_L_law 600 = .ok (.iadd, 1) := by decide +kernel
theorem d_L_law_601 : decode b_L_law 601 = .ok (.iaload, 1) := by decide +kernel
theorem d_L_law_602 : decode b_L_law 602 = .ok (.invokevirtual 93, 3) := by decide +kernel
theorem d_L_law_605 : decode b_L_law 605 = .ok (.aload_n 2, 1) := by decide +kernel
theorem d_L_law_606 : decode b_L_law 606 = .ok (.aload_n 0, 1) := by decide +kernel
theorem d_L_law_607 : decode b_L_law 607 = .ok (.iload_n 3, 1) := by decide +kernel
theorem d_L_law_608 : decode b_L_law 608 = .ok (.iconst 1, 1) := by decide +kernel
theorem d_L_law_609 : decode b_L_law 609 = .ok (.iadd, 1) := by decide +kernel
theorem d_L_law_610 : decode b_L_law 610 = .ok (.iaload, 1) := by decide +kernel
theorem d_L_law_611 : decode b_L_law 611 = .ok (.invokevirtual 96, 3) := by decide +kernel
theorem d_L_law_614 : decode b_L_law 614 = .ok (.if_icmp .eq 29, 3) := by decide +kernel
theorem d_L_law_617 : decode b_L_law 617 = .ok (.iconst 0, 1) := by decide +kernel
theorem d_L_law_618 : decode b_L_law 618 = .ok (.ireturn, 1) := by decide +kernel
theorem d_L_law_619 : decode b_L_law 619 = .ok (.aload_n 1, 1) := by decide +kernel
theorem d_L_law_620 : decode b_L_law 620 = .ok (.aload_n 0, 1) := by decide +kernel
theorem d_L_law_621 : decode b_L_law 621 = .ok (.iload_n 3, 1) := by decide +kernel
theorem d_L_law_622 : decode b_L_law 622 = .ok (.iconst 1, 1) := by decide +kernel
theorem d_L_law_623 : decode b_L_law 623 = .ok (.iadd, 1) := by decide +kernel
theorem d_L_law_624 : decode b_L_law 624 = .ok (.iaload, 1) := by decide +kernel
theorem d_L_law_625 : decode b_L_law 625 = .ok (.invokevirtual 97, 3) := by decide +kernel
theorem d_L_law_628 : decode b_L_law 628 = .ok (.aload_n 2, 1) := by decide +kernel
theorem d_L_law_629 : decode b_L_law 629 = .ok (.aload_n 0, 1) := by decide +kernel
theorem d_L_law_630 : decode b_L_law 630 = .ok (.iload_n 3, 1) := by decide +kernel
theorem d_L_law_631 : decode b_L_law 631 = .ok (.iconst 1, 1) := by decide +kernel
theorem d_L_law_632 : decode b_L_law 632 = .ok (.iadd, 1) := by decide +kernel
theorem d_L_law_633 : decode b_L_law 633 = .ok (.iaload, 1) := by decide +kernel
theorem d_L_law_634 : decode b_L_law 634 = .ok (.invokevirtual 101, 3) := by decide +kernel
theorem d_L_law_637 : decode b_L_law 637 = .ok (.lcmp, 1) := by decide +kernel
theorem d_L_law_638 : decode b_L_law 638 = .ok (.ifCond .eq 5, 3) := by decide +kernel
theorem d_L_law_641 : decode b_L_law 641 = .ok (.iconst 0, 1) := by decide +kernel
theorem d_L_law_642 : decode b_L_law 642 = .ok (.ireturn, 1) := by decide +kernel
theorem d_L_law_643 : decode b_L_law 643 = .ok (.iinc 3 5, 3) := by decide +kernel
theorem d_L_law_646 : decode b_L_law 646 = .ok (.goto (-618), 3) := by decide +kernel
theorem d_L_law_649 : decode b_L_law 649 = .ok (.iconst 1, 1) := by decide +kernel
theorem d_L_law_650 : decode b_L_law 650 = .ok (.ireturn, 1) := by decide +kernel
