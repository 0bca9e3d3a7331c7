/-! THE LAW's METHODS: tune -/
/-! 222: PinBarrelLaw.tune(LPinBarrel;I)Z -/
theorem b222 : mB 222 = cL_tune := rfl
theorem r222 : mR 222 = (some .boolean) := rfl
theorem d222_0 : decode cL_tune 0 = .ok (.iconst 0, 1) := by decide +kernel
theorem d222_1 : decode cL_tune 1 = .ok (.istore_n 2, 1) := by decide +kernel
theorem d222_2 : decode cL_tune 2 = .ok (.iconst 0, 1) := by decide +kernel
theorem d222_3 : decode cL_tune 3 = .ok (.istore_n 3, 1) := by decide +kernel
theorem d222_4 : decode cL_tune 4 = .ok (.iload_n 3, 1) := by decide +kernel
theorem d222_5 : decode cL_tune 5 = .ok (.aload_n 0, 1) := by decide +kernel
theorem d222_6 : decode cL_tune 6 = .ok (.iconst 0, 1) := by decide +kernel
theorem d222_7 : decode cL_tune 7 = .ok (.invokevirtual 79, 3) := by decide +kernel
theorem d222_10 : decode cL_tune 10 = .ok (.if_icmp .ge 62, 3) := by decide +kernel
theorem d222_13 : decode cL_tune 13 = .ok (.iconst 0, 1) := by decide +kernel
theorem d222_14 : decode cL_tune 14 = .ok (.istore 4, 2) := by decide +kernel
theorem d222_16 : decode cL_tune 16 = .ok (.iload 4, 2) := by decide +kernel
theorem d222_18 : decode cL_tune 18 = .ok (.aload_n 0, 1) := by decide +kernel
theorem d222_19 : decode cL_tune 19 = .ok (.iconst 4, 1) := by decide +kernel
theorem d222_20 : decode cL_tune 20 = .ok (.invokevirtual 79, 3) := by decide +kernel
theorem d222_23 : decode cL_tune 23 = .ok (.if_icmp .ge 43, 3) := by decide +kernel
theorem d222_26 : decode cL_tune 26 = .ok (.iload_n 2, 1) := by decide +kernel
theorem d222_27 : decode cL_tune 27 = .ok (.aload_n 0, 1) := by decide +kernel
theorem d222_28 : decode cL_tune 28 = .ok (.iload_n 1, 1) := by decide +kernel
theorem d222_29 : decode cL_tune 29 = .ok (.iload_n 3, 1) := by decide +kernel
theorem d222_30 : decode cL_tune 30 = .ok (.invokevirtual 147, 3) := by decide +kernel
theorem d222_33 : decode cL_tune 33 = .ok (.iload 4, 2) := by decide +kernel
theorem d222_35 : decode cL_tune 35 = .ok (.ishr, 1) := by decide +kernel
theorem d222_36 : decode cL_tune 36 = .ok (.iconst 1, 1) := by decide +kernel
theorem d222_37 : decode cL_tune 37 = .ok (.iand, 1) := by decide +kernel
theorem d222_38 : decode cL_tune 38 = .ok (.iconst 1, 1) := by decide +kernel
theorem d222_39 : decode cL_tune 39 = .ok (.if_icmp .ne 18, 3) := by decide +kernel
theorem d222_42 : decode cL_tune 42 = .ok (.aload_n 0, 1) := by decide +kernel
theorem d222_43 : decode cL_tune 43 = .ok (.iload_n 1, 1) := by decide +kernel
theorem d222_44 : decode cL_tune 44 = .ok (.iload_n 3, 1) := by decide +kernel
theorem d222_45 : decode cL_tune 45 = .ok (.iload 4, 2) := by decide +kernel
theorem d222_47 : decode cL_tune 47 = .ok (.invokevirtual 157, 3) := by decide +kernel
theorem d222_50 : decode cL_tune 50 = .ok (.ifCond .eq 7, 3) := by decide +kernel
theorem d222_53 : decode cL_tune 53 = .ok (.iconst 1, 1) := by decide +kernel
theorem d222_54 : decode cL_tune 54 = .ok (.goto 4, 3) := by decide +kernel
theorem d222_57 : decode cL_tune 57 = .ok (.iconst 0, 1) := by decide +kernel
theorem d222_58 : decode cL_tune 58 = .ok (.iadd, 1) := by decide +kernel
theorem d222_59 : decode cL_tune 59 = .ok (.istore_n 2, 1) := by decide +kernel
theorem d222_60 : decode cL_tune 60 = .ok (.iinc 4 1, 3) := by decide +kernel
theorem d222_63 : decode cL_tune 63 = .ok (.goto (-47), 3) := by decide +kernel
theorem d222_66 : decode cL_tune 66 = .ok (.iinc 3 1, 3) := by decide +kernel
theorem d222_69 : decode cL_tune 69 = .ok (.goto (-65), 3) := by decide +kernel
theorem d222_72 : decode cL_tune 72 = .ok (.iconst 0, 1) := by decide +kernel
theorem d222_73 : decode cL_tune 73 = .ok (.istore_n 3, 1) := by decide +kernel
theorem d222_74 : decode cL_tune 74 = .ok (.iconst 0, 1) := by decide +kernel
theorem d222_75 : decode cL_tune 75 = .ok (.istore 4, 2) := by decide +kernel
theorem d222_77 : decode cL_tune 77 = .ok (.iconst 0, 1) := by decide +kernel
theorem d222_78 : decode cL_tune 78 = .ok (.istore 5, 2) := by decide +kernel
theorem d222_80 : decode cL_tune 80 = .ok (.iload 5, 2) := by decide +kernel
theorem d222_82 : decode cL_tune 82 = .ok (.aload_n 0, 1) := by decide +kernel
theorem d222_83 : decode cL_tune 83 = .ok (.iconst 5, 1) := by decide +kernel
theorem d222_84 : decode cL_tune 84 = .ok (.invokevirtual 79, 3) := by decide +kernel
theorem d222_87 : decode cL_tune 87 = .ok (.if_icmp .ge 140, 3) := by decide +kernel
theorem d222_90 : decode cL_tune 90 = .ok (.aload_n 0, 1) := by decide +kernel
theorem d222_91 : decode cL_tune 91 = .ok (.iload 5, 2) := by decide +kernel
theorem d222_93 : decode cL_tune 93 = .ok (.iconst 0, 1) := by decide +kernel
theorem d222_94 : decode cL_tune 94 = .ok (.invokevirtual 144, 3) := by decide +kernel
theorem d222_97 : decode cL_tune 97 = .ok (.iload_n 1, 1) := by decide +kernel
theorem d222_98 : decode cL_tune 98 = .ok (.if_icmp .eq 6, 3) := by decide +kernel
theorem d222_101 : decode cL_tune 101 = .ok (.goto 120, 3) := by decide +kernel
theorem d222_104 : decode cL_tune 104 = .ok (.iinc 3 1, 3) := by decide +kernel
theorem d222_107 : decode cL_tune 107 = .ok (.aload_n 0, 1) := by decide +kernel
theorem d222_108 : decode cL_tune 108 = .ok (.iload 5, 2) := by decide +kernel
theorem d222_110 : decode cL_tune 110 = .ok (.iconst 3, 1) := by decide +kernel
theorem d222_111 : decode cL_tune 111 = .ok (.invokevirtual 144, 3) := by decide +kernel
theorem d222_114 : decode cL_tune 114 = .ok (.istore 6, 2) := by decide +kernel
theorem d222_116 : decode cL_tune 116 = .ok (.iload 6, 2) := by decide +kernel
theorem d222_118 : decode cL_tune 118 = .ok (.ifCond .ge 6, 3) := by decide +kernel
theorem d222_121 : decode cL_tune 121 = .ok (.goto 100, 3) := by decide +kernel
theorem d222_124 : decode cL_tune 124 = .ok (.iinc 4 1, 3) := by decide +kernel
theorem d222_127 : decode cL_tune 127 = .ok (.aload_n 0, 1) := by decide +kernel
theorem d222_128 : decode cL_tune 128 = .ok (.iload 6, 2) := by decide +kernel
theorem d222_130 : decode cL_tune 130 = .ok (.iconst 0, 1) := by decide +kernel
theorem d222_131 : decode cL_tune 131 = .ok (.invokevirtual 141, 3) := by decide +kernel
theorem d222_134 : decode cL_tune 134 = .ok (.aload_n 0, 1) := by decide +kernel
theorem d222_135 : decode cL_tune 135 = .ok (.iload 5, 2) := by decide +kernel
theorem d222_137 : decode cL_tune 137 = .ok (.iconst 2, 1) := by decide +kernel
theorem d222_138 : decode cL_tune 138 = .ok (.invokevirtual 144, 3) := by decide +kernel
theorem d222_141 : decode cL_tune 141 = .ok (.if_icmp .ne 20, 3) := by decide +kernel
theorem d222_144 : decode cL_tune 144 = .ok (.aload_n 0, 1) := by decide +kernel
theorem d222_145 : decode cL_tune 145 = .ok (.iload_n 1, 1) := by decide +kernel
theorem d222_146 : decode cL_tune 146 = .ok (.aload_n 0, 1) := by decide +kernel
theorem d222_147 : decode cL_tune 147 = .ok (.iload 5, 2) := by decide +kernel
theorem d222_149 : decode cL_tune 149 = .ok (.iconst 1, 1) := by decide +kernel
theorem d222_150 : decode cL_tune 150 = .ok (.invokevirtual 144, 3) := by decide +kernel
theorem d222_153 : decode cL_tune 153 = .ok (.iload 6, 2) := by decide +kernel
theorem d222_155 : decode cL_tune 155 = .ok (.invokevirtual 157, 3) := by decide +kernel
theorem d222_158 : decode cL_tune 158 = .ok (.ifCond .ne 5, 3) := by decide +kernel
theorem d222_161 : decode cL_tune 161 = .ok (.iconst 0, 1) := by decide +kernel
theorem d222_162 : decode cL_tune 162 = .ok (.ireturn, 1) := by decide +kernel
theorem d222_163 : decode cL_tune 163 = .ok (.iconst 0, 1) := by decide +kernel
theorem d222_164 : decode cL_tune 164 = .ok (.istore 7, 2) := by decide +kernel
theorem d222_166 : decode cL_tune 166 = .ok (.iload 7, 2) := by decide +kernel
theorem d222_168 : decode cL_tune 168 = .ok (.iload 5, 2) := by decide +kernel
theorem d222_170 : decode cL_tune 170 = .ok (.if_icmp .ge 51, 3) := by decide +kernel
theorem d222_173 : decode cL_tune 173 = .ok (.aload_n 0, 1) := by decide +kernel
theorem d222_174 : decode cL_tune 174 = .ok (.iload 7, 2) := by decide +kernel
theorem d222_176 : decode cL_tune 176 = .ok (.iconst 0, 1) := by decide +kernel
theorem d222_177 : decode cL_tune 177 = .ok (.invokevirtual 144, 3) := by decide +kernel
theorem d222_180 : decode cL_tune 180 = .ok (.iload_n 1, 1) := by decide +kernel
theorem d222_181 : decode cL_tune 181 = .ok (.if_icmp .ne 34, 3) := by decide +kernel
theorem d222_184 : decode cL_tune 184 = .ok (.aload_n 0, 1) := by decide +kernel
theorem d222_185 : decode cL_tune 185 = .ok (.iload 7, 2) := by decide +kernel
theorem d222_187 : decode cL_tune 187 = .ok (.iconst 1, 1) := by decide +kernel
theorem d222_188 : decode cL_tune 188 = .ok (.invokevirtual 144, 3) := by decide +kernel
theorem d222_191 : decode cL_tune 191 = .ok (.aload_n 0, 1) := by decide +kernel
theorem d222_192 : decode cL_tune 192 = .ok (.iload 5, 2) := by decide +kernel
theorem d222_194 : decode cL_tune 194 = .ok (.iconst 1, 1) := by decide +kernel
theorem d222_195 : decode cL_tune 195 = .ok (.invokevirtual 144, 3) := by decide +kernel
theorem d222_198 : decode cL_tune 198 = .ok (.if_icmp .ne 17, 3) := by decide +kernel
theorem d222_201 : decode cL_tune 201 = .ok (.aload_n 0, 1) := by decide +kernel
theorem d222_202 : decode cL_tune 202 = .ok (.iload 7, 2) := by decide +kernel
theorem d222_204 : decode cL_tune 204 = .ok (.iconst 3, 1) := by decide +kernel
theorem d222_205 : decode cL_tune 205 = .ok (.invokevirtual 144, 3) := by decide +kernel
theorem d222_208 : decode cL_tune 208 = .ok (.iload 6, 2) := by decide +kernel
theorem d222_210 : decode cL_tune 210 = .ok (.if_icmp .ne 5, 3) := by decide +kernel
theorem d222_213 : decode cL_tune 213 = .ok (.iconst 0, 1) := by decide +kernel
theorem d222_214 : decode cL_tune 214 = .ok (.ireturn, 1) := by decide +kernel
theorem d222_215 : decode cL_tune 215 = .ok (.iinc 7 1, 3) := by decide +kernel
theorem d222_218 : decode cL_tune 218 = .ok (.goto (-52), 3) := by decide +kernel
theorem d222_221 : decode cL_tune 221 = .ok (.iinc 5 1, 3) := by decide +kernel
theorem d222_224 : decode cL_tune 224 = .ok (.goto (-144), 3) := by decide +kernel
theorem d222_227 : decode cL_tune 227 = .ok (.aload_n 0, 1) := by decide +kernel
theorem d222_228 : decode cL_tune 228 = .ok (.iload_n 1, 1) := by decide +kernel
theorem d222_229 : decode cL_tune 229 = .ok (.invokevirtual 165, 3) := by decide +kernel
theorem d222_232 : decode cL_tune 232 = .ok (.iload_n 3, 1) := by decide +kernel
theorem d222_233 : decode cL_tune 233 = .ok (.iload 4, 2) := by decide +kernel
theorem d222_235 : decode cL_tune 235 = .ok (.isub, 1) := by decide +kernel
theorem d222_236 : decode cL_tune 236 = .ok (.if_icmp .ne 15, 3) := by decide +kernel
theorem d222_239 : decode cL_tune 239 = .ok (.aload_n 0, 1) := by decide +kernel
theorem d222_240 : decode cL_tune 240 = .ok (.iload_n 1, 1) := by decide +kernel
theorem d222_241 : decode cL_tune 241 = .ok (.invokevirtual 168, 3) := by decide +kernel
theorem d222_244 : decode cL_tune 244 = .ok (.iload_n 2, 1) := by decide +kernel
theorem d222_245 : decode cL_tune 245 = .ok (.iload 4, 2) := by decide +kernel
theorem d222_247 : decode cL_tune 247 = .ok (.isub, 1) := by decide +kernel
theorem d222_248 : decode cL_tune 248 = .ok (.if_icmp .eq 5, 3) := by decide +kernel
theorem d222_251 : decode cL_tune 251 = .ok (.iconst 0, 1) := by decide +kernel
theorem d222_252 : decode cL_tune 252 = .ok (.ireturn, 1) := by decide +kernel
theorem d222_253 : decode cL_tune 253 = .ok (.aload_n 0, 1) := by decide +kernel
theorem d222_254 : decode cL_tune 254 = .ok (.iload_n 1, 1) := by decide +kernel
theorem d222_255 : decode cL_tune 255 = .ok (.invokevirtual 171, 3) := by decide +kernel
theorem d222_258 : decode cL_tune 258 = .ok (.istore 5, 2) := by decide +kernel
theorem d222_260 : decode cL_tune 260 = .ok (.aload_n 0, 1) := by decide +kernel
theorem d222_261 : decode cL_tune 261 = .ok (.iload_n 1, 1) := by decide +kernel
theorem d222_262 : decode cL_tune 262 = .ok (.iload 5, 2) := by decide +kernel
theorem d222_264 : decode cL_tune 264 = .ok (.iconst 0, 1) := by decide +kernel
theorem d222_265 : decode cL_tune 265 = .ok (.invokevirtual 174, 3) := by decide +kernel
theorem d222_268 : decode cL_tune 268 = .ok (.iconst (-1), 1) := by decide +kernel
theorem d222_269 : decode cL_tune 269 = .ok (.if_icmp .eq 5, 3) := by decide +kernel
theorem d222_272 : decode cL_tune 272 = .ok (.iconst 0, 1) := by decide +kernel
theorem d222_273 : decode cL_tune 273 = .ok (.ireturn, 1) := by decide +kernel
theorem d222_274 : decode cL_tune 274 = .ok (.iconst 0, 1) := by decide +kernel
theorem d222_275 : decode cL_tune 275 = .ok (.istore 6, 2) := by decide +kernel
theorem d222_277 : decode cL_tune 277 = .ok (.iload 6, 2) := by decide +kernel
theorem d222_279 : decode cL_tune 279 = .ok (.iload 5, 2) := by decide +kernel
theorem d222_281 : decode cL_tune 281 = .ok (.if_icmp .ge 104, 3) := by decide +kernel
theorem d222_284 : decode cL_tune 284 = .ok (.aload_n 0, 1) := by decide +kernel
theorem d222_285 : decode cL_tune 285 = .ok (.iload_n 1, 1) := by decide +kernel
theorem d222_286 : decode cL_tune 286 = .ok (.iload 6, 2) := by decide +kernel
theorem d222_288 : decode cL_tune 288 = .ok (.iconst 0, 1) := by decide +kernel
theorem d222_289 : decode cL_tune 289 = .ok (.invokevirtual 174, 3) := by decide +kernel
theorem d222_292 : decode cL_tune 292 = .ok (.istore 7, 2) := by decide +kernel
theorem d222_294 : decode cL_tune 294 = .ok (.aload_n 0, 1) := by decide +kernel
theorem d222_295 : decode cL_tune 295 = .ok (.iload_n 1, 1) := by decide +kernel
theorem d222_296 : decode cL_tune 296 = .ok (.iload 6, 2) := by decide +kernel
theorem d222_298 : decode cL_tune 298 = .ok (.iconst 1, 1) := by decide +kernel
theorem d222_299 : decode cL_tune 299 = .ok (.invokevirtual 174, 3) := by decide +kernel
theorem d222_302 : decode cL_tune 302 = .ok (.istore 8, 2) := by decide +kernel
theorem d222_304 : decode cL_tune 304 = .ok (.aload_n 0, 1) := by decide +kernel
theorem d222_305 : decode cL_tune 305 = .ok (.iload_n 1, 1) := by decide +kernel
theorem d222_306 : decode cL_tune 306 = .ok (.iload 6, 2) := by decide +kernel
theorem d222_308 : decode cL_tune 308 = .ok (.iconst 2, 1) := by decide +kernel
theorem d222_309 : decode cL_tune 309 = .ok (.invokevirtual 174, 3) := by decide +kernel
theorem d222_312 : decode cL_tune 312 = .ok (.istore 9, 2) := by decide +kernel
theorem d222_314 : decode cL_tune 314 = .ok (.aload_n 0, 1) := by decide +kernel
theorem d222_315 : decode cL_tune 315 = .ok (.iload_n 1, 1) := by decide +kernel
theorem d222_316 : decode cL_tune 316 = .ok (.iload 8, 2) := by decide +kernel
theorem d222_318 : decode cL_tune 318 = .ok (.iload 7, 2) := by decide +kernel
theorem d222_320 : decode cL_tune 320 = .ok (.invokevirtual 157, 3) := by decide +kernel
theorem d222_323 : decode cL_tune 323 = .ok (.ifCond .eq 54, 3) := by decide +kernel
theorem d222_326 : decode cL_tune 326 = .ok (.aload_n 0, 1) := by decide +kernel
theorem d222_327 : decode cL_tune 327 = .ok (.iload_n 1, 1) := by decide +kernel
theorem d222_328 : decode cL_tune 328 = .ok (.iload 9, 2) := by decide +kernel
theorem d222_330 : decode cL_tune 330 = .ok (.iload 7, 2) := by decide +kernel
theorem d222_332 : decode cL_tune 332 = .ok (.invokevirtual 157, 3) := by decide +kernel
theorem d222_335 : decode cL_tune 335 = .ok (.ifCond .eq 42, 3) := by decide +kernel
theorem d222_338 : decode cL_tune 338 = .ok (.aload_n 0, 1) := by decide +kernel
theorem d222_339 : decode cL_tune 339 = .ok (.iload_n 1, 1) := by decide +kernel
theorem d222_340 : decode cL_tune 340 = .ok (.iload 6, 2) := by decide +kernel
theorem d222_342 : decode cL_tune 342 = .ok (.iconst 3, 1) := by decide +kernel
theorem d222_343 : decode cL_tune 343 = .ok (.invokevirtual 174, 3) := by decide +kernel
theorem d222_346 : decode cL_tune 346 = .ok (.aload_n 0, 1) := by decide +kernel
theorem d222_347 : decode cL_tune 347 = .ok (.iload 7, 2) := by decide +kernel
theorem d222_349 : decode cL_tune 349 = .ok (.iconst 2, 1) := by decide +kernel
theorem d222_350 : decode cL_tune 350 = .ok (.invokevirtual 141, 3) := by decide +kernel
theorem d222_353 : decode cL_tune 353 = .ok (.aload_n 0, 1) := by decide +kernel
theorem d222_354 : decode cL_tune 354 = .ok (.iload 8, 2) := by decide +kernel
theorem d222_356 : decode cL_tune 356 = .ok (.iload 9, 2) := by decide +kernel
theorem d222_358 : decode cL_tune 358 = .ok (.invokestatic 150, 3) := by decide +kernel
theorem d222_361 : decode cL_tune 361 = .ok (.isub, 1) := by decide +kernel
theorem d222_362 : decode cL_tune 362 = .ok (.if_icmp .ne 15, 3) := by decide +kernel
theorem d222_365 : decode cL_tune 365 = .ok (.aload_n 0, 1) := by decide +kernel
theorem d222_366 : decode cL_tune 366 = .ok (.iload_n 1, 1) := by decide +kernel
theorem d222_367 : decode cL_tune 367 = .ok (.iload 6, 2) := by decide +kernel
theorem d222_369 : decode cL_tune 369 = .ok (.iconst 3, 1) := by decide +kernel
theorem d222_370 : decode cL_tune 370 = .ok (.invokevirtual 174, 3) := by decide +kernel
theorem d222_373 : decode cL_tune 373 = .ok (.iconst 1, 1) := by decide +kernel
theorem d222_374 : decode cL_tune 374 = .ok (.if_icmp .ge 5, 3) := by decide +kernel
theorem d222_377 : decode cL_tune 377 = .ok (.iconst 0, 1) := by decide +kernel
theorem d222_378 : decode cL_tune 378 = .ok (.ireturn, 1) := by decide +kernel
theorem d222_379 : decode cL_tune 379 = .ok (.iinc 6 1, 3) := by decide +kernel
theorem d222_382 : decode cL_tune 382 = .ok (.goto (-105), 3) := by decide +kernel
theorem d222_385 : decode cL_tune 385 = .ok (.aload_n 0, 1) := by decide +kernel
theorem d222_386 : decode cL_tune 386 = .ok (.iload_n 1, 1) := by decide +kernel
theorem d222_387 : decode cL_tune 387 = .ok (.invokevirtual 165, 3) := by decide +kernel
theorem d222_390 : decode cL_tune 390 = .ok (.ifCond .ne 20, 3) := by decide +kernel
theorem d222_393 : decode cL_tune 393 = .ok (.aload_n 0, 1) := by decide +kernel
theorem d222_394 : decode cL_tune 394 = .ok (.iload_n 1, 1) := by decide +kernel
theorem d222_395 : decode cL_tune 395 = .ok (.invokevirtual 168, 3) := by decide +kernel
theorem d222_398 : decode cL_tune 398 = .ok (.ifCond .ne 12, 3) := by decide +kernel
theorem d222_401 : decode cL_tune 401 = .ok (.iload 5, 2) := by decide +kernel
theorem d222_403 : decode cL_tune 403 = .ok (.ifCond .ne 7, 3) := by decide +kernel
theorem d222_406 : decode cL_tune 406 = .ok (.iconst 1, 1) := by decide +kernel
theorem d222_407 : decode cL_tune 407 = .ok (.goto 4, 3) := by decide +kernel
theorem d222_410 : decode cL_tune 410 = .ok (.iconst 0, 1) := by decide +kernel
theorem d222_411 : decode cL_tune 411 = .ok (.istore 6, 2) := by decide +kernel
theorem d222_413 : decode cL_tune 413 = .ok (.iconst 0, 1) := by decide +kernel
theorem d222_414 : decode cL_tune 414 = .ok (.istore 7, 2) := by decide +kernel
theorem d222_416 : decode cL_tune 416 = .ok (.iload 7, 2) := by decide +kernel
theorem d222_418 : decode cL_tune 418 = .ok (.aload_n 0, 1) := by decide +kernel
theorem d222_419 : decode cL_tune 419 = .ok (.bipush 12, 2) := by decide +kernel
theorem d222_421 : decode cL_tune 421 = .ok (.invokevirtual 79, 3) := by decide +kernel
theorem d222_424 : decode cL_tune 424 = .ok (.if_icmp .ge 43, 3) := by decide +kernel
theorem d222_427 : decode cL_tune 427 = .ok (.iload 6, 2) := by decide +kernel
theorem d222_429 : decode cL_tune 429 = .ok (.ifCond .eq 29, 3) := by decide +kernel
theorem d222_432 : decode cL_tune 432 = .ok (.aload_n 0, 1) := by decide +kernel
theorem d222_433 : decode cL_tune 433 = .ok (.iload 7, 2) := by decide +kernel
theorem d222_435 : decode cL_tune 435 = .ok (.iconst 0, 1) := by decide +kernel
theorem d222_436 : decode cL_tune 436 = .ok (.invokevirtual 154, 3) := by decide +kernel
theorem d222_439 : decode cL_tune 439 = .ok (.iload_n 1, 1) := by decide +kernel
theorem d222_440 : decode cL_tune 440 = .ok (.if_icmp .eq 18, 3) := by decide +kernel
theorem d222_443 : decode cL_tune 443 = .ok (.aload_n 0, 1) := by decide +kernel
theorem d222_444 : decode cL_tune 444 = .ok (.iload 7, 2) := by decide +kernel
theorem d222_446 : decode cL_tune 446 = .ok (.iconst 3, 1) := by decide +kernel
theorem d222_447 : decode cL_tune 447 = .ok (.invokevirtual 154, 3) := by decide +kernel
theorem d222_450 : decode cL_tune 450 = .ok (.iload_n 1, 1) := by decide +kernel
theorem d222_451 : decode cL_tune 451 = .ok (.if_icmp .eq 7, 3) := by decide +kernel
theorem d222_454 : decode cL_tune 454 = .ok (.iconst 1, 1) := by decide +kernel
theorem d222_455 : decode cL_tune 455 = .ok (.goto 4, 3) := by decide +kernel
theorem d222_458 : decode cL_tune 458 = .ok (.iconst 0, 1) := by decide +kernel
theorem d222_459 : decode cL_tune 459 = .ok (.istore 6, 2) := by decide +kernel
theorem d222_461 : decode cL_tune 461 = .ok (.iinc 7 1, 3) := by decide +kernel
theorem d222_464 : decode cL_tune 464 = .ok (.goto (-48), 3) := by decide +kernel
theorem d222_467 : decode cL_tune 467 = .ok (.aload_n 0, 1) := by decide +kernel
theorem d222_468 : decode cL_tune 468 = .ok (.iload_n 1, 1) := by decide +kernel
theorem d222_469 : decode cL_tune 469 = .ok (.invokevirtual 177, 3) := by decide +kernel
theorem d222_472 : decode cL_tune 472 = .ok (.iload 6, 2) := by decide +kernel
theorem d222_474 : decode cL_tune 474 = .ok (.if_icmp .ne 57, 3) := by decide +kernel
theorem d222_477 : decode cL_tune 477 = .ok (.aload_n 0, 1) := by decide +kernel
theorem d222_478 : decode cL_tune 478 = .ok (.iload_n 1, 1) := by decide +kernel
theorem d222_479 : decode cL_tune 479 = .ok (.invokevirtual 181, 3) := by decide +kernel
theorem d222_482 : decode cL_tune 482 = .ok (.ifCond .ge 7, 3) := by decide +kernel
theorem d222_485 : decode cL_tune 485 = .ok (.iconst 1, 1) := by decide +kernel
theorem d222_486 : decode cL_tune 486 = .ok (.goto 4, 3) := by decide +kernel
theorem d222_489 : decode cL_tune 489 = .ok (.iconst 0, 1) := by decide +kernel
theorem d222_490 : decode cL_tune 490 = .ok (.iload_n 2, 1) := by decide +kernel
theorem d222_491 : decode cL_tune 491 = .ok (.ifCond .ne 7, 3) := by decide +kernel
theorem d222_494 : decode cL_tune 494 = .ok (.iconst 1, 1) := by decide +kernel
theorem d222_495 : decode cL_tune 495 = .ok (.goto 4, 3) := by decide +kernel
theorem d222_498 : decode cL_tune 498 = .ok (.iconst 0, 1) := by decide +kernel
theorem d222_499 : decode cL_tune 499 = .ok (.if_icmp .ne 32, 3) := by decide +kernel
theorem d222_502 : decode cL_tune 502 = .ok (.aload_n 0, 1) := by decide +kernel
theorem d222_503 : decode cL_tune 503 = .ok (.iload_n 1, 1) := by decide +kernel
theorem d222_504 : decode cL_tune 504 = .ok (.invokevirtual 184, 3) := by decide +kernel
theorem d222_507 : decode cL_tune 507 = .ok (.ifCond .ge 7, 3) := by decide +kernel
theorem d222_510 : decode cL_tune 510 = .ok (.iconst 1, 1) := by decide +kernel
theorem d222_511 : decode cL_tune 511 = .ok (.goto 4, 3) := by decide +kernel
theorem d222_514 : decode cL_tune 514 = .ok (.iconst 0, 1) := by decide +kernel
theorem d222_515 : decode cL_tune 515 = .ok (.iload_n 2, 1) := by decide +kernel
theorem d222_516 : decode cL_tune 516 = .ok (.ifCond .ne 7, 3) := by decide +kernel
theorem d222_519 : decode cL_tune 519 = .ok (.iconst 1, 1) := by decide +kernel
theorem d222_520 : decode cL_tune 520 = .ok (.goto 4, 3) := by decide +kernel
theorem d222_523 : decode cL_tune 523 = .ok (.iconst 0, 1) := by decide +kernel
theorem d222_524 : decode cL_tune 524 = .ok (.if_icmp .ne 7, 3) := by decide +kernel
theorem d222_527 : decode cL_tune 527 = .ok (.iconst 1, 1) := by decide +kernel
theorem d222_528 : decode cL_tune 528 = .ok (.goto 4, 3) := by decide +kernel
theorem d222_531 : decode cL_tune 531 = .ok (.iconst 0, 1) := by decide +kernel
theorem d222_532 : decode cL_tune 532 = .ok (.ireturn, 1) := by decide +kernel
theorem v222_0 {w : PW} {Q : PO → PW → Prop} {m : Row} {H : Nat → Row} {n : Nat} {k0 : Option Row} {sn : Nat} {sf : Nat → Int32} {x1 : Int} (hl : LW w m H n k0 sn sf) (hx1 : bd x1) (h : pX 222 4 [some (.ref 0), some (iv x1), some (iv 0), some (iv 0), none, none, none, none, none, none] [] w Q) : pX 222 0 [some (.ref 0), some (iv x1), none, none, none, none, none, none, none, none] [] w Q :=
  w_f b222 d222_0 rfl rfl rfl <| w_f b222 d222_1 rfl rfl rfl <| w_f b222 d222_2 rfl rfl rfl <| w_f b222 d222_3 rfl rfl rfl <| h
theorem e222 {w : PW} {Q : PO → PW → Prop} {m : Row} {H : Nat → Row} {n : Nat} {k0 : Option Row} {sn : Nat} {sf : Nat → Int32} {x1 : Int} (hl : LW w m H n k0 sn sf) (hx1 : bd x1) (h : pX 222 4 [some (.ref 0), some (iv x1), some (iv 0), some (iv 0), none, none, none, none, none, none] [] w Q) : pC 222 [.ref 0, iv x1] w Q :=
  (pC_in (Nat.le_of_ble_eq_true rfl) rfl Q).mpr (v222_0 hl hx1 h)
theorem v222_4 {w : PW} {Q : PO → PW → Prop} {m : Row} {H : Nat → Row} {n : Nat} {k0 : Option Row} {sn : Nat} {sf : Nat → Int32} {x1 : Int} {x2 : Int} {x3 : Int} {o4 : Option Value} {o5 : Option Value} {o6 : Option Value} {o7 : Option Value} {o8 : Option Value} {o9 : Option Value} (hl : LW w m H n k0 sn sf) (hx1 : bd x1) (hx2 : bd x2) (hx3 : bd x3) (ho4 : pc2 o4 = false) (ho5 : pc2 o5 = false) (ho6 : pc2 o6 = false) (ho7 : pc2 o7 = false) (ho8 : pc2 o8 = false) (ho9 : pc2 o9 = false) (h : ∀ w1 : PW, LW w1 m H n k0 sn sf → bd (m 0) → ((m 0) ≤ x3 → pX 222 80 [some (.ref 0), some (iv x1), some (iv x2), some (iv 0), some (iv 0), some (iv 0), o6, o7, o8, o9] [] w1 Q) ∧ (x3 < (m 0) → pX 222 16 [some (.ref 0), some (iv x1), some (iv x2), some (iv x3), some (iv 0), o5, o6, o7, o8, o9] [] w1 Q)) : pX 222 4 [some (.ref 0), some (iv x1), some (iv x2), some (iv x3), o4, o5, o6, o7, o8, o9] [] w Q :=
  w_f b222 d222_4 rfl rfl rfl <| w_f b222 d222_5 rfl rfl rfl <| w_f b222 d222_6 rfl rfl rfl <| w_cc b222 d222_7 rfl (pcl_v (n := 1) rfl rfl rfl (by decide +kernel) (sh_isOb hl.sh (tlt 0 rfl) tbC_0) rfl rfl) rfl <| q65_0 hl ⟨by decide, by decide⟩ (fun w1 lw1 bw1 => w_icge b222 d222_10 rfl rfl (by decide +kernel) hx3 bw1 (fun c2 => w_f b222 d222_72 rfl rfl rfl <| w_f b222 d222_73 rfl rfl rfl <| w_f b222 d222_74 rfl rfl rfl <| w_f b222 d222_75 rfl rfl rfl <| w_f b222 d222_77 rfl rfl rfl <| w_f b222 d222_78 rfl rfl rfl <| ((h w1 lw1 bw1).1 c2)) (fun c2 => w_f b222 d222_13 rfl rfl rfl <| w_f b222 d222_14 rfl rfl rfl <| ((h w1 lw1 bw1).2 c2)))
theorem v222_16 {w : PW} {Q : PO → PW → Prop} {m : Row} {H : Nat → Row} {n : Nat} {k0 : Option Row} {sn : Nat} {sf : Nat → Int32} {x1 : Int} {x2 : Int} {x3 : Int} {x4 : Int} {o5 : Option Value} {o6 : Option Value} {o7 : Option Value} {o8 : Option Value} {o9 : Option Value} (hl : LW w m H n k0 sn sf) (hx1 : bd x1) (hx2 : bd x2) (hx3 : bd x3) (hx4 : bd x4) (ho5 : pc2 o5 = false) (ho6 : pc2 o6 = false) (ho7 : pc2 o7 = false) (ho8 : pc2 o8 = false) (ho9 : pc2 o9 = false) (h : ∀ w1 : PW, LW w1 m H n k0 sn sf → bd (m 4) → ((m 4) ≤ x4 → pX 222 4 [some (.ref 0), some (iv x1), some (iv x2), some (iv (x3 + 1)), some (iv x4), o5, o6, o7, o8, o9] [] w1 Q) ∧ (x4 < (m 4) → (0 ≤ x1 ∧ x1 < m 1) ∧ (0 ≤ x3 ∧ x3 < m 0) ∧ ∀ w3 : PW, LW w3 m H n k0 sn sf → bd (m (251 + 64 * (x1).toNat + (x3).toNat)) → ((iAnd (iShr (m (251 + 64 * (x1).toNat + (x3).toNat)) x4) 1) ≠ 1 → pX 222 16 [some (.ref 0), some (iv x1), some (iv (x2 + 0)), some (iv x3), some (iv (x4 + 1)), o5, o6, o7, o8, o9] [] w3 Q) ∧ ((iAnd (iShr (m (251 + 64 * (x1).toNat + (x3).toNat)) x4) 1) = 1 → (0 ≤ x1 ∧ x1 < m 1) ∧ (0 ≤ x3 ∧ x3 < m 0) ∧ (0 ≤ x4 ∧ x4 < m 4) ∧ ∀ w5 : PW, LW w5 m H n k0 sn sf → ((¬ (rPin m (x1).toNat (x3).toNat (x4).toNat = true)) → pX 222 16 [some (.ref 0), some (iv x1), some (iv (x2 + 0)), some (iv x3), some (iv (x4 + 1)), o5, o6, o7, o8, o9] [] w5 Q) ∧ ((rPin m (x1).toNat (x3).toNat (x4).toNat = true) → pX 222 16 [some (.ref 0), some (iv x1), some (iv (x2 + 1)), some (iv x3), some (iv (x4 + 1)), o5, o6, o7, o8, o9] [] w5 Q)))) : pX 222 16 [some (.ref 0), some (iv x1), some (iv x2), some (iv x3), some (iv x4), o5, o6, o7, o8, o9] [] w Q :=
  w_f b222 d222_16 rfl rfl rfl <| w_f b222 d222_18 rfl rfl rfl <| w_f b222 d222_19 rfl rfl rfl <| w_cc b222 d222_20 rfl (pcl_v (n := 1) rfl rfl rfl (by decide +kernel) (sh_isOb hl.sh (tlt 0 rfl) tbC_0) rfl rfl) rfl <| q65_4 hl ⟨by decide, by decide⟩ (fun w1 lw1 bw1 => w_icge b222 d222_23 rfl rfl (by decide +kernel) hx4 bw1 (fun c2 => w_f b222 d222_66 rfl (pf_iinc rfl rfl) rfl <| w_j b222 d222_69 rfl (by decide +kernel) <| ((h w1 lw1 bw1).1 c2)) (fun c2 => w_f b222 d222_26 rfl rfl rfl <| w_f b222 d222_27 rfl rfl rfl <| w_f b222 d222_28 rfl rfl rfl <| w_f b222 d222_29 rfl rfl rfl <| w_cc b222 d222_30 rfl (pcl_v (n := 2) rfl rfl rfl (by decide +kernel) (sh_isOb lw1.sh (tlt 0 rfl) tbC_0) rfl rfl) rfl <| q85 lw1 hx1 hx3 ((h w1 lw1 bw1).2 c2).1 ((h w1 lw1 bw1).2 c2).2.1 (fun w3 lw3 bw3 => w_f b222 d222_33 rfl rfl rfl <| w_f b222 d222_35 rfl (pf_ishr (m (251 + 64 * (x1).toNat + (x3).toNat)) x4) rfl <| w_f b222 d222_36 rfl rfl rfl <| w_f b222 d222_37 rfl (pf_iand (iShr (m (251 + 64 * (x1).toNat + (x3).toNat)) x4) 1) rfl <| w_f b222 d222_38 rfl rfl rfl <| w_icne b222 d222_39 rfl rfl (by decide +kernel) (bd_toInt _) ⟨by decide, by decide⟩ (fun c4 => w_f b222 d222_57 rfl rfl rfl <| w_f b222 d222_58 rfl (pf_iadd x2 0) rfl <| w_f b222 d222_59 rfl rfl rfl <| w_f b222 d222_60 rfl (pf_iinc rfl rfl) rfl <| w_j b222 d222_63 rfl (by decide +kernel) <| ((((h w1 lw1 bw1).2 c2).2.2 w3 lw3 bw3).1 c4)) (fun c4 => w_f b222 d222_42 rfl rfl rfl <| w_f b222 d222_43 rfl rfl rfl <| w_f b222 d222_44 rfl rfl rfl <| w_f b222 d222_45 rfl rfl rfl <| w_cc b222 d222_47 rfl (pcl_v (n := 3) rfl rfl rfl (by decide +kernel) (sh_isOb lw3.sh (tlt 0 rfl) tbC_0) rfl rfl) rfl <| q79 lw3 hx1 hx3 hx4 ((((h w1 lw1 bw1).2 c2).2.2 w3 lw3 bw3).2 c4).1 ((((h w1 lw1 bw1).2 c2).2.2 w3 lw3 bw3).2 c4).2.1 ((((h w1 lw1 bw1).2 c2).2.2 w3 lw3 bw3).2 c4).2.2.1 (fun w5 lw5 => w_ifeqZ b222 d222_50 rfl rfl (by decide +kernel) (fun c6 => w_f b222 d222_57 rfl rfl rfl <| w_f b222 d222_58 rfl (pf_iadd x2 0) rfl <| w_f b222 d222_59 rfl rfl rfl <| w_f b222 d222_60 rfl (pf_iinc rfl rfl) rfl <| w_j b222 d222_63 rfl (by decide +kernel) <| ((((((h w1 lw1 bw1).2 c2).2.2 w3 lw3 bw3).2 c4).2.2.2 w5 lw5).1 c6)) (fun c6 => w_f b222 d222_53 rfl rfl rfl <| w_j b222 d222_54 rfl (by decide +kernel) <| w_f b222 d222_58 rfl (pf_iadd x2 1) rfl <| w_f b222 d222_59 rfl rfl rfl <| w_f b222 d222_60 rfl (pf_iinc rfl rfl) rfl <| w_j b222 d222_63 rfl (by decide +kernel) <| ((((((h w1 lw1 bw1).2 c2).2.2 w3 lw3 bw3).2 c4).2.2.2 w5 lw5).2 c6)))))))
theorem v222_80 {w : PW} {Q : PO → PW → Prop} {m : Row} {H : Nat → Row} {n : Nat} {k0 : Option Row} {sn : Nat} {sf : Nat → Int32} {x1 : Int} {x2 : Int} {x3 : Int} {x4 : Int} {x5 : Int} {o6 : Option Value} {o7 : Option Value} {o8 : Option Value} {o9 : Option Value} (hl : LW w m H n k0 sn sf) (hx1 : bd x1) (hx2 : bd x2) (hx3 : bd x3) (hx4 : bd x4) (hx5 : bd x5) (ho6 : pc2 o6 = false) (ho7 : pc2 o7 = false) (ho8 : pc2 o8 = false) (ho9 : pc2 o9 = false) (h : ∀ w1 : PW, LW w1 m H n k0 sn sf → bd (m 5) → ((m 5) ≤ x5 → (0 ≤ x1 ∧ x1 < m 1) ∧ ∀ w3 : PW, LW w3 m H n k0 sn sf → bd (((sNotes m x1 : Nat) : Int) - ((sPlayed m x1 : Nat) : Int)) → (bd (x3 - x4)) ∧ ((((sNotes m x1 : Nat) : Int) - ((sPlayed m x1 : Nat) : Int)) ≠ (x3 - x4) → Q (.inl (some (iv 0))) w3) ∧ ((((sNotes m x1 : Nat) : Int) - ((sPlayed m x1 : Nat) : Int)) = (x3 - x4) → (0 ≤ x1 ∧ x1 < m 1) ∧ ∀ w5 : PW, LW w5 m H n k0 sn sf → bd (sPins m (x1).toNat - (sPlayed m x1 : Nat)) → (bd (x2 - x4)) ∧ ((sPins m (x1).toNat - (sPlayed m x1 : Nat)) = (x2 - x4) → (0 ≤ x1 ∧ x1 < m 1) ∧ ∀ w7 : PW, LW w7 m H n k0 sn sf → bd ((sCf m (x1).toNat : Nat)) → (0 ≤ x1 ∧ x1 < m 1) ∧ (0 ≤ (0 : Int) ∧ (0 : Int) ≤ 3) ∧ ∀ w8 : PW, LW w8 m H n k0 sn sf → bd (sCfA m (x1).toNat ((sCf m (x1).toNat : Nat)) (0 : Int)) → ((sCfA m (x1).toNat ((sCf m (x1).toNat : Nat)) (0 : Int)) = ((-1)) → pX 222 277 [some (.ref 0), some (iv x1), some (iv x2), some (iv x3), some (iv x4), some (iv ((sCf m (x1).toNat : Nat))), some (iv 0), o7, o8, o9] [] w8 Q) ∧ ((sCfA m (x1).toNat ((sCf m (x1).toNat : Nat)) (0 : Int)) ≠ ((-1)) → Q (.inl (some (iv 0))) w8)) ∧ ((sPins m (x1).toNat - (sPlayed m x1 : Nat)) ≠ (x2 - x4) → Q (.inl (some (iv 0))) w5))) ∧ (x5 < (m 5) → (0 ≤ x5 ∧ x5 < m 5) ∧ ∀ w10 : PW, LW w10 m H n k0 sn sf → bd (rN m (x5).toNat 0) → ((rN m (x5).toNat 0) = x1 → (0 ≤ x5 ∧ x5 < m 5) ∧ ∀ w12 : PW, LW w12 m H n k0 sn sf → bd (sPlay m (x5).toNat) → (0 ≤ (sPlay m (x5).toNat) → (0 ≤ (sPlay m (x5).toNat) ∧ (sPlay m (x5).toNat) < m 4) ∧ ∀ w14 : PW, LW w14 m H n k0 sn sf → bd (rT m ((sPlay m (x5).toNat)).toNat 0) → (0 ≤ x5 ∧ x5 < m 5) ∧ ∀ w15 : PW, LW w15 m H n k0 sn sf → bd (rN m (x5).toNat 2) → ((rT m ((sPlay m (x5).toNat)).toNat 0) ≠ (rN m (x5).toNat 2) → Q (.inl (some (iv 0))) w15) ∧ ((rT m ((sPlay m (x5).toNat)).toNat 0) = (rN m (x5).toNat 2) → (0 ≤ x5 ∧ x5 < m 5) ∧ ∀ w17 : PW, LW w17 m H n k0 sn sf → bd (rN m (x5).toNat 1) → (0 ≤ x1 ∧ x1 < m 1) ∧ (0 ≤ (rN m (x5).toNat 1) ∧ (rN m (x5).toNat 1) < m 0) ∧ (0 ≤ (sPlay m (x5).toNat) ∧ (sPlay m (x5).toNat) < m 4) ∧ ∀ w18 : PW, LW w18 m H n k0 sn sf → ((rPin m (x1).toNat ((rN m (x5).toNat 1)).toNat ((sPlay m (x5).toNat)).toNat = true) → pX 222 166 [some (.ref 0), some (iv x1), some (iv x2), some (iv (x3 + 1)), some (iv (x4 + 1)), some (iv x5), some (iv (sPlay m (x5).toNat)), some (iv 0), o8, o9] [] w18 Q) ∧ ((¬ (rPin m (x1).toNat ((rN m (x5).toNat 1)).toNat ((sPlay m (x5).toNat)).toNat = true)) → Q (.inl (some (iv 0))) w18))) ∧ ((sPlay m (x5).toNat) < 0 → pX 222 80 [some (.ref 0), some (iv x1), some (iv x2), some (iv (x3 + 1)), some (iv x4), some (iv (x5 + 1)), some (iv (sPlay m (x5).toNat)), o7, o8, o9] [] w12 Q)) ∧ ((rN m (x5).toNat 0) ≠ x1 → pX 222 80 [some (.ref 0), some (iv x1), some (iv x2), some (iv x3), some (iv x4), some (iv (x5 + 1)), o6, o7, o8, o9] [] w10 Q))) : pX 222 80 [some (.ref 0), some (iv x1), some (iv x2), some (iv x3), some (iv x4), some (iv x5), o6, o7, o8, o9] [] w Q :=
  w_f b222 d222_80 rfl rfl rfl <| w_f b222 d222_82 rfl rfl rfl <| w_f b222 d222_83 rfl rfl rfl <| w_cc b222 d222_84 rfl (pcl_v (n := 1) rfl rfl rfl (by decide +kernel) (sh_isOb hl.sh (tlt 0 rfl) tbC_0) rfl rfl) rfl <| q65_5 hl ⟨by decide, by decide⟩ (fun w1 lw1 bw1 => w_icge b222 d222_87 rfl rfl (by decide +kernel) hx5 bw1 (fun c2 => w_f b222 d222_227 rfl rfl rfl <| w_f b222 d222_228 rfl rfl rfl <| w_cc b222 d222_229 rfl (pcl_v (n := 1) rfl rfl rfl (by decide +kernel) (sh_isOb lw1.sh (tlt 0 rfl) tbC_0) rfl rfl) rfl <| q108 lw1 hx1 ((h w1 lw1 bw1).1 c2).1 (fun w3 lw3 bw3 => w_f b222 d222_232 rfl rfl rfl <| w_f b222 d222_233 rfl rfl rfl <| w_f b222 d222_235 rfl (pf_isub x3 x4) rfl <| w_icne b222 d222_236 rfl rfl (by decide +kernel) bw3 (((h w1 lw1 bw1).1 c2).2 w3 lw3 bw3).1 (fun c4 => w_f b222 d222_251 rfl rfl rfl <| w_rz b222 d222_252 r222 (by decide) ((((h w1 lw1 bw1).1 c2).2 w3 lw3 bw3).2.1 c4)) (fun c4 => w_f b222 d222_239 rfl rfl rfl <| w_f b222 d222_240 rfl rfl rfl <| w_cc b222 d222_241 rfl (pcl_v (n := 1) rfl rfl rfl (by decide +kernel) (sh_isOb lw3.sh (tlt 0 rfl) tbC_0) rfl rfl) rfl <| q110 lw3 hx1 ((((h w1 lw1 bw1).1 c2).2 w3 lw3 bw3).2.2 c4).1 (fun w5 lw5 bw5 => w_f b222 d222_244 rfl rfl rfl <| w_f b222 d222_245 rfl rfl rfl <| w_f b222 d222_247 rfl (pf_isub x2 x4) rfl <| w_iceq b222 d222_248 rfl rfl (by decide +kernel) bw5 (((((h w1 lw1 bw1).1 c2).2 w3 lw3 bw3).2.2 c4).2 w5 lw5 bw5).1 (fun c6 => w_f b222 d222_253 rfl rfl rfl <| w_f b222 d222_254 rfl rfl rfl <| w_cc b222 d222_255 rfl (pcl_v (n := 1) rfl rfl rfl (by decide +kernel) (sh_isOb lw5.sh (tlt 0 rfl) tbC_0) rfl rfl) rfl <| q93 lw5 hx1 ((((((h w1 lw1 bw1).1 c2).2 w3 lw3 bw3).2.2 c4).2 w5 lw5 bw5).2.1 c6).1 (fun w7 lw7 bw7 => w_f b222 d222_258 rfl rfl rfl <| w_f b222 d222_260 rfl rfl rfl <| w_f b222 d222_261 rfl rfl rfl <| w_f b222 d222_262 rfl rfl rfl <| w_f b222 d222_264 rfl rfl rfl <| w_cc b222 d222_265 rfl (pcl_v (n := 3) rfl rfl rfl (by decide +kernel) (sh_isOb lw7.sh (tlt 0 rfl) tbC_0) rfl rfl) rfl <| q97 lw7 hx1 bw7 ⟨by decide, by decide⟩ (((((((h w1 lw1 bw1).1 c2).2 w3 lw3 bw3).2.2 c4).2 w5 lw5 bw5).2.1 c6).2 w7 lw7 bw7).1 (((((((h w1 lw1 bw1).1 c2).2 w3 lw3 bw3).2.2 c4).2 w5 lw5 bw5).2.1 c6).2 w7 lw7 bw7).2.1 (fun w8 lw8 bw8 => w_f b222 d222_268 rfl rfl rfl <| w_iceq b222 d222_269 rfl rfl (by decide +kernel) bw8 ⟨by decide, by decide⟩ (fun c9 => w_f b222 d222_274 rfl rfl rfl <| w_f b222 d222_275 rfl rfl rfl <| (((((((((h w1 lw1 bw1).1 c2).2 w3 lw3 bw3).2.2 c4).2 w5 lw5 bw5).2.1 c6).2 w7 lw7 bw7).2.2 w8 lw8 bw8).1 c9)) (fun c9 => w_f b222 d222_272 rfl rfl rfl <| w_rz b222 d222_273 r222 (by decide) (((((((((h w1 lw1 bw1).1 c2).2 w3 lw3 bw3).2.2 c4).2 w5 lw5 bw5).2.1 c6).2 w7 lw7 bw7).2.2 w8 lw8 bw8).2 c9))))) (fun c6 => w_f b222 d222_251 rfl rfl rfl <| w_rz b222 d222_252 r222 (by decide) ((((((h w1 lw1 bw1).1 c2).2 w3 lw3 bw3).2.2 c4).2 w5 lw5 bw5).2.2 c6)))))) (fun c2 => w_f b222 d222_90 rfl rfl rfl <| w_f b222 d222_91 rfl rfl rfl <| w_f b222 d222_93 rfl rfl rfl <| w_cc b222 d222_94 rfl (pcl_v (n := 2) rfl rfl rfl (by decide +kernel) (sh_isOb lw1.sh (tlt 0 rfl) tbC_0) rfl rfl) rfl <| q74_0 lw1 hx5 ⟨by decide, by decide⟩ ((h w1 lw1 bw1).2 c2).1 (fun w10 lw10 bw10 => w_f b222 d222_97 rfl rfl rfl <| w_iceq b222 d222_98 rfl rfl (by decide +kernel) bw10 hx1 (fun c11 => w_f b222 d222_104 rfl (pf_iinc rfl rfl) rfl <| w_f b222 d222_107 rfl rfl rfl <| w_f b222 d222_108 rfl rfl rfl <| w_f b222 d222_110 rfl rfl rfl <| w_cc b222 d222_111 rfl (pcl_v (n := 2) rfl rfl rfl (by decide +kernel) (sh_isOb lw10.sh (tlt 0 rfl) tbC_0) rfl rfl) rfl <| q74_3 lw10 hx5 ⟨by decide, by decide⟩ ((((h w1 lw1 bw1).2 c2).2 w10 lw10 bw10).1 c11).1 (fun w12 lw12 bw12 => w_f b222 d222_114 rfl rfl rfl <| w_f b222 d222_116 rfl rfl rfl <| w_ifge b222 d222_118 rfl rfl (by decide +kernel) bw12 (fun c13 => w_f b222 d222_124 rfl (pf_iinc rfl rfl) rfl <| w_f b222 d222_127 rfl rfl rfl <| w_f b222 d222_128 rfl rfl rfl <| w_f b222 d222_130 rfl rfl rfl <| w_cc b222 d222_131 rfl (pcl_v (n := 2) rfl rfl rfl (by decide +kernel) (sh_isOb lw12.sh (tlt 0 rfl) tbC_0) rfl rfl) rfl <| q69_0 lw12 bw12 ⟨by decide, by decide⟩ ((((((h w1 lw1 bw1).2 c2).2 w10 lw10 bw10).1 c11).2 w12 lw12 bw12).1 c13).1 (fun w14 lw14 bw14 => w_f b222 d222_134 rfl rfl rfl <| w_f b222 d222_135 rfl rfl rfl <| w_f b222 d222_137 rfl rfl rfl <| w_cc b222 d222_138 rfl (pcl_v (n := 2) rfl rfl rfl (by decide +kernel) (sh_isOb lw14.sh (tlt 0 rfl) tbC_0) rfl rfl) rfl <| q74_2 lw14 hx5 ⟨by decide, by decide⟩ (((((((h w1 lw1 bw1).2 c2).2 w10 lw10 bw10).1 c11).2 w12 lw12 bw12).1 c13).2 w14 lw14 bw14).1 (fun w15 lw15 bw15 => w_icne b222 d222_141 rfl rfl (by decide +kernel) bw14 bw15 (fun c16 => w_f b222 d222_161 rfl rfl rfl <| w_rz b222 d222_162 r222 (by decide) (((((((((h w1 lw1 bw1).2 c2).2 w10 lw10 bw10).1 c11).2 w12 lw12 bw12).1 c13).2 w14 lw14 bw14).2 w15 lw15 bw15).1 c16)) (fun c16 => w_f b222 d222_144 rfl rfl rfl <| w_f b222 d222_145 rfl rfl rfl <| w_f b222 d222_146 rfl rfl rfl <| w_f b222 d222_147 rfl rfl rfl <| w_f b222 d222_149 rfl rfl rfl <| w_cc b222 d222_150 rfl (pcl_v (n := 2) rfl rfl rfl (by decide +kernel) (sh_isOb lw15.sh (tlt 0 rfl) tbC_0) rfl rfl) rfl <| q74_1 lw15 hx5 ⟨by decide, by decide⟩ (((((((((h w1 lw1 bw1).2 c2).2 w10 lw10 bw10).1 c11).2 w12 lw12 bw12).1 c13).2 w14 lw14 bw14).2 w15 lw15 bw15).2 c16).1 (fun w17 lw17 bw17 => w_f b222 d222_153 rfl rfl rfl <| w_cc b222 d222_155 rfl (pcl_v (n := 3) rfl rfl rfl (by decide +kernel) (sh_isOb lw17.sh (tlt 0 rfl) tbC_0) rfl rfl) rfl <| q79 lw17 hx1 bw17 bw12 ((((((((((h w1 lw1 bw1).2 c2).2 w10 lw10 bw10).1 c11).2 w12 lw12 bw12).1 c13).2 w14 lw14 bw14).2 w15 lw15 bw15).2 c16).2 w17 lw17 bw17).1 ((((((((((h w1 lw1 bw1).2 c2).2 w10 lw10 bw10).1 c11).2 w12 lw12 bw12).1 c13).2 w14 lw14 bw14).2 w15 lw15 bw15).2 c16).2 w17 lw17 bw17).2.1 ((((((((((h w1 lw1 bw1).2 c2).2 w10 lw10 bw10).1 c11).2 w12 lw12 bw12).1 c13).2 w14 lw14 bw14).2 w15 lw15 bw15).2 c16).2 w17 lw17 bw17).2.2.1 (fun w18 lw18 => w_ifneZ b222 d222_158 rfl rfl (by decide +kernel) (fun c19 => w_f b222 d222_163 rfl rfl rfl <| w_f b222 d222_164 rfl rfl rfl <| ((((((((((((h w1 lw1 bw1).2 c2).2 w10 lw10 bw10).1 c11).2 w12 lw12 bw12).1 c13).2 w14 lw14 bw14).2 w15 lw15 bw15).2 c16).2 w17 lw17 bw17).2.2.2 w18 lw18).1 c19)) (fun c19 => w_f b222 d222_161 rfl rfl rfl <| w_rz b222 d222_162 r222 (by decide) ((((((((((((h w1 lw1 bw1).2 c2).2 w10 lw10 bw10).1 c11).2 w12 lw12 bw12).1 c13).2 w14 lw14 bw14).2 w15 lw15 bw15).2 c16).2 w17 lw17 bw17).2.2.2 w18 lw18).2 c19)))))))) (fun c13 => w_j b222 d222_121 rfl (by decide +kernel) <| w_f b222 d222_221 rfl (pf_iinc rfl rfl) rfl <| w_j b222 d222_224 rfl (by decide +kernel) <| ((((((h w1 lw1 bw1).2 c2).2 w10 lw10 bw10).1 c11).2 w12 lw12 bw12).2 c13)))) (fun c11 => w_j b222 d222_101 rfl (by decide +kernel) <| w_f b222 d222_221 rfl (pf_iinc rfl rfl) rfl <| w_j b222 d222_224 rfl (by decide +kernel) <| ((((h w1 lw1 bw1).2 c2).2 w10 lw10 bw10).2 c11)))))
theorem v222_166 {w : PW} {Q : PO → PW → Prop} {m : Row} {H : Nat → Row} {n : Nat} {k0 : Option Row} {sn : Nat} {sf : Nat → Int32} {x1 : Int} {x2 : Int} {x3 : Int} {x4 : Int} {x5 : Int} {x6 : Int} {x7 : Int} {o8 : Option Value} {o9 : Option Value} (hl : LW w m H n k0 sn sf) (hx1 : bd x1) (hx2 : bd x2) (hx3 : bd x3) (hx4 : bd x4) (hx5 : bd x5) (hx6 : bd x6) (hx7 : bd x7) (ho8 : pc2 o8 = false) (ho9 : pc2 o9 = false) (h : (x5 ≤ x7 → pX 222 80 [some (.ref 0), some (iv x1), some (iv x2), some (iv x3), some (iv x4), some (iv (x5 + 1)), some (iv x6), some (iv x7), o8, o9] [] w Q) ∧ (x7 < x5 → (0 ≤ x7 ∧ x7 < m 5) ∧ ∀ w2 : PW, LW w2 m H n k0 sn sf → bd (rN m (x7).toNat 0) → ((rN m (x7).toNat 0) ≠ x1 → pX 222 166 [some (.ref 0), some (iv x1), some (iv x2), some (iv x3), some (iv x4), some (iv x5), some (iv x6), some (iv (x7 + 1)), o8, o9] [] w2 Q) ∧ ((rN m (x7).toNat 0) = x1 → (0 ≤ x7 ∧ x7 < m 5) ∧ ∀ w4 : PW, LW w4 m H n k0 sn sf → bd (rN m (x7).toNat 1) → (0 ≤ x5 ∧ x5 < m 5) ∧ ∀ w5 : PW, LW w5 m H n k0 sn sf → bd (rN m (x5).toNat 1) → ((rN m (x7).toNat 1) ≠ (rN m (x5).toNat 1) → pX 222 166 [some (.ref 0), some (iv x1), some (iv x2), some (iv x3), some (iv x4), some (iv x5), some (iv x6), some (iv (x7 + 1)), o8, o9] [] w5 Q) ∧ ((rN m (x7).toNat 1) = (rN m (x5).toNat 1) → (0 ≤ x7 ∧ x7 < m 5) ∧ ∀ w7 : PW, LW w7 m H n k0 sn sf → bd (sPlay m (x7).toNat) → ((sPlay m (x7).toNat) ≠ x6 → pX 222 166 [some (.ref 0), some (iv x1), some (iv x2), some (iv x3), some (iv x4), some (iv x5), some (iv x6), some (iv (x7 + 1)), o8, o9] [] w7 Q) ∧ ((sPlay m (x7).toNat) = x6 → Q (.inl (some (iv 0))) w7))))) : pX 222 166 [some (.ref 0), some (iv x1), some (iv x2), some (iv x3), some (iv x4), some (iv x5), some (iv x6), some (iv x7), o8, o9] [] w Q :=
  w_f b222 d222_166 rfl rfl rfl <| w_f b222 d222_168 rfl rfl rfl <| w_icge b222 d222_170 rfl rfl (by decide +kernel) hx7 hx5 (fun c1 => w_f b222 d222_221 rfl (pf_iinc rfl rfl) rfl <| w_j b222 d222_224 rfl (by decide +kernel) <| (h.1 c1)) (fun c1 => w_f b222 d222_173 rfl rfl rfl <| w_f b222 d222_174 rfl rfl rfl <| w_f b222 d222_176 rfl rfl rfl <| w_cc b222 d222_177 rfl (pcl_v (n := 2) rfl rfl rfl (by decide +kernel) (sh_isOb hl.sh (tlt 0 rfl) tbC_0) rfl rfl) rfl <| q74_0 hl hx7 ⟨by decide, by decide⟩ (h.2 c1).1 (fun w2 lw2 bw2 => w_f b222 d222_180 rfl rfl rfl <| w_icne b222 d222_181 rfl rfl (by decide +kernel) bw2 hx1 (fun c3 => w_f b222 d222_215 rfl (pf_iinc rfl rfl) rfl <| w_j b222 d222_218 rfl (by decide +kernel) <| (((h.2 c1).2 w2 lw2 bw2).1 c3)) (fun c3 => w_f b222 d222_184 rfl rfl rfl <| w_f b222 d222_185 rfl rfl rfl <| w_f b222 d222_187 rfl rfl rfl <| w_cc b222 d222_188 rfl (pcl_v (n := 2) rfl rfl rfl (by decide +kernel) (sh_isOb lw2.sh (tlt 0 rfl) tbC_0) rfl rfl) rfl <| q74_1 lw2 hx7 ⟨by decide, by decide⟩ (((h.2 c1).2 w2 lw2 bw2).2 c3).1 (fun w4 lw4 bw4 => w_f b222 d222_191 rfl rfl rfl <| w_f b222 d222_192 rfl rfl rfl <| w_f b222 d222_194 rfl rfl rfl <| w_cc b222 d222_195 rfl (pcl_v (n := 2) rfl rfl rfl (by decide +kernel) (sh_isOb lw4.sh (tlt 0 rfl) tbC_0) rfl rfl) rfl <| q74_1 lw4 hx5 ⟨by decide, by decide⟩ ((((h.2 c1).2 w2 lw2 bw2).2 c3).2 w4 lw4 bw4).1 (fun w5 lw5 bw5 => w_icne b222 d222_198 rfl rfl (by decide +kernel) bw4 bw5 (fun c6 => w_f b222 d222_215 rfl (pf_iinc rfl rfl) rfl <| w_j b222 d222_218 rfl (by decide +kernel) <| ((((((h.2 c1).2 w2 lw2 bw2).2 c3).2 w4 lw4 bw4).2 w5 lw5 bw5).1 c6)) (fun c6 => w_f b222 d222_201 rfl rfl rfl <| w_f b222 d222_202 rfl rfl rfl <| w_f b222 d222_204 rfl rfl rfl <| w_cc b222 d222_205 rfl (pcl_v (n := 2) rfl rfl rfl (by decide +kernel) (sh_isOb lw5.sh (tlt 0 rfl) tbC_0) rfl rfl) rfl <| q74_3 lw5 hx7 ⟨by decide, by decide⟩ ((((((h.2 c1).2 w2 lw2 bw2).2 c3).2 w4 lw4 bw4).2 w5 lw5 bw5).2 c6).1 (fun w7 lw7 bw7 => w_f b222 d222_208 rfl rfl rfl <| w_icne b222 d222_210 rfl rfl (by decide +kernel) bw7 hx6 (fun c8 => w_f b222 d222_215 rfl (pf_iinc rfl rfl) rfl <| w_j b222 d222_218 rfl (by decide +kernel) <| ((((((((h.2 c1).2 w2 lw2 bw2).2 c3).2 w4 lw4 bw4).2 w5 lw5 bw5).2 c6).2 w7 lw7 bw7).1 c8)) (fun c8 => w_f b222 d222_213 rfl rfl rfl <| w_rz b222 d222_214 r222 (by decide) ((((((((h.2 c1).2 w2 lw2 bw2).2 c3).2 w4 lw4 bw4).2 w5 lw5 bw5).2 c6).2 w7 lw7 bw7).2 c8)))))))))
theorem v222_277 {w : PW} {Q : PO → PW → Prop} {m : Row} {H : Nat → Row} {n : Nat} {k0 : Option Row} {sn : Nat} {sf : Nat → Int32} {x1 : Int} {x2 : Int} {x3 : Int} {x4 : Int} {x5 : Int} {x6 : Int} {o7 : Option Value} {o8 : Option Value} {o9 : Option Value} (hl : LW w m H n k0 sn sf) (hx1 : bd x1) (hx2 : bd x2) (hx3 : bd x3) (hx4 : bd x4) (hx5 : bd x5) (hx6 : bd x6) (ho7 : pc2 o7 = false) (ho8 : pc2 o8 = false) (ho9 : pc2 o9 = false) (h : (x5 ≤ x6 → (0 ≤ x1 ∧ x1 < m 1) ∧ ∀ w2 : PW, LW w2 m H n k0 sn sf → bd (((sNotes m x1 : Nat) : Int) - ((sPlayed m x1 : Nat) : Int)) → ((((sNotes m x1 : Nat) : Int) - ((sPlayed m x1 : Nat) : Int)) ≠ 0 → pX 222 416 [some (.ref 0), some (iv x1), some (iv x2), some (iv x3), some (iv x4), some (iv x5), some (iv 0), some (iv 0), o8, o9] [] w2 Q) ∧ ((((sNotes m x1 : Nat) : Int) - ((sPlayed m x1 : Nat) : Int)) = 0 → (0 ≤ x1 ∧ x1 < m 1) ∧ ∀ w4 : PW, LW w4 m H n k0 sn sf → bd (sPins m (x1).toNat - (sPlayed m x1 : Nat)) → ((sPins m (x1).toNat - (sPlayed m x1 : Nat)) ≠ 0 → pX 222 416 [some (.ref 0), some (iv x1), some (iv x2), some (iv x3), some (iv x4), some (iv x5), some (iv 0), some (iv 0), o8, o9] [] w4 Q) ∧ ((sPins m (x1).toNat - (sPlayed m x1 : Nat)) = 0 → (x5 ≠ 0 → pX 222 416 [some (.ref 0), some (iv x1), some (iv x2), some (iv x3), some (iv x4), some (iv x5), some (iv 0), some (iv 0), o8, o9] [] w4 Q) ∧ (x5 = 0 → pX 222 416 [some (.ref 0), some (iv x1), some (iv x2), some (iv x3), some (iv x4), some (iv x5), some (iv 1), some (iv 0), o8, o9] [] w4 Q)))) ∧ (x6 < x5 → (0 ≤ x1 ∧ x1 < m 1) ∧ (0 ≤ (0 : Int) ∧ (0 : Int) ≤ 3) ∧ ∀ w7 : PW, LW w7 m H n k0 sn sf → bd (sCfA m (x1).toNat x6 (0 : Int)) → (0 ≤ x1 ∧ x1 < m 1) ∧ (0 ≤ (1 : Int) ∧ (1 : Int) ≤ 3) ∧ ∀ w8 : PW, LW w8 m H n k0 sn sf → bd (sCfA m (x1).toNat x6 (1 : Int)) → (0 ≤ x1 ∧ x1 < m 1) ∧ (0 ≤ (2 : Int) ∧ (2 : Int) ≤ 3) ∧ ∀ w9 : PW, LW w9 m H n k0 sn sf → bd (sCfA m (x1).toNat x6 (2 : Int)) → (0 ≤ x1 ∧ x1 < m 1) ∧ (0 ≤ (sCfA m (x1).toNat x6 (1 : Int)) ∧ (sCfA m (x1).toNat x6 (1 : Int)) < m 0) ∧ (0 ≤ (sCfA m (x1).toNat x6 (0 : Int)) ∧ (sCfA m (x1).toNat x6 (0 : Int)) < m 4) ∧ ∀ w10 : PW, LW w10 m H n k0 sn sf → ((¬ (rPin m (x1).toNat ((sCfA m (x1).toNat x6 (1 : Int))).toNat ((sCfA m (x1).toNat x6 (0 : Int))).toNat = true)) → Q (.inl (some (iv 0))) w10) ∧ ((rPin m (x1).toNat ((sCfA m (x1).toNat x6 (1 : Int))).toNat ((sCfA m (x1).toNat x6 (0 : Int))).toNat = true) → (0 ≤ x1 ∧ x1 < m 1) ∧ (0 ≤ (sCfA m (x1).toNat x6 (2 : Int)) ∧ (sCfA m (x1).toNat x6 (2 : Int)) < m 0) ∧ (0 ≤ (sCfA m (x1).toNat x6 (0 : Int)) ∧ (sCfA m (x1).toNat x6 (0 : Int)) < m 4) ∧ ∀ w12 : PW, LW w12 m H n k0 sn sf → ((¬ (rPin m (x1).toNat ((sCfA m (x1).toNat x6 (2 : Int))).toNat ((sCfA m (x1).toNat x6 (0 : Int))).toNat = true)) → Q (.inl (some (iv 0))) w12) ∧ ((rPin m (x1).toNat ((sCfA m (x1).toNat x6 (2 : Int))).toNat ((sCfA m (x1).toNat x6 (0 : Int))).toNat = true) → (0 ≤ x1 ∧ x1 < m 1) ∧ (0 ≤ (3 : Int) ∧ (3 : Int) ≤ 3) ∧ ∀ w14 : PW, LW w14 m H n k0 sn sf → bd (sCfA m (x1).toNat x6 (3 : Int)) → (0 ≤ (sCfA m (x1).toNat x6 (0 : Int)) ∧ (sCfA m (x1).toNat x6 (0 : Int)) < m 4) ∧ ∀ w15 : PW, LW w15 m H n k0 sn sf → bd (sNeed m ((sCfA m (x1).toNat x6 (0 : Int))).toNat) → (0 ≤ (sCfA m (x1).toNat x6 (1 : Int)) ∧ (sCfA m (x1).toNat x6 (1 : Int)) < m 0) ∧ (0 ≤ (sCfA m (x1).toNat x6 (2 : Int)) ∧ (sCfA m (x1).toNat x6 (2 : Int)) < m 0) ∧ ∀ w16 : PW, LW w16 m H n k0 sn sf → bd (wayI (m 0) (sCfA m (x1).toNat x6 (1 : Int)) (sCfA m (x1).toNat x6 (2 : Int))) → (bd ((sNeed m ((sCfA m (x1).toNat x6 (0 : Int))).toNat) - (wayI (m 0) (sCfA m (x1).toNat x6 (1 : Int)) (sCfA m (x1).toNat x6 (2 : Int))))) ∧ ((sCfA m (x1).toNat x6 (3 : Int)) ≠ ((sNeed m ((sCfA m (x1).toNat x6 (0 : Int))).toNat) - (wayI (m 0) (sCfA m (x1).toNat x6 (1 : Int)) (sCfA m (x1).toNat x6 (2 : Int)))) → Q (.inl (some (iv 0))) w16) ∧ ((sCfA m (x1).toNat x6 (3 : Int)) = ((sNeed m ((sCfA m (x1).toNat x6 (0 : Int))).toNat) - (wayI (m 0) (sCfA m (x1).toNat x6 (1 : Int)) (sCfA m (x1).toNat x6 (2 : Int)))) → (0 ≤ x1 ∧ x1 < m 1) ∧ (0 ≤ (3 : Int) ∧ (3 : Int) ≤ 3) ∧ ∀ w18 : PW, LW w18 m H n k0 sn sf → bd (sCfA m (x1).toNat x6 (3 : Int)) → (1 ≤ (sCfA m (x1).toNat x6 (3 : Int)) → pX 222 277 [some (.ref 0), some (iv x1), some (iv x2), some (iv x3), some (iv x4), some (iv x5), some (iv (x6 + 1)), some (iv (sCfA m (x1).toNat x6 (0 : Int))), some (iv (sCfA m (x1).toNat x6 (1 : Int))), some (iv (sCfA m (x1).toNat x6 (2 : Int)))] [] w18 Q) ∧ ((sCfA m (x1).toNat x6 (3 : Int)) < 1 → Q (.inl (some (iv 0))) w18)))))) : pX 222 277 [some (.ref 0), some (iv x1), some (iv x2), some (iv x3), some (iv x4), some (iv x5), some (iv x6), o7, o8, o9] [] w Q :=
  w_f b222 d222_277 rfl rfl rfl <| w_f b222 d222_279 rfl rfl rfl <| w_icge b222 d222_281 rfl rfl (by decide +kernel) hx6 hx5 (fun c1 => w_f b222 d222_385 rfl rfl rfl <| w_f b222 d222_386 rfl rfl rfl <| w_cc b222 d222_387 rfl (pcl_v (n := 1) rfl rfl rfl (by decide +kernel) (sh_isOb hl.sh (tlt 0 rfl) tbC_0) rfl rfl) rfl <| q108 hl hx1 (h.1 c1).1 (fun w2 lw2 bw2 => w_ifne b222 d222_390 rfl rfl (by decide +kernel) bw2 (fun c3 => w_f b222 d222_410 rfl rfl rfl <| w_f b222 d222_411 rfl rfl rfl <| w_f b222 d222_413 rfl rfl rfl <| w_f b222 d222_414 rfl rfl rfl <| (((h.1 c1).2 w2 lw2 bw2).1 c3)) (fun c3 => w_f b222 d222_393 rfl rfl rfl <| w_f b222 d222_394 rfl rfl rfl <| w_cc b222 d222_395 rfl (pcl_v (n := 1) rfl rfl rfl (by decide +kernel) (sh_isOb lw2.sh (tlt 0 rfl) tbC_0) rfl rfl) rfl <| q110 lw2 hx1 (((h.1 c1).2 w2 lw2 bw2).2 c3).1 (fun w4 lw4 bw4 => w_ifne b222 d222_398 rfl rfl (by decide +kernel) bw4 (fun c5 => w_f b222 d222_410 rfl rfl rfl <| w_f b222 d222_411 rfl rfl rfl <| w_f b222 d222_413 rfl rfl rfl <| w_f b222 d222_414 rfl rfl rfl <| (((((h.1 c1).2 w2 lw2 bw2).2 c3).2 w4 lw4 bw4).1 c5)) (fun c5 => w_f b222 d222_401 rfl rfl rfl <| w_ifne b222 d222_403 rfl rfl (by decide +kernel) hx5 (fun c6 => w_f b222 d222_410 rfl rfl rfl <| w_f b222 d222_411 rfl rfl rfl <| w_f b222 d222_413 rfl rfl rfl <| w_f b222 d222_414 rfl rfl rfl <| ((((((h.1 c1).2 w2 lw2 bw2).2 c3).2 w4 lw4 bw4).2 c5).1 c6)) (fun c6 => w_f b222 d222_406 rfl rfl rfl <| w_j b222 d222_407 rfl (by decide +kernel) <| w_f b222 d222_411 rfl rfl rfl <| w_f b222 d222_413 rfl rfl rfl <| w_f b222 d222_414 rfl rfl rfl <| ((((((h.1 c1).2 w2 lw2 bw2).2 c3).2 w4 lw4 bw4).2 c5).2 c6))))))) (fun c1 => w_f b222 d222_284 rfl rfl rfl <| w_f b222 d222_285 rfl rfl rfl <| w_f b222 d222_286 rfl rfl rfl <| w_f b222 d222_288 rfl rfl rfl <| w_cc b222 d222_289 rfl (pcl_v (n := 3) rfl rfl rfl (by decide +kernel) (sh_isOb hl.sh (tlt 0 rfl) tbC_0) rfl rfl) rfl <| q97 hl hx1 hx6 ⟨by decide, by decide⟩ (h.2 c1).1 (h.2 c1).2.1 (fun w7 lw7 bw7 => w_f b222 d222_292 rfl rfl rfl <| w_f b222 d222_294 rfl rfl rfl <| w_f b222 d222_295 rfl rfl rfl <| w_f b222 d222_296 rfl rfl rfl <| w_f b222 d222_298 rfl rfl rfl <| w_cc b222 d222_299 rfl (pcl_v (n := 3) rfl rfl rfl (by decide +kernel) (sh_isOb lw7.sh (tlt 0 rfl) tbC_0) rfl rfl) rfl <| q97 lw7 hx1 hx6 ⟨by decide, by decide⟩ ((h.2 c1).2.2 w7 lw7 bw7).1 ((h.2 c1).2.2 w7 lw7 bw7).2.1 (fun w8 lw8 bw8 => w_f b222 d222_302 rfl rfl rfl <| w_f b222 d222_304 rfl rfl rfl <| w_f b222 d222_305 rfl rfl rfl <| w_f b222 d222_306 rfl rfl rfl <| w_f b222 d222_308 rfl rfl rfl <| w_cc b222 d222_309 rfl (pcl_v (n := 3) rfl rfl rfl (by decide +kernel) (sh_isOb lw8.sh (tlt 0 rfl) tbC_0) rfl rfl) rfl <| q97 lw8 hx1 hx6 ⟨by decide, by decide⟩ (((h.2 c1).2.2 w7 lw7 bw7).2.2 w8 lw8 bw8).1 (((h.2 c1).2.2 w7 lw7 bw7).2.2 w8 lw8 bw8).2.1 (fun w9 lw9 bw9 => w_f b222 d222_312 rfl rfl rfl <| w_f b222 d222_314 rfl rfl rfl <| w_f b222 d222_315 rfl rfl rfl <| w_f b222 d222_316 rfl rfl rfl <| w_f b222 d222_318 rfl rfl rfl <| w_cc b222 d222_320 rfl (pcl_v (n := 3) rfl rfl rfl (by decide +kernel) (sh_isOb lw9.sh (tlt 0 rfl) tbC_0) rfl rfl) rfl <| q79 lw9 hx1 bw8 bw7 ((((h.2 c1).2.2 w7 lw7 bw7).2.2 w8 lw8 bw8).2.2 w9 lw9 bw9).1 ((((h.2 c1).2.2 w7 lw7 bw7).2.2 w8 lw8 bw8).2.2 w9 lw9 bw9).2.1 ((((h.2 c1).2.2 w7 lw7 bw7).2.2 w8 lw8 bw8).2.2 w9 lw9 bw9).2.2.1 (fun w10 lw10 => w_ifeqZ b222 d222_323 rfl rfl (by decide +kernel) (fun c11 => w_f b222 d222_377 rfl rfl rfl <| w_rz b222 d222_378 r222 (by decide) ((((((h.2 c1).2.2 w7 lw7 bw7).2.2 w8 lw8 bw8).2.2 w9 lw9 bw9).2.2.2 w10 lw10).1 c11)) (fun c11 => w_f b222 d222_326 rfl rfl rfl <| w_f b222 d222_327 rfl rfl rfl <| w_f b222 d222_328 rfl rfl rfl <| w_f b222 d222_330 rfl rfl rfl <| w_cc b222 d222_332 rfl (pcl_v (n := 3) rfl rfl rfl (by decide +kernel) (sh_isOb lw10.sh (tlt 0 rfl) tbC_0) rfl rfl) rfl <| q79 lw10 hx1 bw9 bw7 ((((((h.2 c1).2.2 w7 lw7 bw7).2.2 w8 lw8 bw8).2.2 w9 lw9 bw9).2.2.2 w10 lw10).2 c11).1 ((((((h.2 c1).2.2 w7 lw7 bw7).2.2 w8 lw8 bw8).2.2 w9 lw9 bw9).2.2.2 w10 lw10).2 c11).2.1 ((((((h.2 c1).2.2 w7 lw7 bw7).2.2 w8 lw8 bw8).2.2 w9 lw9 bw9).2.2.2 w10 lw10).2 c11).2.2.1 (fun w12 lw12 => w_ifeqZ b222 d222_335 rfl rfl (by decide +kernel) (fun c13 => w_f b222 d222_377 rfl rfl rfl <| w_rz b222 d222_378 r222 (by decide) ((((((((h.2 c1).2.2 w7 lw7 bw7).2.2 w8 lw8 bw8).2.2 w9 lw9 bw9).2.2.2 w10 lw10).2 c11).2.2.2 w12 lw12).1 c13)) (fun c13 => w_f b222 d222_338 rfl rfl rfl <| w_f b222 d222_339 rfl rfl rfl <| w_f b222 d222_340 rfl rfl rfl <| w_f b222 d222_342 rfl rfl rfl <| w_cc b222 d222_343 rfl (pcl_v (n := 3) rfl rfl rfl (by decide +kernel) (sh_isOb lw12.sh (tlt 0 rfl) tbC_0) rfl rfl) rfl <| q97 lw12 hx1 hx6 ⟨by decide, by decide⟩ ((((((((h.2 c1).2.2 w7 lw7 bw7).2.2 w8 lw8 bw8).2.2 w9 lw9 bw9).2.2.2 w10 lw10).2 c11).2.2.2 w12 lw12).2 c13).1 ((((((((h.2 c1).2.2 w7 lw7 bw7).2.2 w8 lw8 bw8).2.2 w9 lw9 bw9).2.2.2 w10 lw10).2 c11).2.2.2 w12 lw12).2 c13).2.1 (fun w14 lw14 bw14 => w_f b222 d222_346 rfl rfl rfl <| w_f b222 d222_347 rfl rfl rfl <| w_f b222 d222_349 rfl rfl rfl <| w_cc b222 d222_350 rfl (pcl_v (n := 2) rfl rfl rfl (by decide +kernel) (sh_isOb lw14.sh (tlt 0 rfl) tbC_0) rfl rfl) rfl <| q69_2 lw14 bw7 ⟨by decide, by decide⟩ (((((((((h.2 c1).2.2 w7 lw7 bw7).2.2 w8 lw8 bw8).2.2 w9 lw9 bw9).2.2.2 w10 lw10).2 c11).2.2.2 w12 lw12).2 c13).2.2 w14 lw14 bw14).1 (fun w15 lw15 bw15 => w_f b222 d222_353 rfl rfl rfl <| w_f b222 d222_354 rfl rfl rfl <| w_f b222 d222_356 rfl rfl rfl <| w_cc b222 d222_358 rfl (pcl_s1 (n := 3) rfl rfl rfl (by decide +kernel) rfl rfl) rfl <| q219 lw15 bw8 bw9 ((((((((((h.2 c1).2.2 w7 lw7 bw7).2.2 w8 lw8 bw8).2.2 w9 lw9 bw9).2.2.2 w10 lw10).2 c11).2.2.2 w12 lw12).2 c13).2.2 w14 lw14 bw14).2 w15 lw15 bw15).1 ((((((((((h.2 c1).2.2 w7 lw7 bw7).2.2 w8 lw8 bw8).2.2 w9 lw9 bw9).2.2.2 w10 lw10).2 c11).2.2.2 w12 lw12).2 c13).2.2 w14 lw14 bw14).2 w15 lw15 bw15).2.1 (fun w16 lw16 bw16 => w_f b222 d222_361 rfl (pf_isub (sNeed m ((sCfA m (x1).toNat x6 (0 : Int))).toNat) (wayI (m 0) (sCfA m (x1).toNat x6 (1 : Int)) (sCfA m (x1).toNat x6 (2 : Int)))) rfl <| w_icne b222 d222_362 rfl rfl (by decide +kernel) bw14 (((((((((((h.2 c1).2.2 w7 lw7 bw7).2.2 w8 lw8 bw8).2.2 w9 lw9 bw9).2.2.2 w10 lw10).2 c11).2.2.2 w12 lw12).2 c13).2.2 w14 lw14 bw14).2 w15 lw15 bw15).2.2 w16 lw16 bw16).1 (fun c17 => w_f b222 d222_377 rfl rfl rfl <| w_rz b222 d222_378 r222 (by decide) ((((((((((((h.2 c1).2.2 w7 lw7 bw7).2.2 w8 lw8 bw8).2.2 w9 lw9 bw9).2.2.2 w10 lw10).2 c11).2.2.2 w12 lw12).2 c13).2.2 w14 lw14 bw14).2 w15 lw15 bw15).2.2 w16 lw16 bw16).2.1 c17)) (fun c17 => w_f b222 d222_365 rfl rfl rfl <| w_f b222 d222_366 rfl rfl rfl <| w_f b222 d222_367 rfl rfl rfl <| w_f b222 d222_369 rfl rfl rfl <| w_cc b222 d222_370 rfl (pcl_v (n := 3) rfl rfl rfl (by decide +kernel) (sh_isOb lw16.sh (tlt 0 rfl) tbC_0) rfl rfl) rfl <| q97 lw16 hx1 hx6 ⟨by decide, by decide⟩ ((((((((((((h.2 c1).2.2 w7 lw7 bw7).2.2 w8 lw8 bw8).2.2 w9 lw9 bw9).2.2.2 w10 lw10).2 c11).2.2.2 w12 lw12).2 c13).2.2 w14 lw14 bw14).2 w15 lw15 bw15).2.2 w16 lw16 bw16).2.2 c17).1 ((((((((((((h.2 c1).2.2 w7 lw7 bw7).2.2 w8 lw8 bw8).2.2 w9 lw9 bw9).2.2.2 w10 lw10).2 c11).2.2.2 w12 lw12).2 c13).2.2 w14 lw14 bw14).2 w15 lw15 bw15).2.2 w16 lw16 bw16).2.2 c17).2.1 (fun w18 lw18 bw18 => w_f b222 d222_373 rfl rfl rfl <| w_icge b222 d222_374 rfl rfl (by decide +kernel) bw18 ⟨by decide, by decide⟩ (fun c19 => w_f b222 d222_379 rfl (pf_iinc rfl rfl) rfl <| w_j b222 d222_382 rfl (by decide +kernel) <| ((((((((((((((h.2 c1).2.2 w7 lw7 bw7).2.2 w8 lw8 bw8).2.2 w9 lw9 bw9).2.2.2 w10 lw10).2 c11).2.2.2 w12 lw12).2 c13).2.2 w14 lw14 bw14).2 w15 lw15 bw15).2.2 w16 lw16 bw16).2.2 c17).2.2 w18 lw18 bw18).1 c19)) (fun c19 => w_f b222 d222_377 rfl rfl rfl <| w_rz b222 d222_378 r222 (by decide) ((((((((((((((h.2 c1).2.2 w7 lw7 bw7).2.2 w8 lw8 bw8).2.2 w9 lw9 bw9).2.2.2 w10 lw10).2 c11).2.2.2 w12 lw12).2 c13).2.2 w14 lw14 bw14).2 w15 lw15 bw15).2.2 w16 lw16 bw16).2.2 c17).2.2 w18 lw18 bw18).2 c19)))))))))))))))
theorem v222_416 {w : PW} {Q : PO → PW → Prop} {m : Row} {H : Nat → Row} {n : Nat} {k0 : Option Row} {sn : Nat} {sf : Nat → Int32} {x1 : Int} {x2 : Int} {x3 : Int} {x4 : Int} {x5 : Int} {x6 : Int} {x7 : Int} {o8 : Option Value} {o9 : Option Value} (hl : LW w m H n k0 sn sf) (hx1 : bd x1) (hx2 : bd x2) (hx3 : bd x3) (hx4 : bd x4) (hx5 : bd x5) (hx6 : bd x6) (hx7 : bd x7) (ho8 : pc2 o8 = false) (ho9 : pc2 o9 = false) (h : ∀ w1 : PW, LW w1 m H n k0 sn sf → bd ((sCo m : Nat)) → (((sCo m : Nat)) ≤ x7 → (0 ≤ x1 ∧ x1 < m 1) ∧ ∀ w3 : PW, LW w3 m H n k0 sn sf → (((if sNotes m x1 = sPlayed m x1 ∧ sPins m (x1).toNat = (sPlayed m x1 : Nat) ∧ sCf m (x1).toNat = 0 ∧ ¬ (0 < cnt (sHasT m (x1).toNat) (m 4).toNat) then 1 else 0)) ≠ x6 → Q (.inl (some (iv 0))) w3) ∧ (((if sNotes m x1 = sPlayed m x1 ∧ sPins m (x1).toNat = (sPlayed m x1 : Nat) ∧ sCf m (x1).toNat = 0 ∧ ¬ (0 < cnt (sHasT m (x1).toNat) (m 4).toNat) then 1 else 0)) = x6 → (0 ≤ x1 ∧ x1 < m 1) ∧ ∀ w5 : PW, LW w5 m H n k0 sn sf → bd ((sFullA m (x1).toNat (m 0).toNat).1) → (0 ≤ ((sFullA m (x1).toNat (m 0).toNat).1) → pX 222 490 [some (.ref 0), some (iv x1), some (iv x2), some (iv x3), some (iv x4), some (iv x5), some (iv x6), some (iv x7), o8, o9] [iv 0] w5 Q) ∧ (((sFullA m (x1).toNat (m 0).toNat).1) < 0 → pX 222 490 [some (.ref 0), some (iv x1), some (iv x2), some (iv x3), some (iv x4), some (iv x5), some (iv x6), some (iv x7), o8, o9] [iv 1] w5 Q))) ∧ (x7 < ((sCo m : Nat)) → (x6 = 0 → pX 222 416 [some (.ref 0), some (iv x1), some (iv x2), some (iv x3), some (iv x4), some (iv x5), some (iv 0), some (iv (x7 + 1)), o8, o9] [] w1 Q) ∧ (x6 ≠ 0 → (0 ≤ (0 : Int) ∧ (0 : Int) ≤ 5) ∧ ∀ w8 : PW, LW w8 m H n k0 sn sf → bd (sCoQ m x7 (0 : Int)) → ((sCoQ m x7 (0 : Int)) = x1 → pX 222 416 [some (.ref 0), some (iv x1), some (iv x2), some (iv x3), some (iv x4), some (iv x5), some (iv 0), some (iv (x7 + 1)), o8, o9] [] w8 Q) ∧ ((sCoQ m x7 (0 : Int)) ≠ x1 → (0 ≤ (3 : Int) ∧ (3 : Int) ≤ 5) ∧ ∀ w10 : PW, LW w10 m H n k0 sn sf → bd (sCoQ m x7 (3 : Int)) → ((sCoQ m x7 (3 : Int)) = x1 → pX 222 416 [some (.ref 0), some (iv x1), some (iv x2), some (iv x3), some (iv x4), some (iv x5), some (iv 0), some (iv (x7 + 1)), o8, o9] [] w10 Q) ∧ ((sCoQ m x7 (3 : Int)) ≠ x1 → pX 222 416 [some (.ref 0), some (iv x1), some (iv x2), some (iv x3), some (iv x4), some (iv x5), some (iv 1), some (iv (x7 + 1)), o8, o9] [] w10 Q))))) : pX 222 416 [some (.ref 0), some (iv x1), some (iv x2), some (iv x3), some (iv x4), some (iv x5), some (iv x6), some (iv x7), o8, o9] [] w Q :=
  w_f b222 d222_416 rfl rfl rfl <| w_f b222 d222_418 rfl rfl rfl <| w_f b222 d222_419 rfl rfl rfl <| w_cc b222 d222_421 rfl (pcl_v (n := 1) rfl rfl rfl (by decide +kernel) (sh_isOb hl.sh (tlt 0 rfl) tbC_0) rfl rfl) rfl <| q65_12 hl ⟨by decide, by decide⟩ (fun w1 lw1 bw1 => w_icge b222 d222_424 rfl rfl (by decide +kernel) hx7 bw1 (fun c2 => w_f b222 d222_467 rfl rfl rfl <| w_f b222 d222_468 rfl rfl rfl <| w_cc b222 d222_469 rfl (pcl_v (n := 1) rfl rfl rfl (by decide +kernel) (sh_isOb lw1.sh (tlt 0 rfl) tbC_0) rfl rfl) rfl <| q113 lw1 hx1 ((h w1 lw1 bw1).1 c2).1 (fun w3 lw3 => w_f b222 d222_472 rfl rfl rfl <| w_icne b222 d222_474 rfl rfl (by decide +kernel) (bdZ _) hx6 (fun c4 => w_f b222 d222_531 rfl rfl rfl <| w_rz b222 d222_532 r222 (by decide) ((((h w1 lw1 bw1).1 c2).2 w3 lw3).1 c4)) (fun c4 => w_f b222 d222_477 rfl rfl rfl <| w_f b222 d222_478 rfl rfl rfl <| w_cc b222 d222_479 rfl (pcl_v (n := 1) rfl rfl rfl (by decide +kernel) (sh_isOb lw3.sh (tlt 0 rfl) tbC_0) rfl rfl) rfl <| q88 lw3 hx1 ((((h w1 lw1 bw1).1 c2).2 w3 lw3).2 c4).1 (fun w5 lw5 bw5 => w_ifge b222 d222_482 rfl rfl (by decide +kernel) bw5 (fun c6 => w_f b222 d222_489 rfl rfl rfl <| ((((((h w1 lw1 bw1).1 c2).2 w3 lw3).2 c4).2 w5 lw5 bw5).1 c6)) (fun c6 => w_f b222 d222_485 rfl rfl rfl <| w_j b222 d222_486 rfl (by decide +kernel) <| ((((((h w1 lw1 bw1).1 c2).2 w3 lw3).2 c4).2 w5 lw5 bw5).2 c6)))))) (fun c2 => w_f b222 d222_427 rfl rfl rfl <| w_ifeq b222 d222_429 rfl rfl (by decide +kernel) hx6 (fun c7 => w_f b222 d222_458 rfl rfl rfl <| w_f b222 d222_459 rfl rfl rfl <| w_f b222 d222_461 rfl (pf_iinc rfl rfl) rfl <| w_j b222 d222_464 rfl (by decide +kernel) <| (((h w1 lw1 bw1).2 c2).1 c7)) (fun c7 => w_f b222 d222_432 rfl rfl rfl <| w_f b222 d222_433 rfl rfl rfl <| w_f b222 d222_435 rfl rfl rfl <| w_cc b222 d222_436 rfl (pcl_v (n := 2) rfl rfl rfl (by decide +kernel) (sh_isOb lw1.sh (tlt 0 rfl) tbC_0) rfl rfl) rfl <| q104 lw1 hx7 ⟨by decide, by decide⟩ (((h w1 lw1 bw1).2 c2).2 c7).1 (fun w8 lw8 bw8 => w_f b222 d222_439 rfl rfl rfl <| w_iceq b222 d222_440 rfl rfl (by decide +kernel) bw8 hx1 (fun c9 => w_f b222 d222_458 rfl rfl rfl <| w_f b222 d222_459 rfl rfl rfl <| w_f b222 d222_461 rfl (pf_iinc rfl rfl) rfl <| w_j b222 d222_464 rfl (by decide +kernel) <| (((((h w1 lw1 bw1).2 c2).2 c7).2 w8 lw8 bw8).1 c9)) (fun c9 => w_f b222 d222_443 rfl rfl rfl <| w_f b222 d222_444 rfl rfl rfl <| w_f b222 d222_446 rfl rfl rfl <| w_cc b222 d222_447 rfl (pcl_v (n := 2) rfl rfl rfl (by decide +kernel) (sh_isOb lw8.sh (tlt 0 rfl) tbC_0) rfl rfl) rfl <| q104 lw8 hx7 ⟨by decide, by decide⟩ (((((h w1 lw1 bw1).2 c2).2 c7).2 w8 lw8 bw8).2 c9).1 (fun w10 lw10 bw10 => w_f b222 d222_450 rfl rfl rfl <| w_iceq b222 d222_451 rfl rfl (by decide +kernel) bw10 hx1 (fun c11 => w_f b222 d222_458 rfl rfl rfl <| w_f b222 d222_459 rfl rfl rfl <| w_f b222 d222_461 rfl (pf_iinc rfl rfl) rfl <| w_j b222 d222_464 rfl (by decide +kernel) <| (((((((h w1 lw1 bw1).2 c2).2 c7).2 w8 lw8 bw8).2 c9).2 w10 lw10 bw10).1 c11)) (fun c11 => w_f b222 d222_454 rfl rfl rfl <| w_j b222 d222_455 rfl (by decide +kernel) <| w_f b222 d222_459 rfl rfl rfl <| w_f b222 d222_461 rfl (pf_iinc rfl rfl) rfl <| w_j b222 d222_464 rfl (by decide +kernel) <| (((((((h w1 lw1 bw1).2 c2).2 c7).2 w8 lw8 bw8).2 c9).2 w10 lw10 bw10).2 c11))))))))
theorem v222_490 {w : PW} {Q : PO → PW → Prop} {m : Row} {H : Nat → Row} {n : Nat} {k0 : Option Row} {sn : Nat} {sf : Nat → Int32} {x1 : Int} {x2 : Int} {x3 : Int} {x4 : Int} {x5 : Int} {x6 : Int} {x7 : Int} {o8 : Option Value} {o9 : Option Value} {z0 : Int} (hl : LW w m H n k0 sn sf) (hx1 : bd x1) (hx2 : bd x2) (hx3 : bd x3) (hx4 : bd x4) (hx5 : bd x5) (hx6 : bd x6) (hx7 : bd x7) (ho8 : pc2 o8 = false) (ho9 : pc2 o9 = false) (hz0 : bd z0) (h : (x2 ≠ 0 → (z0 ≠ 0 → Q (.inl (some (iv 0))) w) ∧ (z0 = 0 → (0 ≤ x1 ∧ x1 < m 1) ∧ ∀ w3 : PW, LW w3 m H n k0 sn sf → bd (sSilA m (x1).toNat (m 0).toNat) → (0 ≤ (sSilA m (x1).toNat (m 0).toNat) → (x2 ≠ 0 → Q (.inl (some (iv 1))) w3) ∧ (x2 = 0 → Q (.inl (some (iv 0))) w3)) ∧ ((sSilA m (x1).toNat (m 0).toNat) < 0 → (x2 ≠ 0 → Q (.inl (some (iv 0))) w3) ∧ (x2 = 0 → Q (.inl (some (iv 1))) w3)))) ∧ (x2 = 0 → (z0 ≠ 1 → Q (.inl (some (iv 0))) w) ∧ (z0 = 1 → (0 ≤ x1 ∧ x1 < m 1) ∧ ∀ w8 : PW, LW w8 m H n k0 sn sf → bd (sSilA m (x1).toNat (m 0).toNat) → (0 ≤ (sSilA m (x1).toNat (m 0).toNat) → (x2 ≠ 0 → Q (.inl (some (iv 1))) w8) ∧ (x2 = 0 → Q (.inl (some (iv 0))) w8)) ∧ ((sSilA m (x1).toNat (m 0).toNat) < 0 → (x2 ≠ 0 → Q (.inl (some (iv 0))) w8) ∧ (x2 = 0 → Q (.inl (some (iv 1))) w8))))) : pX 222 490 [some (.ref 0), some (iv x1), some (iv x2), some (iv x3), some (iv x4), some (iv x5), some (iv x6), some (iv x7), o8, o9] [iv z0] w Q :=
  w_f b222 d222_490 rfl rfl rfl <| w_ifne b222 d222_491 rfl rfl (by decide +kernel) hx2 (fun c1 => w_f b222 d222_498 rfl rfl rfl <| w_icne b222 d222_499 rfl rfl (by decide +kernel) hz0 ⟨by decide, by decide⟩ (fun c2 => w_f b222 d222_531 rfl rfl rfl <| w_rz b222 d222_532 r222 (by decide) ((h.1 c1).1 c2)) (fun c2 => w_f b222 d222_502 rfl rfl rfl <| w_f b222 d222_503 rfl rfl rfl <| w_cc b222 d222_504 rfl (pcl_v (n := 1) rfl rfl rfl (by decide +kernel) (sh_isOb hl.sh (tlt 0 rfl) tbC_0) rfl rfl) rfl <| q155 hl hx1 ((h.1 c1).2 c2).1 (fun w3 lw3 bw3 => w_ifge b222 d222_507 rfl rfl (by decide +kernel) bw3 (fun c4 => w_f b222 d222_514 rfl rfl rfl <| w_f b222 d222_515 rfl rfl rfl <| w_ifne b222 d222_516 rfl rfl (by decide +kernel) hx2 (fun c5 => w_f b222 d222_523 rfl rfl rfl <| w_icne b222 d222_524 rfl rfl (by decide +kernel) ⟨by decide, by decide⟩ ⟨by decide, by decide⟩ (fun c => absurd c (by decide)) (fun _ => w_f b222 d222_527 rfl rfl rfl <| w_j b222 d222_528 rfl (by decide +kernel) <| w_rz b222 d222_532 r222 (by decide) (((((h.1 c1).2 c2).2 w3 lw3 bw3).1 c4).1 c5))) (fun c5 => w_f b222 d222_519 rfl rfl rfl <| w_j b222 d222_520 rfl (by decide +kernel) <| w_icne b222 d222_524 rfl rfl (by decide +kernel) ⟨by decide, by decide⟩ ⟨by decide, by decide⟩ (fun _ => w_f b222 d222_531 rfl rfl rfl <| w_rz b222 d222_532 r222 (by decide) (((((h.1 c1).2 c2).2 w3 lw3 bw3).1 c4).2 c5)) (fun c => absurd c (by decide)))) (fun c4 => w_f b222 d222_510 rfl rfl rfl <| w_j b222 d222_511 rfl (by decide +kernel) <| w_f b222 d222_515 rfl rfl rfl <| w_ifne b222 d222_516 rfl rfl (by decide +kernel) hx2 (fun c6 => w_f b222 d222_523 rfl rfl rfl <| w_icne b222 d222_524 rfl rfl (by decide +kernel) ⟨by decide, by decide⟩ ⟨by decide, by decide⟩ (fun _ => w_f b222 d222_531 rfl rfl rfl <| w_rz b222 d222_532 r222 (by decide) (((((h.1 c1).2 c2).2 w3 lw3 bw3).2 c4).1 c6)) (fun c => absurd c (by decide))) (fun c6 => w_f b222 d222_519 rfl rfl rfl <| w_j b222 d222_520 rfl (by decide +kernel) <| w_icne b222 d222_524 rfl rfl (by decide +kernel) ⟨by decide, by decide⟩ ⟨by decide, by decide⟩ (fun c => absurd c (by decide)) (fun _ => w_f b222 d222_527 rfl rfl rfl <| w_j b222 d222_528 rfl (by decide +kernel) <| w_rz b222 d222_532 r222 (by decide) (((((h.1 c1).2 c2).2 w3 lw3 bw3).2 c4).2 c6))))))) (fun c1 => w_f b222 d222_494 rfl rfl rfl <| w_j b222 d222_495 rfl (by decide +kernel) <| w_icne b222 d222_499 rfl rfl (by decide +kernel) hz0 ⟨by decide, by decide⟩ (fun c7 => w_f b222 d222_531 rfl rfl rfl <| w_rz b222 d222_532 r222 (by decide) ((h.2 c1).1 c7)) (fun c7 => w_f b222 d222_502 rfl rfl rfl <| w_f b222 d222_503 rfl rfl rfl <| w_cc b222 d222_504 rfl (pcl_v (n := 1) rfl rfl rfl (by decide +kernel) (sh_isOb hl.sh (tlt 0 rfl) tbC_0) rfl rfl) rfl <| q155 hl hx1 ((h.2 c1).2 c7).1 (fun w8 lw8 bw8 => w_ifge b222 d222_507 rfl rfl (by decide +kernel) bw8 (fun c9 => w_f b222 d222_514 rfl rfl rfl <| w_f b222 d222_515 rfl rfl rfl <| w_ifne b222 d222_516 rfl rfl (by decide +kernel) hx2 (fun c10 => w_f b222 d222_523 rfl rfl rfl <| w_icne b222 d222_524 rfl rfl (by decide +kernel) ⟨by decide, by decide⟩ ⟨by decide, by decide⟩ (fun c => absurd c (by decide)) (fun _ => w_f b222 d222_527 rfl rfl rfl <| w_j b222 d222_528 rfl (by decide +kernel) <| w_rz b222 d222_532 r222 (by decide) (((((h.2 c1).2 c7).2 w8 lw8 bw8).1 c9).1 c10))) (fun c10 => w_f b222 d222_519 rfl rfl rfl <| w_j b222 d222_520 rfl (by decide +kernel) <| w_icne b222 d222_524 rfl rfl (by decide +kernel) ⟨by decide, by decide⟩ ⟨by decide, by decide⟩ (fun _ => w_f b222 d222_531 rfl rfl rfl <| w_rz b222 d222_532 r222 (by decide) (((((h.2 c1).2 c7).2 w8 lw8 bw8).1 c9).2 c10)) (fun c => absurd c (by decide)))) (fun c9 => w_f b222 d222_510 rfl rfl rfl <| w_j b222 d222_511 rfl (by decide +kernel) <| w_f b222 d222_515 rfl rfl rfl <| w_ifne b222 d222_516 rfl rfl (by decide +kernel) hx2 (fun c11 => w_f b222 d222_523 rfl rfl rfl <| w_icne b222 d222_524 rfl rfl (by decide +kernel) ⟨by decide, by decide⟩ ⟨by decide, by decide⟩ (fun _ => w_f b222 d222_531 rfl rfl rfl <| w_rz b222 d222_532 r222 (by decide) (((((h.2 c1).2 c7).2 w8 lw8 bw8).2 c9).1 c11)) (fun c => absurd c (by decide))) (fun c11 => w_f b222 d222_519 rfl rfl rfl <| w_j b222 d222_520 rfl (by decide +kernel) <| w_icne b222 d222_524 rfl rfl (by decide +kernel) ⟨by decide, by decide⟩ ⟨by decide, by decide⟩ (fun c => absurd c (by decide)) (fun _ => w_f b222 d222_527 rfl rfl rfl <| w_j b222 d222_528 rfl (by decide +kernel) <| w_rz b222 d222_532 r222 (by decide) (((((h.2 c1).2 c7).2 w8 lw8 bw8).2 c9).2 c11)))))))
section LTU
variable {Q : PO → PW → Prop} {m : Row} {H : Nat → Row} {n : Nat} {k0 : Option Row} {sn : Nat} {sf : Nat → Int32} {u : Nat}
theorem bd01 : bd 0 ∧ bd 1 := ⟨⟨by decide, by decide⟩, ⟨by decide, by decide⟩⟩
theorem l222_490 (hR : RowOK m) (hu : (u : Int) < m 1) {x3 x4 x5 x6 x7 z0 : Int} {o8 o9 : Option Value} (b3 : bd x3) (b4 : bd x4) (b5 : bd x5) (b6 : bd x6) (b7 : bd x7) (ho8 : pc2 o8 = false) (ho9 : pc2 o9 = false) (ez : z0 = if sPins m u = 0 then 1 else 0) (h : ∀ w', LW w' m H n k0 sn sf → Q (rI 1) w') :
    ∀ w, LW w m H n k0 sn sf → pX 222 490 [some (.ref 0), some (iv (u : Nat)), some (iv (sPins m u)), some (iv x3), some (iv x4), some (iv x5), some (iv x6), some (iv x7), o8, o9] [iv z0] w Q := by
  intro w l
  have h1 := hR.u
  have hp := sPins_bd hR u
  have hs := sil_pins m u
  have hb := sSilA_bd hR u (m 0).toNat
  refine v222_490 l (bdk (by omega)) ⟨by omega, by omega⟩ b3 b4 b5 b6 b7 ho8 ho9 (by rw [ez]; split; exact bd01.2; exact bd01.1) ?_
  rw [Int.toNat_natCast]
  refine ⟨fun q => ?_, fun q => ?_⟩
  · rw [if_neg q] at ez
    exact ⟨fun z => absurd ez z, fun _ => ⟨⟨by omega, by omega⟩, fun w3 l3 _ => ⟨fun _ => ⟨fun _ => h w3 l3, fun z => absurd z q⟩, fun z => absurd (hs.mp z) q⟩⟩⟩
  · rw [if_pos q] at ez
    exact ⟨fun z => absurd ez z, fun _ => ⟨⟨by omega, by omega⟩, fun w3 l3 _ => ⟨fun z => absurd (hs.mpr q) (by omega), fun _ => ⟨fun z => absurd q z, fun _ => h w3 l3⟩⟩⟩⟩
/-- no note is missing, no pin extra, no conflict -/
def clB (m : Row) (u : Nat) : Prop := sNotes m u = sPlayed m u ∧ sPins m u = (sPlayed m u : Nat) ∧ sCf m u = 0
def clT (m : Row) (u k : Nat) : Prop := sCoQ m (k : Nat) 0 = (u : Nat) ∨ sCoQ m (k : Nat) 3 = (u : Nat)
theorem l222_416 (hR : RowOK m) (hu : (u : Int) < m 1) {x3 x4 x5 : Int} {o8 o9 : Option Value} (b3 : bd x3) (b4 : bd x4) (b5 : bd x5) (ho8 : pc2 o8 = false) (ho9 : pc2 o9 = false) (h : ∀ w', LW w' m H n k0 sn sf → Q (rI 1) w') :
    ∀ k i : Nat, i + k = sCo m → ∀ (x6 : Int), ((x6 = 1 ∧ clB m u ∧ ∀ j, j < i → ¬ clT m u j) ∨ (x6 = 0 ∧ ¬ (clB m u ∧ ∀ j, j < i → ¬ clT m u j))) → ∀ w, LW w m H n k0 sn sf → pX 222 416 [some (.ref 0), some (iv (u : Nat)), some (iv (sPins m u)), some (iv x3), some (iv x4), some (iv x5), some (iv x6), some (iv (i : Nat)), o8, o9] [] w Q := by
  have h1 := hR.u
  have hp := sPins_bd hR u
  have hco := sCo_bd m
  have hfl := full_pins m u
  intro k
  induction k with
  | zero =>
    intro i hi x6 hx w l
    have b6 : bd x6 := by rcases hx with ⟨rfl, _⟩ | ⟨rfl, _⟩; exact bd01.2; exact bd01.1
    refine v222_416 l (bdk (by omega)) ⟨by omega, by omega⟩ b3 b4 b5 b6 (bdk (by omega)) ho8 ho9 (fun w1 l1 _ => ⟨fun _ => ⟨⟨by omega, by omega⟩, fun w3 l3 => ⟨fun z => absurd ?_ z, fun _ => ⟨⟨by omega, by omega⟩, fun w5 l5 _ => ⟨fun q => ?_, fun q => ?_⟩⟩⟩⟩, fun q => by omega⟩)
    · have hi : i = sCo m := by omega
      have hh := has_iff hR hu
      rcases hx with ⟨rfl, hb, hn⟩ | ⟨rfl, hn⟩
      · refine if_pos ?_
        rw [Int.toNat_natCast]
        refine ⟨hb.1, hb.2.1, hb.2.2, fun z => ?_⟩
        obtain ⟨j, hj, hc⟩ := hh.mpr z
        exact hn j (by omega) hc
      · refine if_neg ?_
        rw [Int.toNat_natCast]
        rintro ⟨z1, z2, z3, z4⟩
        exact hn ⟨⟨z1, z2, z3⟩, fun j hj hc => z4 (hh.mp ⟨j, by omega, hc⟩)⟩
    · rw [Int.toNat_natCast] at q
      exact l222_490 hR hu b3 b4 b5 b6 (bdk (by omega)) ho8 ho9 (by rw [if_neg (fun z => by have := hfl.mpr z; omega)]) h w5 l5
    · rw [Int.toNat_natCast] at q
      exact l222_490 hR hu b3 b4 b5 b6 (bdk (by omega)) ho8 ho9 (by rw [if_pos (hfl.mp q)]) h w5 l5
  | succ k ih =>
    intro i hi x6 hx w l
    have b6 : bd x6 := by rcases hx with ⟨rfl, _⟩ | ⟨rfl, _⟩; exact bd01.2; exact bd01.1
    have stop : ¬ (clB m u ∧ ∀ j, j < i + 1 → ¬ clT m u j) → ∀ w, LW w m H n k0 sn sf → pX 222 416 [some (.ref 0), some (iv (u : Nat)), some (iv (sPins m u)), some (iv x3), some (iv x4), some (iv x5), some (iv 0), some (iv ((i : Nat) + 1 : Int)), o8, o9] [] w Q := fun q w' l' => ih (i + 1) (by omega) 0 (Or.inr ⟨rfl, q⟩) w' l'
    refine v222_416 l (bdk (by omega)) ⟨by omega, by omega⟩ b3 b4 b5 b6 (bdk (by omega)) ho8 ho9 (fun w1 l1 _ => ⟨fun q => by omega, fun _ => ⟨fun q => ?_, fun q => ⟨by decide, fun w8 l8 _ => ⟨fun q0 => ?_, fun q0 => ⟨by decide, fun w10 l10 _ => ⟨fun q3 => ?_, fun q3 => ?_⟩⟩⟩⟩⟩⟩)
    · refine stop (fun z => ?_) w1 l1
      rcases hx with ⟨hx, _⟩ | ⟨_, hn⟩
      · omega
      · exact hn ⟨z.1, fun j hj => z.2 j (by omega)⟩
    · exact stop (fun z => z.2 i (Nat.lt_succ_self i) (Or.inl q0)) w8 l8
    · exact stop (fun z => z.2 i (Nat.lt_succ_self i) (Or.inr q3)) w10 l10
    · have : (x6 = 1 ∧ clB m u ∧ ∀ j, j < i → ¬ clT m u j) := hx.resolve_right (fun z => q z.1)
      refine ih (i + 1) (by omega) 1 (Or.inl ⟨rfl, this.2.1, fun j hj => ?_⟩) w10 l10
      by_cases hji : j = i
      · rw [hji]; exact fun z => z.elim q0 q3
      · exact this.2.2 j (by omega)
theorem l222_277 (hR : RowOK m) (hu : (u : Int) < m 1) {x3 x4 : Int} (b3 : bd x3) (b4 : bd x4) (h : ∀ w', LW w' m H n k0 sn sf → Q (rI 1) w') :
    ∀ k i : Nat, i + k = sCf m u → ∀ w, LW w m H n k0 sn sf → ∀ o7 o8 o9, pc2 o7 = false → pc2 o8 = false → pc2 o9 = false → pX 222 277 [some (.ref 0), some (iv (u : Nat)), some (iv (sPins m u)), some (iv x3), some (iv x4), some (iv (sCf m u : Nat)), some (iv (i : Nat)), o7, o8, o9] [] w Q := by
  have h0 := hR.s
  have h1 := hR.u
  have h4 := hR.t
  have hp := sPins_bd hR u
  have hcf := sCf_bd hR u
  have hno := sNotes_le hR u
  have hpl := sPlayed_le hR u
  have hco := sCo_bd m
  intro k
  induction k with
  | zero =>
    intro i hi w l o7 o8 o9 ho7 ho8 ho9
    refine v222_277 l (bdk (by omega)) ⟨by omega, by omega⟩ b3 b4 (bdk (by omega)) (bdk (by omega)) ho7 ho8 ho9 ⟨fun _ => ⟨⟨by omega, by omega⟩, fun w2 l2 _ => ⟨fun q => ?_, fun q => ⟨⟨by omega, by omega⟩, fun w4 l4 _ => ⟨fun q2 => ?_, fun q2 => ⟨fun q3 => ?_, fun q3 => ?_⟩⟩⟩⟩⟩, fun q => by omega⟩
    · exact l222_416 hR hu b3 b4 (bdk (by omega)) ho8 ho9 h (sCo m) 0 (Nat.zero_add _) 0 (Or.inr ⟨rfl, fun z => q (by have := z.1.1; omega)⟩) w2 l2
    · rw [Int.toNat_natCast] at q2
      exact l222_416 hR hu b3 b4 (bdk (by omega)) ho8 ho9 h (sCo m) 0 (Nat.zero_add _) 0 (Or.inr ⟨rfl, fun z => q2 (by have := z.1.2.1; omega)⟩) w4 l4
    · exact l222_416 hR hu b3 b4 (bdk (by omega)) ho8 ho9 h (sCo m) 0 (Nat.zero_add _) 0 (Or.inr ⟨rfl, fun z => q3 (by have := z.1.2.2; omega)⟩) w4 l4
    · rw [Int.toNat_natCast] at q2
      exact l222_416 hR hu b3 b4 (bdk (by omega)) ho8 ho9 h (sCo m) 0 (Nat.zero_add _) 1 (Or.inl ⟨rfl, ⟨by omega, by omega, by omega⟩, fun j hj => absurd hj (Nat.not_lt_zero j)⟩) w4 l4
  | succ k ih =>
    intro i hi w l o7 o8 o9 ho7 ho8 ho9
    obtain ⟨t, a, ht, ha, p1, p2, e0, e1, e2, e3, e4, hb⟩ := conf_is hR (u := u) (k := i) (by omega)
    have hn := sNeed_bd hR (t := t) (by omega)
    have hw := wayI_bd (S := m 0) (a := (a : Nat)) (b := (wN (m 0).toNat a (sWay m u t a) : Nat)) ⟨by omega, by omega⟩ ⟨by omega, by omega⟩
    refine v222_277 l (bdk (by omega)) ⟨by omega, by omega⟩ b3 b4 (bdk (by omega)) (bdk (by omega)) ho7 ho8 ho9 ⟨fun q => by omega, fun _ => ?_⟩
    rw [Int.toNat_natCast, e0, e1, e2, Int.toNat_natCast, Int.toNat_natCast, Int.toNat_natCast]
    have hu2 : 0 ≤ ((u : Nat) : Int) ∧ ((u : Nat) : Int) < m 1 := ⟨by omega, by omega⟩
    have ha2 : 0 ≤ ((a : Nat) : Int) ∧ ((a : Nat) : Int) < m 0 := ⟨by omega, by omega⟩
    have hb2 : 0 ≤ ((wN (m 0).toNat a (sWay m u t a) : Nat) : Int) ∧ ((wN (m 0).toNat a (sWay m u t a) : Nat) : Int) < m 0 := ⟨by omega, by omega⟩
    have ht2 : 0 ≤ ((t : Nat) : Int) ∧ ((t : Nat) : Int) < m 4 := ⟨by omega, by omega⟩
    exact ⟨hu2, by decide, fun w7 l7 _ => ⟨hu2, by decide, fun w8 l8 _ => ⟨hu2, by decide, fun w9 l9 _ => ⟨hu2, ha2, ht2, fun w10 l10 => ⟨fun z => absurd p1 z, fun _ => ⟨hu2, hb2, ht2, fun w12 l12 => ⟨fun z => absurd p2 z, fun _ => ⟨hu2, by decide, fun w14 l14 _ => ⟨ht2, fun w15 l15 _ => ⟨ha2, hb2, fun w16 l16 _ => ⟨⟨by omega, by omega⟩, fun z => absurd e3 z, fun _ => ⟨hu2, by decide, fun w18 l18 _ => ⟨fun _ => ih (i + 1) (by omega) w18 l18 _ _ _ rfl rfl rfl, fun z => absurd e4 (by omega)⟩⟩⟩⟩⟩⟩⟩⟩⟩⟩⟩⟩⟩
theorem l222_166 (hR : RowOK m) {k : Nat} (hk : (k : Int) < m 5) (hku : rN m k 0 = (u : Nat)) (hu : (u : Int) < m 1) (hp : 0 ≤ sPlay m k) {x3 x4 : Int} (b3 : bd x3) (b4 : bd x4) {o8 o9 : Option Value} (ho8 : pc2 o8 = false) (ho9 : pc2 o9 = false)
    (h : ∀ w', LW w' m H n k0 sn sf → ∀ o6 o7, pc2 o6 = false → pc2 o7 = false → pX 222 80 [some (.ref 0), some (iv (u : Nat)), some (iv (sPins m u)), some (iv x3), some (iv x4), some (iv ((k : Nat) + 1 : Int)), o6, o7, o8, o9] [] w' Q) :
    ∀ d i : Nat, i + d = k → ∀ w, LW w m H n k0 sn sf → pX 222 166 [some (.ref 0), some (iv (u : Nat)), some (iv (sPins m u)), some (iv x3), some (iv x4), some (iv (k : Nat)), some (iv (sPlay m k)), some (iv (i : Nat)), o8, o9] [] w Q := by
  have h1 := hR.u
  have h4 := hR.t
  have h5 := hR.n
  have hpp := sPins_bd hR u
  have hpb := sPlay_bd hR k
  have bp : bd (sPlay m k) := ⟨by omega, by omega⟩
  intro d
  induction d with
  | zero =>
    intro i hi w l
    refine v222_166 l (bdk (by omega)) ⟨by omega, by omega⟩ b3 b4 (bdk (by omega)) bp (bdk (by omega)) ho8 ho9 ⟨fun _ => h w l _ _ rfl rfl, fun q => by omega⟩
  | succ d ih =>
    intro i hi w l
    have hi2 : 0 ≤ ((i : Nat) : Int) ∧ ((i : Nat) : Int) < m 5 := ⟨by omega, by omega⟩
    refine v222_166 l (bdk (by omega)) ⟨by omega, by omega⟩ b3 b4 (bdk (by omega)) bp (bdk (by omega)) ho8 ho9 ⟨fun q => by omega, fun _ => ?_⟩
    rw [Int.toNat_natCast, Int.toNat_natCast]
    refine ⟨hi2, fun w2 l2 _ => ⟨fun _ => ih (i + 1) (by omega) w2 l2, fun q0 => ⟨hi2, fun w4 l4 _ => ⟨⟨by omega, by omega⟩, fun w5 l5 _ => ⟨fun _ => ih (i + 1) (by omega) w5 l5, fun q1 => ⟨hi2, fun w7 l7 _ => ⟨fun _ => ih (i + 1) (by omega) w7 l7, fun z => absurd z (play_inj (by omega) (q0.trans hku.symm) q1 hp)⟩⟩⟩⟩⟩⟩⟩
theorem l222_80 (hR : RowOK m) (hu : (u : Int) < m 1) (h : ∀ w', LW w' m H n k0 sn sf → Q (rI 1) w') :
    ∀ d k : Nat, k + d = (m 5).toNat → ∀ w, LW w m H n k0 sn sf → ∀ o6 o7 o8 o9, pc2 o6 = false → pc2 o7 = false → pc2 o8 = false → pc2 o9 = false → pX 222 80 [some (.ref 0), some (iv (u : Nat)), some (iv (sPins m u)), some (iv (cnt (fun i => decide (rN m i 0 = (u : Nat))) k : Nat)), some (iv (cnt (fun i => decide (rN m i 0 = (u : Nat)) && decide (sPlay m i ≠ -1)) k : Nat)), some (iv (k : Nat)), o6, o7, o8, o9] [] w Q := by
  have h1 := hR.u
  have h4 := hR.t
  have h5 := hR.n
  have hpp := sPins_bd hR u
  intro d
  induction d with
  | zero =>
    intro k hk w l o6 o7 o8 o9 ho6 ho7 ho8 ho9
    have hc1 := cnt_le (fun i => decide (rN m i 0 = (u : Nat))) k
    have hc2 := cnt_le (fun i => decide (rN m i 0 = (u : Nat)) && decide (sPlay m i ≠ -1)) k
    have e1 : sNotes m (u : Nat) = cnt (fun i => decide (rN m i 0 = (u : Nat))) k := by
      unfold sNotes
      rw [show k = (m 5).toNat by omega]
    have e2 : sPlayed m (u : Nat) = cnt (fun i => decide (rN m i 0 = (u : Nat)) && decide (sPlay m i ≠ -1)) k := by
      unfold sPlayed
      rw [show k = (m 5).toNat by omega]
    have hu2 : 0 ≤ ((u : Nat) : Int) ∧ ((u : Nat) : Int) < m 1 := ⟨by omega, by omega⟩
    rw [← e1, ← e2]
    rw [← e1] at hc1
    rw [← e2] at hc2
    refine v222_80 l (bdk (by omega)) ⟨by omega, by omega⟩ (bdk (by omega)) (bdk (by omega)) (bdk (by omega)) ho6 ho7 ho8 ho9 (fun w1 l1 _ => ⟨fun _ => ?_, fun q => by omega⟩)
    rw [Int.toNat_natCast]
    refine ⟨hu2, fun w3 l3 _ => ⟨⟨by omega, by omega⟩, fun z => absurd rfl z, fun _ => ⟨hu2, fun w5 l5 _ => ⟨⟨by omega, by omega⟩, fun _ => ⟨hu2, fun w7 l7 _ => ⟨hu2, by decide, fun w8 l8 _ => ⟨fun _ => ?_, fun z => absurd ?_ z⟩⟩⟩, fun z => absurd rfl z⟩⟩⟩⟩
    · exact l222_277 hR hu (bdk (by omega)) (bdk (by omega)) h (sCf m u) 0 (Nat.zero_add _) w8 l8 _ _ _ ho7 ho8 ho9
    · unfold sCfA
      have e : sel (sCfP m u) (sCf m u : Nat) (64 * (m 4).toNat) = -1 := sel_no (Or.inr (Int.le_refl _))
      rw [if_pos e]
  | succ d ih =>
    intro k hk w l o6 o7 o8 o9 ho6 ho7 ho8 ho9
    have hc1 := cnt_le (fun i => decide (rN m i 0 = (u : Nat))) k
    have hc2 := cnt_le (fun i => decide (rN m i 0 = (u : Nat)) && decide (sPlay m i ≠ -1)) k
    have hk2 : 0 ≤ ((k : Nat) : Int) ∧ ((k : Nat) : Int) < m 5 := ⟨by omega, by omega⟩
    have hu2 : 0 ≤ ((u : Nat) : Int) ∧ ((u : Nat) : Int) < m 1 := ⟨by omega, by omega⟩
    have hN := hR.N hk2.2
    have hpb := sPlay_bd hR k
    have hI := ih (k + 1) (by omega)
    refine v222_80 l (bdk (by omega)) ⟨by omega, by omega⟩ (bdk (by omega)) (bdk (by omega)) (bdk (by omega)) ho6 ho7 ho8 ho9 (fun w1 l1 _ => ⟨fun q => by omega, fun _ => ?_⟩)
    rw [Int.toNat_natCast, Int.toNat_natCast]
    refine ⟨hk2, fun w10 l10 _ => ⟨fun q => ⟨hk2, fun w12 l12 _ => ⟨fun qp => ?_, fun qp => ?_⟩⟩, fun q => ?_⟩⟩
    · have ht2 : 0 ≤ sPlay m k ∧ sPlay m k < m 4 := ⟨qp, hpb.2⟩
      obtain ⟨a1, a2⟩ := play_at qp
      rw [q, Int.toNat_natCast] at a2
      refine ⟨ht2, fun w14 l14 _ => ⟨hk2, fun w15 l15 _ => ⟨fun z => absurd a1 z, fun _ => ⟨hk2, fun w17 l17 _ => ⟨hu2, hN.2.1, ht2, fun w18 l18 => ⟨fun _ => ?_, fun z => absurd a2 z⟩⟩⟩⟩⟩⟩
      refine l222_166 hR hk2.2 q hu qp (bdk (n := cnt (fun i => decide (rN m i 0 = (u : Nat))) k + 1) (by omega)) (bdk (n := cnt (fun i => decide (rN m i 0 = (u : Nat)) && decide (sPlay m i ≠ -1)) k + 1) (by omega)) ho8 ho9 (fun w' l' o6 o7 g6 g7 => ?_) k 0 (Nat.zero_add _) w18 l18
      have := hI w' l' o6 o7 o8 o9 g6 g7 ho8 ho9
      rw [cnt_t (decide_eq_true q), cnt_t (P := fun i => decide (rN m i 0 = (u : Nat)) && decide (sPlay m i ≠ -1)) (by rw [decide_eq_true q, decide_eq_true (show sPlay m k ≠ -1 by omega)]; rfl)] at this
      exact this
    · have := hI w12 l12 (some (iv (sPlay m k))) o7 o8 o9 rfl ho7 ho8 ho9
      rw [cnt_t (decide_eq_true q), cnt_f (P := fun i => decide (rN m i 0 = (u : Nat)) && decide (sPlay m i ≠ -1)) (by rw [decide_eq_false (show ¬ sPlay m k ≠ -1 by omega), Bool.and_false])] at this
      exact this
    · have := hI w10 l10 o6 o7 o8 o9 ho6 ho7 ho8 ho9
      rw [cnt_f (P := fun i => decide (rN m i 0 = (u : Nat))) (decide_eq_false q), cnt_f (P := fun i => decide (rN m i 0 = (u : Nat)) && decide (sPlay m i ≠ -1)) (by rw [decide_eq_false q, Bool.false_and])] at this
      exact this
theorem l222_16 (hR : RowOK m) (hu : (u : Int) < m 1) {s : Nat} (hs : s < (m 0).toNat) {o5 o6 o7 o8 o9 : Option Value} (ho5 : pc2 o5 = false) (ho6 : pc2 o6 = false) (ho7 : pc2 o7 = false) (ho8 : pc2 o8 = false) (ho9 : pc2 o9 = false)
    (h : ∀ w', LW w' m H n k0 sn sf → ∀ o4, pc2 o4 = false → pX 222 4 [some (.ref 0), some (iv (u : Nat)), some (iv (sm (stP m u) (s + 1))), some (iv ((s : Nat) + 1 : Int)), o4, o5, o6, o7, o8, o9] [] w' Q) :
    ∀ d t : Nat, t + d = (m 4).toNat → ∀ w, LW w m H n k0 sn sf → pX 222 16 [some (.ref 0), some (iv (u : Nat)), some (iv (sm (stP m u) s + (cnt (fun t => rPin m u s t) t : Nat))), some (iv (s : Nat)), some (iv (t : Nat)), o5, o6, o7, o8, o9] [] w Q := by
  have h0 := hR.s
  have h1 := hR.u
  have h4 := hR.t
  have hpp := sPins_bd hR u
  have hm0 := sm_nn (stP_nn m u) s
  have hms := sm_upto (stP_nn m u) (show s ≤ (m 0).toNat by omega)
  rw [pins_swap] at hms
  intro d
  induction d with
  | zero =>
    intro t ht w l
    have hc := cnt_le (fun t => rPin m u s t) t
    refine v222_16 l (bdk (by omega)) ⟨by omega, by omega⟩ (bdk (by omega)) (bdk (by omega)) ho5 ho6 ho7 ho8 ho9 (fun w1 l1 _ => ⟨fun _ => ?_, fun q => by omega⟩)
    have := h w1 l1 (some (iv (t : Nat))) rfl
    rw [sm_s, show stP m u s = (cnt (fun t => rPin m u s t) t : Nat) from by unfold stP; rw [show t = (m 4).toNat by omega]] at this
    exact this
  | succ d ih =>
    intro t ht w l
    have hc := cnt_le (fun t => rPin m u s t) t
    have hI := ih (t + 1) (by omega)
    have hu2 : 0 ≤ ((u : Nat) : Int) ∧ ((u : Nat) : Int) < m 1 := ⟨by omega, by omega⟩
    have hs2 : 0 ≤ ((s : Nat) : Int) ∧ ((s : Nat) : Int) < m 0 := ⟨by omega, by omega⟩
    have hask : iAnd (iShr (m (251 + 64 * u + s)) (t : Nat)) 1 = 1 ↔ rPin m u s t = true := by
      have := tI_ask (x := m (251 + 64 * u + s)) (y := (t : Nat)) ⟨by omega, by omega⟩
      rw [Int.toNat_natCast] at this
      exact this
    have no : rPin m u s t = false → ∀ w', LW w' m H n k0 sn sf → pX 222 16 [some (.ref 0), some (iv (u : Nat)), some (iv (sm (stP m u) s + (cnt (fun t => rPin m u s t) t : Nat) + 0)), some (iv (s : Nat)), some (iv ((t : Nat) + 1 : Int)), o5, o6, o7, o8, o9] [] w' Q := fun q w' l' => by
      have := hI w' l'
      rw [cnt_f q] at this
      rw [Int.add_zero]
      exact this
    refine v222_16 l (bdk (by omega)) ⟨by omega, by omega⟩ (bdk (by omega)) (bdk (by omega)) ho5 ho6 ho7 ho8 ho9 (fun w1 l1 _ => ⟨fun q => by omega, fun _ => ?_⟩)
    rw [Int.toNat_natCast, Int.toNat_natCast, Int.toNat_natCast]
    refine ⟨hu2, hs2, fun w3 l3 _ => ⟨fun q => no (Bool.eq_false_iff.mpr (fun z => q (hask.mpr z))) w3 l3, fun q => ⟨hu2, hs2, ⟨by omega, by omega⟩, fun w5 l5 => ⟨fun z => absurd (hask.mp q) z, fun _ => ?_⟩⟩⟩⟩
    have := hI w5 l5
    rw [cnt_t (P := fun t => rPin m u s t) (hask.mp q)] at this
    rw [Int.add_assoc]
    exact this
theorem l222_4 (hR : RowOK m) (hu : (u : Int) < m 1) (h : ∀ w', LW w' m H n k0 sn sf → Q (rI 1) w') :
    ∀ d s : Nat, s + d = (m 0).toNat → ∀ w, LW w m H n k0 sn sf → ∀ o4 o5 o6 o7 o8 o9, pc2 o4 = false → pc2 o5 = false → pc2 o6 = false → pc2 o7 = false → pc2 o8 = false → pc2 o9 = false → pX 222 4 [some (.ref 0), some (iv (u : Nat)), some (iv (sm (stP m u) s)), some (iv (s : Nat)), o4, o5, o6, o7, o8, o9] [] w Q := by
  have h0 := hR.s
  have h1 := hR.u
  have hpp := sPins_bd hR u
  intro d
  induction d with
  | zero =>
    intro s hs w l o4 o5 o6 o7 o8 o9 g4 g5 g6 g7 g8 g9
    have e : sm (stP m u) s = sPins m u := by rw [← pins_swap, show s = (m 0).toNat by omega]
    rw [e]
    refine v222_4 l (bdk (by omega)) ⟨by omega, by omega⟩ (bdk (by omega)) g4 g5 g6 g7 g8 g9 (fun w1 l1 _ => ⟨fun _ => ?_, fun q => by omega⟩)
    exact l222_80 hR hu h (m 5).toNat 0 (Nat.zero_add _) w1 l1 o6 o7 o8 o9 g6 g7 g8 g9
  | succ d ih =>
    intro s hs w l o4 o5 o6 o7 o8 o9 g4 g5 g6 g7 g8 g9
    have hm0 := sm_nn (stP_nn m u) s
    have hms := sm_upto (stP_nn m u) (show s ≤ (m 0).toNat by omega)
    rw [pins_swap] at hms
    refine v222_4 l (bdk (by omega)) ⟨by omega, by omega⟩ (bdk (by omega)) g4 g5 g6 g7 g8 g9 (fun w1 l1 _ => ⟨fun q => by omega, fun _ => ?_⟩)
    have := l222_16 hR hu (s := s) (by omega) g5 g6 g7 g8 g9 (fun w' l' o4 q4 => ih (s + 1) (by omega) w' l' o4 o5 o6 o7 o8 o9 q4 g5 g6 g7 g8 g9) (m 4).toNat 0 (Nat.zero_add _) w1 l1
    rw [show sm (stP m u) s + ((cnt (fun t => rPin m u s t) 0 : Nat) : Int) = sm (stP m u) s from Int.add_zero _] at this
    exact this
/-- tune says true -/
theorem q222 {w : PW} {x1 : Int} (hl : LW w m H n k0 sn sf) (hx1 : bd x1) (h1 : 0 ≤ x1 ∧ x1 < m 1) (h : qh m H n k0 sn sf Q 1) : pC 222 [.ref 0, iv x1] w Q := by
  obtain ⟨u, rfl⟩ := nat_of h1.1
  exact e222 hl hx1 (l222_4 hl.ok h1.2 (fun w' l' => h w' l' bd01.2) (m 0).toNat 0 (Nat.zero_add _) w hl none none none none none none rfl rfl rfl rfl rfl rfl)
end LTU
