/-! THE LAW's METHODS: step -/
/-! 218: PinBarrelLaw.step(LPinBarrel;[II)V -/
theorem b218 : mB 218 = cL_step := rfl
theorem r218 : mR 218 = none := rfl
theorem d218_0 : decode cL_step 0 = .ok (.aload_n 1, 1) := by decide +kernel
theorem d218_1 : decode cL_step 1 = .ok (.iload_n 2, 1) := by decide +kernel
theorem d218_2 : decode cL_step 2 = .ok (.iconst 1, 1) := by decide +kernel
theorem d218_3 : decode cL_step 3 = .ok (.iadd, 1) := by decide +kernel
theorem d218_4 : decode cL_step 4 = .ok (.invokestatic 41, 3) := by decide +kernel
theorem d218_7 : decode cL_step 7 = .ok (.aload_n 0, 1) := by decide +kernel
theorem d218_8 : decode cL_step 8 = .ok (.iconst 1, 1) := by decide +kernel
theorem d218_9 : decode cL_step 9 = .ok (.invokevirtual 79, 3) := by decide +kernel
theorem d218_12 : decode cL_step 12 = .ok (.irem, 1) := by decide +kernel
theorem d218_13 : decode cL_step 13 = .ok (.istore_n 3, 1) := by decide +kernel
theorem d218_14 : decode cL_step 14 = .ok (.aload_n 1, 1) := by decide +kernel
theorem d218_15 : decode cL_step 15 = .ok (.iload_n 2, 1) := by decide +kernel
theorem d218_16 : decode cL_step 16 = .ok (.iconst 2, 1) := by decide +kernel
theorem d218_17 : decode cL_step 17 = .ok (.iadd, 1) := by decide +kernel
theorem d218_18 : decode cL_step 18 = .ok (.invokestatic 41, 3) := by decide +kernel
theorem d218_21 : decode cL_step 21 = .ok (.istore 4, 2) := by decide +kernel
theorem d218_23 : decode cL_step 23 = .ok (.iload 4, 2) := by decide +kernel
theorem d218_25 : decode cL_step 25 = .ok (.aload_n 0, 1) := by decide +kernel
theorem d218_26 : decode cL_step 26 = .ok (.iconst 0, 1) := by decide +kernel
theorem d218_27 : decode cL_step 27 = .ok (.invokevirtual 79, 3) := by decide +kernel
theorem d218_30 : decode cL_step 30 = .ok (.irem, 1) := by decide +kernel
theorem d218_31 : decode cL_step 31 = .ok (.istore 5, 2) := by decide +kernel
theorem d218_33 : decode cL_step 33 = .ok (.iload 4, 2) := by decide +kernel
theorem d218_35 : decode cL_step 35 = .ok (.bipush 16, 2) := by decide +kernel
theorem d218_37 : decode cL_step 37 = .ok (.idiv, 1) := by decide +kernel
theorem d218_38 : decode cL_step 38 = .ok (.aload_n 0, 1) := by decide +kernel
theorem d218_39 : decode cL_step 39 = .ok (.iconst 4, 1) := by decide +kernel
theorem d218_40 : decode cL_step 40 = .ok (.invokevirtual 79, 3) := by decide +kernel
theorem d218_43 : decode cL_step 43 = .ok (.irem, 1) := by decide +kernel
theorem d218_44 : decode cL_step 44 = .ok (.istore 6, 2) := by decide +kernel
theorem d218_46 : decode cL_step 46 = .ok (.aload_n 1, 1) := by decide +kernel
theorem d218_47 : decode cL_step 47 = .ok (.iload_n 2, 1) := by decide +kernel
theorem d218_48 : decode cL_step 48 = .ok (.invokestatic 41, 3) := by decide +kernel
theorem d218_51 : decode cL_step 51 = .ok (.bipush 17, 2) := by decide +kernel
theorem d218_53 : decode cL_step 53 = .ok (.irem, 1) := by decide +kernel
theorem d218_54 : decode cL_step 54 = .ok (.tableswitch 312 0 15 #[78, 78, 106, 106, 127, 151, 174, 190, 207, 207, 216, 227, 236, 251, 288, 297], 78) := by decide +kernel
theorem d218_132 : decode cL_step 132 = .ok (.aload_n 0, 1) := by decide +kernel
theorem d218_133 : decode cL_step 133 = .ok (.iload_n 3, 1) := by decide +kernel
theorem d218_134 : decode cL_step 134 = .ok (.iload 5, 2) := by decide +kernel
theorem d218_136 : decode cL_step 136 = .ok (.iload 6, 2) := by decide +kernel
theorem d218_138 : decode cL_step 138 = .ok (.iload 4, 2) := by decide +kernel
theorem d218_140 : decode cL_step 140 = .ok (.bipush 64, 2) := by decide +kernel
theorem d218_142 : decode cL_step 142 = .ok (.idiv, 1) := by decide +kernel
theorem d218_143 : decode cL_step 143 = .ok (.iconst 3, 1) := by decide +kernel
theorem d218_144 : decode cL_step 144 = .ok (.irem, 1) := by decide +kernel
theorem d218_145 : decode cL_step 145 = .ok (.ifCond .eq 7, 3) := by decide +kernel
theorem d218_148 : decode cL_step 148 = .ok (.iconst 1, 1) := by decide +kernel
theorem d218_149 : decode cL_step 149 = .ok (.goto 4, 3) := by decide +kernel
theorem d218_152 : decode cL_step 152 = .ok (.iconst 0, 1) := by decide +kernel
theorem d218_153 : decode cL_step 153 = .ok (.invokevirtual 82, 3) := by decide +kernel
theorem d218_156 : decode cL_step 156 = .ok (.pop, 1) := by decide +kernel
theorem d218_157 : decode cL_step 157 = .ok (.goto 230, 3) := by decide +kernel
theorem d218_160 : decode cL_step 160 = .ok (.aload_n 0, 1) := by decide +kernel
theorem d218_161 : decode cL_step 161 = .ok (.iload_n 3, 1) := by decide +kernel
theorem d218_162 : decode cL_step 162 = .ok (.iload 5, 2) := by decide +kernel
theorem d218_164 : decode cL_step 164 = .ok (.iload 4, 2) := by decide +kernel
theorem d218_166 : decode cL_step 166 = .ok (.bipush 16, 2) := by decide +kernel
theorem d218_168 : decode cL_step 168 = .ok (.idiv, 1) := by decide +kernel
theorem d218_169 : decode cL_step 169 = .ok (.iconst 4, 1) := by decide +kernel
theorem d218_170 : decode cL_step 170 = .ok (.irem, 1) := by decide +kernel
theorem d218_171 : decode cL_step 171 = .ok (.invokestatic 86, 3) := by decide +kernel
theorem d218_174 : decode cL_step 174 = .ok (.invokevirtual 89, 3) := by decide +kernel
theorem d218_177 : decode cL_step 177 = .ok (.pop, 1) := by decide +kernel
theorem d218_178 : decode cL_step 178 = .ok (.goto 209, 3) := by decide +kernel
theorem d218_181 : decode cL_step 181 = .ok (.aload_n 0, 1) := by decide +kernel
theorem d218_182 : decode cL_step 182 = .ok (.iconst 5, 1) := by decide +kernel
theorem d218_183 : decode cL_step 183 = .ok (.invokevirtual 79, 3) := by decide +kernel
theorem d218_186 : decode cL_step 186 = .ok (.ifCond .le 201, 3) := by decide +kernel
theorem d218_189 : decode cL_step 189 = .ok (.aload_n 0, 1) := by decide +kernel
theorem d218_190 : decode cL_step 190 = .ok (.iload 4, 2) := by decide +kernel
theorem d218_192 : decode cL_step 192 = .ok (.aload_n 0, 1) := by decide +kernel
theorem d218_193 : decode cL_step 193 = .ok (.iconst 5, 1) := by decide +kernel
theorem d218_194 : decode cL_step 194 = .ok (.invokevirtual 79, 3) := by decide +kernel
theorem d218_197 : decode cL_step 197 = .ok (.irem, 1) := by decide +kernel
theorem d218_198 : decode cL_step 198 = .ok (.invokevirtual 93, 3) := by decide +kernel
theorem d218_201 : decode cL_step 201 = .ok (.pop, 1) := by decide +kernel
theorem d218_202 : decode cL_step 202 = .ok (.goto 185, 3) := by decide +kernel
theorem d218_205 : decode cL_step 205 = .ok (.aload_n 0, 1) := by decide +kernel
theorem d218_206 : decode cL_step 206 = .ok (.iload 4, 2) := by decide +kernel
theorem d218_208 : decode cL_step 208 = .ok (.iconst 4, 1) := by decide +kernel
theorem d218_209 : decode cL_step 209 = .ok (.irem, 1) := by decide +kernel
theorem d218_210 : decode cL_step 210 = .ok (.invokestatic 86, 3) := by decide +kernel
theorem d218_213 : decode cL_step 213 = .ok (.iconst 1, 1) := by decide +kernel
theorem d218_214 : decode cL_step 214 = .ok (.iload 4, 2) := by decide +kernel
theorem d218_216 : decode cL_step 216 = .ok (.iconst 4, 1) := by decide +kernel
theorem d218_217 : decode cL_step 217 = .ok (.idiv, 1) := by decide +kernel
theorem d218_218 : decode cL_step 218 = .ok (.iconst 4, 1) := by decide +kernel
theorem d218_219 : decode cL_step 219 = .ok (.irem, 1) := by decide +kernel
theorem d218_220 : decode cL_step 220 = .ok (.iadd, 1) := by decide +kernel
theorem d218_221 : decode cL_step 221 = .ok (.invokevirtual 96, 3) := by decide +kernel
theorem d218_224 : decode cL_step 224 = .ok (.pop, 1) := by decide +kernel
theorem d218_225 : decode cL_step 225 = .ok (.goto 162, 3) := by decide +kernel
theorem d218_228 : decode cL_step 228 = .ok (.aload_n 0, 1) := by decide +kernel
theorem d218_229 : decode cL_step 229 = .ok (.iload 6, 2) := by decide +kernel
theorem d218_231 : decode cL_step 231 = .ok (.iconst 1, 1) := by decide +kernel
theorem d218_232 : decode cL_step 232 = .ok (.iload 4, 2) := by decide +kernel
theorem d218_234 : decode cL_step 234 = .ok (.iconst 5, 1) := by decide +kernel
theorem d218_235 : decode cL_step 235 = .ok (.irem, 1) := by decide +kernel
theorem d218_236 : decode cL_step 236 = .ok (.iadd, 1) := by decide +kernel
theorem d218_237 : decode cL_step 237 = .ok (.invokevirtual 100, 3) := by decide +kernel
theorem d218_240 : decode cL_step 240 = .ok (.pop, 1) := by decide +kernel
theorem d218_241 : decode cL_step 241 = .ok (.goto 146, 3) := by decide +kernel
theorem d218_244 : decode cL_step 244 = .ok (.aload_n 0, 1) := by decide +kernel
theorem d218_245 : decode cL_step 245 = .ok (.iload 6, 2) := by decide +kernel
theorem d218_247 : decode cL_step 247 = .ok (.iload 4, 2) := by decide +kernel
theorem d218_249 : decode cL_step 249 = .ok (.iconst 4, 1) := by decide +kernel
theorem d218_250 : decode cL_step 250 = .ok (.irem, 1) := by decide +kernel
theorem d218_251 : decode cL_step 251 = .ok (.invokestatic 86, 3) := by decide +kernel
theorem d218_254 : decode cL_step 254 = .ok (.invokevirtual 103, 3) := by decide +kernel
theorem d218_257 : decode cL_step 257 = .ok (.pop, 1) := by decide +kernel
theorem d218_258 : decode cL_step 258 = .ok (.goto 129, 3) := by decide +kernel
theorem d218_261 : decode cL_step 261 = .ok (.aload_n 0, 1) := by decide +kernel
theorem d218_262 : decode cL_step 262 = .ok (.iload_n 3, 1) := by decide +kernel
theorem d218_263 : decode cL_step 263 = .ok (.invokevirtual 106, 3) := by decide +kernel
theorem d218_266 : decode cL_step 266 = .ok (.pop, 1) := by decide +kernel
theorem d218_267 : decode cL_step 267 = .ok (.goto 120, 3) := by decide +kernel
theorem d218_270 : decode cL_step 270 = .ok (.aload_n 0, 1) := by decide +kernel
theorem d218_271 : decode cL_step 271 = .ok (.iload_n 3, 1) := by decide +kernel
theorem d218_272 : decode cL_step 272 = .ok (.iload 5, 2) := by decide +kernel
theorem d218_274 : decode cL_step 274 = .ok (.invokevirtual 109, 3) := by decide +kernel
theorem d218_277 : decode cL_step 277 = .ok (.pop, 1) := by decide +kernel
theorem d218_278 : decode cL_step 278 = .ok (.goto 109, 3) := by decide +kernel
theorem d218_281 : decode cL_step 281 = .ok (.aload_n 0, 1) := by decide +kernel
theorem d218_282 : decode cL_step 282 = .ok (.iload_n 3, 1) := by decide +kernel
theorem d218_283 : decode cL_step 283 = .ok (.invokevirtual 112, 3) := by decide +kernel
theorem d218_286 : decode cL_step 286 = .ok (.pop, 1) := by decide +kernel
theorem d218_287 : decode cL_step 287 = .ok (.goto 100, 3) := by decide +kernel
theorem d218_290 : decode cL_step 290 = .ok (.aload_n 0, 1) := by decide +kernel
theorem d218_291 : decode cL_step 291 = .ok (.iload_n 3, 1) := by decide +kernel
theorem d218_292 : decode cL_step 292 = .ok (.iload 4, 2) := by decide +kernel
theorem d218_294 : decode cL_step 294 = .ok (.iconst 5, 1) := by decide +kernel
theorem d218_295 : decode cL_step 295 = .ok (.irem, 1) := by decide +kernel
theorem d218_296 : decode cL_step 296 = .ok (.iconst 2, 1) := by decide +kernel
theorem d218_297 : decode cL_step 297 = .ok (.isub, 1) := by decide +kernel
theorem d218_298 : decode cL_step 298 = .ok (.invokevirtual 115, 3) := by decide +kernel
theorem d218_301 : decode cL_step 301 = .ok (.pop, 1) := by decide +kernel
theorem d218_302 : decode cL_step 302 = .ok (.goto 85, 3) := by decide +kernel
theorem d218_305 : decode cL_step 305 = .ok (.iload 4, 2) := by decide +kernel
theorem d218_307 : decode cL_step 307 = .ok (.iconst 2, 1) := by decide +kernel
theorem d218_308 : decode cL_step 308 = .ok (.irem, 1) := by decide +kernel
theorem d218_309 : decode cL_step 309 = .ok (.ifCond .ne 19, 3) := by decide +kernel
theorem d218_312 : decode cL_step 312 = .ok (.aload_n 0, 1) := by decide +kernel
theorem d218_313 : decode cL_step 313 = .ok (.iconst 1, 1) := by decide +kernel
theorem d218_314 : decode cL_step 314 = .ok (.iload 4, 2) := by decide +kernel
theorem d218_316 : decode cL_step 316 = .ok (.iconst 2, 1) := by decide +kernel
theorem d218_317 : decode cL_step 317 = .ok (.idiv, 1) := by decide +kernel
theorem d218_318 : decode cL_step 318 = .ok (.iconst 4, 1) := by decide +kernel
theorem d218_319 : decode cL_step 319 = .ok (.irem, 1) := by decide +kernel
theorem d218_320 : decode cL_step 320 = .ok (.iadd, 1) := by decide +kernel
theorem d218_321 : decode cL_step 321 = .ok (.invokevirtual 118, 3) := by decide +kernel
theorem d218_324 : decode cL_step 324 = .ok (.pop, 1) := by decide +kernel
theorem d218_325 : decode cL_step 325 = .ok (.goto 62, 3) := by decide +kernel
theorem d218_328 : decode cL_step 328 = .ok (.aload_n 0, 1) := by decide +kernel
theorem d218_329 : decode cL_step 329 = .ok (.iload 4, 2) := by decide +kernel
theorem d218_331 : decode cL_step 331 = .ok (.iconst 2, 1) := by decide +kernel
theorem d218_332 : decode cL_step 332 = .ok (.idiv, 1) := by decide +kernel
theorem d218_333 : decode cL_step 333 = .ok (.iconst 4, 1) := by decide +kernel
theorem d218_334 : decode cL_step 334 = .ok (.irem, 1) := by decide +kernel
theorem d218_335 : decode cL_step 335 = .ok (.invokevirtual 121, 3) := by decide +kernel
theorem d218_338 : decode cL_step 338 = .ok (.pop, 1) := by decide +kernel
theorem d218_339 : decode cL_step 339 = .ok (.goto 48, 3) := by decide +kernel
theorem d218_342 : decode cL_step 342 = .ok (.aload_n 0, 1) := by decide +kernel
theorem d218_343 : decode cL_step 343 = .ok (.iload_n 3, 1) := by decide +kernel
theorem d218_344 : decode cL_step 344 = .ok (.invokevirtual 124, 3) := by decide +kernel
theorem d218_347 : decode cL_step 347 = .ok (.pop, 1) := by decide +kernel
theorem d218_348 : decode cL_step 348 = .ok (.goto 39, 3) := by decide +kernel
theorem d218_351 : decode cL_step 351 = .ok (.aload_n 0, 1) := by decide +kernel
theorem d218_352 : decode cL_step 352 = .ok (.iconst 1, 1) := by decide +kernel
theorem d218_353 : decode cL_step 353 = .ok (.iload 4, 2) := by decide +kernel
theorem d218_355 : decode cL_step 355 = .ok (.bipush 30, 2) := by decide +kernel
theorem d218_357 : decode cL_step 357 = .ok (.irem, 1) := by decide +kernel
theorem d218_358 : decode cL_step 358 = .ok (.iadd, 1) := by decide +kernel
theorem d218_359 : decode cL_step 359 = .ok (.invokevirtual 127, 3) := by decide +kernel
theorem d218_362 : decode cL_step 362 = .ok (.pop, 1) := by decide +kernel
theorem d218_363 : decode cL_step 363 = .ok (.goto 24, 3) := by decide +kernel
theorem d218_366 : decode cL_step 366 = .ok (.iload 4, 2) := by decide +kernel
theorem d218_368 : decode cL_step 368 = .ok (.iconst 3, 1) := by decide +kernel
theorem d218_369 : decode cL_step 369 = .ok (.irem, 1) := by decide +kernel
theorem d218_370 : decode cL_step 370 = .ok (.ifCond .ne 12, 3) := by decide +kernel
theorem d218_373 : decode cL_step 373 = .ok (.aload_n 0, 1) := by decide +kernel
theorem d218_374 : decode cL_step 374 = .ok (.iload_n 3, 1) := by decide +kernel
theorem d218_375 : decode cL_step 375 = .ok (.invokevirtual 130, 3) := by decide +kernel
theorem d218_378 : decode cL_step 378 = .ok (.pop, 1) := by decide +kernel
theorem d218_379 : decode cL_step 379 = .ok (.goto 8, 3) := by decide +kernel
theorem d218_382 : decode cL_step 382 = .ok (.aload_n 0, 1) := by decide +kernel
theorem d218_383 : decode cL_step 383 = .ok (.invokevirtual 133, 3) := by decide +kernel
theorem d218_386 : decode cL_step 386 = .ok (.pop, 1) := by decide +kernel
theorem d218_387 : decode cL_step 387 = .ok (.return_, 1) := by decide +kernel
theorem v218_0 {w : PW} {Q : PO → PW → Prop} {m : Row} {H : Nat → Row} {n : Nat} {k0 : Option Row} {sn : Nat} {sf : Nat → Int32} {x2 : Int} (hl : LW w m H n k0 sn sf) (hsn : Nat.blt sn 2147483648 = true) (hx2 : bd x2) (h : (bd (x2 + 1)) ∧ (0 ≤ (x2 + 1)) ∧ ∀ w1 : PW, LW w1 m H n k0 sn sf → bd (((cv sn sf ((x2 + 1)).toNat : Nat) : Int)) → ∀ w2 : PW, LW w2 m H n k0 sn sf → bd (m 1) → (0 < (m 1) ∧ (m 1) < 2147483648) ∧ (bd (x2 + 2)) ∧ (0 ≤ (x2 + 2)) ∧ ∀ w3 : PW, LW w3 m H n k0 sn sf → bd (((cv sn sf ((x2 + 2)).toNat : Nat) : Int)) → ∀ w4 : PW, LW w4 m H n k0 sn sf → bd (m 0) → (0 < (m 0) ∧ (m 0) < 2147483648) ∧ ∀ w5 : PW, LW w5 m H n k0 sn sf → bd (m 4) → (bd ((((cv sn sf ((x2 + 2)).toNat : Nat) : Int)).tdiv 16)) ∧ (0 < (m 4) ∧ (m 4) < 2147483648) ∧ (0 ≤ x2) ∧ ∀ w6 : PW, LW w6 m H n k0 sn sf → bd (((cv sn sf (x2).toNat : Nat) : Int)) → pX 218 54 [some (.ref 0), some (.ref pSC), some (iv x2), some (iv ((((cv sn sf ((x2 + 1)).toNat : Nat) : Int)).tmod (m 1))), some (iv (((cv sn sf ((x2 + 2)).toNat : Nat) : Int))), some (iv ((((cv sn sf ((x2 + 2)).toNat : Nat) : Int)).tmod (m 0))), some (iv (((((cv sn sf ((x2 + 2)).toNat : Nat) : Int)).tdiv 16).tmod (m 4)))] [iv ((((cv sn sf (x2).toNat : Nat) : Int)).tmod 17)] w6 Q) : pX 218 0 [some (.ref 0), some (.ref pSC), some (iv x2), none, none, none, none] [] w Q :=
  w_f b218 d218_0 rfl rfl rfl <| w_f b218 d218_1 rfl rfl rfl <| w_f b218 d218_2 rfl rfl rfl <| w_f b218 d218_3 rfl (pf_iadd x2 1) rfl <| w_cc b218 d218_4 rfl (pcl_s1 (n := 2) rfl rfl rfl (by decide +kernel) rfl rfl) rfl <| q215 hsn hl h.1 h.2.1 (fun w1 lw1 bw1 => w_f b218 d218_7 rfl rfl rfl <| w_f b218 d218_8 rfl rfl rfl <| w_cc b218 d218_9 rfl (pcl_v (n := 1) rfl rfl rfl (by decide +kernel) (sh_isOb lw1.sh (tlt 0 rfl) tbC_0) rfl rfl) rfl <| q65_1 lw1 ⟨by decide, by decide⟩ (fun w2 lw2 bw2 => w_f b218 d218_12 rfl (pf_irem bw1 ((h.2.2 w1 lw1 bw1) w2 lw2 bw2).1) rfl <| w_f b218 d218_13 rfl rfl rfl <| w_f b218 d218_14 rfl rfl rfl <| w_f b218 d218_15 rfl rfl rfl <| w_f b218 d218_16 rfl rfl rfl <| w_f b218 d218_17 rfl (pf_iadd x2 2) rfl <| w_cc b218 d218_18 rfl (pcl_s1 (n := 2) rfl rfl rfl (by decide +kernel) rfl rfl) rfl <| q215 hsn lw2 ((h.2.2 w1 lw1 bw1) w2 lw2 bw2).2.1 ((h.2.2 w1 lw1 bw1) w2 lw2 bw2).2.2.1 (fun w3 lw3 bw3 => w_f b218 d218_21 rfl rfl rfl <| w_f b218 d218_23 rfl rfl rfl <| w_f b218 d218_25 rfl rfl rfl <| w_f b218 d218_26 rfl rfl rfl <| w_cc b218 d218_27 rfl (pcl_v (n := 1) rfl rfl rfl (by decide +kernel) (sh_isOb lw3.sh (tlt 0 rfl) tbC_0) rfl rfl) rfl <| q65_0 lw3 ⟨by decide, by decide⟩ (fun w4 lw4 bw4 => w_f b218 d218_30 rfl (pf_irem bw3 ((((h.2.2 w1 lw1 bw1) w2 lw2 bw2).2.2.2 w3 lw3 bw3) w4 lw4 bw4).1) rfl <| w_f b218 d218_31 rfl rfl rfl <| w_f b218 d218_33 rfl rfl rfl <| w_f b218 d218_35 rfl rfl rfl <| w_f b218 d218_37 rfl (pf_idiv bw3 ⟨by decide, by decide⟩) rfl <| w_f b218 d218_38 rfl rfl rfl <| w_f b218 d218_39 rfl rfl rfl <| w_cc b218 d218_40 rfl (pcl_v (n := 1) rfl rfl rfl (by decide +kernel) (sh_isOb lw4.sh (tlt 0 rfl) tbC_0) rfl rfl) rfl <| q65_4 lw4 ⟨by decide, by decide⟩ (fun w5 lw5 bw5 => w_f b218 d218_43 rfl (pf_irem (((((h.2.2 w1 lw1 bw1) w2 lw2 bw2).2.2.2 w3 lw3 bw3) w4 lw4 bw4).2 w5 lw5 bw5).1 (((((h.2.2 w1 lw1 bw1) w2 lw2 bw2).2.2.2 w3 lw3 bw3) w4 lw4 bw4).2 w5 lw5 bw5).2.1) rfl <| w_f b218 d218_44 rfl rfl rfl <| w_f b218 d218_46 rfl rfl rfl <| w_f b218 d218_47 rfl rfl rfl <| w_cc b218 d218_48 rfl (pcl_s1 (n := 2) rfl rfl rfl (by decide +kernel) rfl rfl) rfl <| q215 hsn lw5 hx2 (((((h.2.2 w1 lw1 bw1) w2 lw2 bw2).2.2.2 w3 lw3 bw3) w4 lw4 bw4).2 w5 lw5 bw5).2.2.1 (fun w6 lw6 bw6 => w_f b218 d218_51 rfl rfl rfl <| w_f b218 d218_53 rfl (pf_irem bw6 ⟨by decide, by decide⟩) rfl <| ((((((h.2.2 w1 lw1 bw1) w2 lw2 bw2).2.2.2 w3 lw3 bw3) w4 lw4 bw4).2 w5 lw5 bw5).2.2.2 w6 lw6 bw6)))))))
theorem e218 {w : PW} {Q : PO → PW → Prop} {m : Row} {H : Nat → Row} {n : Nat} {k0 : Option Row} {sn : Nat} {sf : Nat → Int32} {x2 : Int} (hl : LW w m H n k0 sn sf) (hsn : Nat.blt sn 2147483648 = true) (hx2 : bd x2) (h : (bd (x2 + 1)) ∧ (0 ≤ (x2 + 1)) ∧ ∀ w1 : PW, LW w1 m H n k0 sn sf → bd (((cv sn sf ((x2 + 1)).toNat : Nat) : Int)) → ∀ w2 : PW, LW w2 m H n k0 sn sf → bd (m 1) → (0 < (m 1) ∧ (m 1) < 2147483648) ∧ (bd (x2 + 2)) ∧ (0 ≤ (x2 + 2)) ∧ ∀ w3 : PW, LW w3 m H n k0 sn sf → bd (((cv sn sf ((x2 + 2)).toNat : Nat) : Int)) → ∀ w4 : PW, LW w4 m H n k0 sn sf → bd (m 0) → (0 < (m 0) ∧ (m 0) < 2147483648) ∧ ∀ w5 : PW, LW w5 m H n k0 sn sf → bd (m 4) → (bd ((((cv sn sf ((x2 + 2)).toNat : Nat) : Int)).tdiv 16)) ∧ (0 < (m 4) ∧ (m 4) < 2147483648) ∧ (0 ≤ x2) ∧ ∀ w6 : PW, LW w6 m H n k0 sn sf → bd (((cv sn sf (x2).toNat : Nat) : Int)) → pX 218 54 [some (.ref 0), some (.ref pSC), some (iv x2), some (iv ((((cv sn sf ((x2 + 1)).toNat : Nat) : Int)).tmod (m 1))), some (iv (((cv sn sf ((x2 + 2)).toNat : Nat) : Int))), some (iv ((((cv sn sf ((x2 + 2)).toNat : Nat) : Int)).tmod (m 0))), some (iv (((((cv sn sf ((x2 + 2)).toNat : Nat) : Int)).tdiv 16).tmod (m 4)))] [iv ((((cv sn sf (x2).toNat : Nat) : Int)).tmod 17)] w6 Q) : pC 218 [.ref 0, .ref pSC, iv x2] w Q :=
  (pC_in (Nat.le_of_ble_eq_true rfl) rfl Q).mpr (v218_0 hl hsn hx2 h)
theorem v218_54 {w : PW} {Q : PO → PW → Prop} {m : Row} {H : Nat → Row} {n : Nat} {k0 : Option Row} {sn : Nat} {sf : Nat → Int32} {x2 : Int} {x3 : Int} {x4 : Int} {x5 : Int} {x6 : Int} {z0 : Int} (hl : LW w m H n k0 sn sf) (hsn : Nat.blt sn 2147483648 = true) (hx2 : bd x2) (hx3 : bd x3) (hx4 : bd x4) (hx5 : bd x5) (hx6 : bd x6) (hz0 : bd z0) (h : (z0 < 0 ∨ 15 < z0 → (bd (x4.tmod 3)) ∧ ((x4.tmod 3) ≠ 0 → pC 56 [.ref 0] w (kI fun u4 w3 => Sh w3 ∧ Q (.inl none) w3)) ∧ ((x4.tmod 3) = 0 → pC 178 [.ref 0, iv x3] w (kX (kI fun u6 w5 => Sh w5 ∧ Q (.inl none) w5) Q))) ∧ (z0 = 0 → (bd (x4.tdiv 64)) ∧ (bd ((x4.tdiv 64).tmod 3)) ∧ (((x4.tdiv 64).tmod 3) = 0 → pC 176 [.ref 0, iv x3, iv x5, iv x6, iv 0] w (kX (kI fun u9 w8 => Sh w8 ∧ Q (.inl none) w8) Q)) ∧ (((x4.tdiv 64).tmod 3) ≠ 0 → pC 176 [.ref 0, iv x3, iv x5, iv x6, iv 1] w (kX (kI fun u11 w10 => Sh w10 ∧ Q (.inl none) w10) Q))) ∧ (z0 = 1 → (bd (x4.tdiv 64)) ∧ (bd ((x4.tdiv 64).tmod 3)) ∧ (((x4.tdiv 64).tmod 3) = 0 → pC 176 [.ref 0, iv x3, iv x5, iv x6, iv 0] w (kX (kI fun u14 w13 => Sh w13 ∧ Q (.inl none) w13) Q)) ∧ (((x4.tdiv 64).tmod 3) ≠ 0 → pC 176 [.ref 0, iv x3, iv x5, iv x6, iv 1] w (kX (kI fun u16 w15 => Sh w15 ∧ Q (.inl none) w15) Q))) ∧ (z0 = 2 → (bd (x4.tdiv 16)) ∧ (bd ((x4.tdiv 16).tmod 4)) ∧ (0 ≤ ((x4.tdiv 16).tmod 4) ∧ ((x4.tdiv 16).tmod 4) ≤ 3) ∧ pC 165 [.ref 0, iv x3, iv x5, iv (if ((x4.tdiv 16).tmod 4) = 3 then 12 else 2 * ((x4.tdiv 16).tmod 4))] w (kX (kI fun u18 w17 => Sh w17 ∧ Q (.inl none) w17) Q)) ∧ (z0 = 3 → (bd (x4.tdiv 16)) ∧ (bd ((x4.tdiv 16).tmod 4)) ∧ (0 ≤ ((x4.tdiv 16).tmod 4) ∧ ((x4.tdiv 16).tmod 4) ≤ 3) ∧ pC 165 [.ref 0, iv x3, iv x5, iv (if ((x4.tdiv 16).tmod 4) = 3 then 12 else 2 * ((x4.tdiv 16).tmod 4))] w (kX (kI fun u20 w19 => Sh w19 ∧ Q (.inl none) w19) Q)) ∧ (z0 = 4 → ∀ w21 : PW, LW w21 m H n k0 sn sf → bd (m 5) → ((m 5) ≤ 0 → Q (.inl none) w21) ∧ (0 < (m 5) → ∀ w23 : PW, LW w23 m H n k0 sn sf → bd (m 5) → (0 < (m 5) ∧ (m 5) < 2147483648) ∧ pC 168 [.ref 0, iv (x4.tmod (m 5))] w23 (kX (kI fun u25 w24 => Sh w24 ∧ Q (.inl none) w24) Q))) ∧ (z0 = 5 → (bd (x4.tmod 4)) ∧ (0 ≤ (x4.tmod 4) ∧ (x4.tmod 4) ≤ 3) ∧ (bd (x4.tdiv 4)) ∧ pC 170 [.ref 0, iv (if (x4.tmod 4) = 3 then 12 else 2 * (x4.tmod 4)), iv (1 + ((x4.tdiv 4).tmod 4))] w (kX (kI fun u27 w26 => Sh w26 ∧ Q (.inl none) w26) Q)) ∧ (z0 = 6 → pC 172 [.ref 0, iv x6, iv (1 + (x4.tmod 5))] w (kX (kI fun u29 w28 => Sh w28 ∧ Q (.inl none) w28) Q)) ∧ (z0 = 7 → (bd (x4.tmod 4)) ∧ (0 ≤ (x4.tmod 4) ∧ (x4.tmod 4) ≤ 3) ∧ pC 174 [.ref 0, iv x6, iv (if (x4.tmod 4) = 3 then 12 else 2 * (x4.tmod 4))] w (kX (kI fun u31 w30 => Sh w30 ∧ Q (.inl none) w30) Q)) ∧ (z0 = 8 → (0 ≤ x3 ∧ x3 < m 1) ∧ ∀ w32 : PW, LW w32 (lyM m x3) (lyH H n m x3) (lyN n m x3) k0 sn sf → bd (lyR m x3) → Q (.inl none) w32) ∧ (z0 = 9 → (0 ≤ x3 ∧ x3 < m 1) ∧ ∀ w33 : PW, LW w33 (lyM m x3) (lyH H n m x3) (lyN n m x3) k0 sn sf → bd (lyR m x3) → Q (.inl none) w33) ∧ (z0 = 10 → (0 ≤ x3 ∧ x3 < m 1) ∧ (0 ≤ x5 ∧ x5 < m 0) ∧ ∀ w34 : PW, LW w34 (sTurnR m x3 x5) (hPush H n m) (hLen n) k0 sn sf → bd (sPins (sTurnR m x3 x5) (x3).toNat) → Q (.inl none) w34) ∧ (z0 = 11 → pC 193 [.ref 0, iv x3] w (kX (kI fun u36 w35 => Sh w35 ∧ Q (.inl none) w35) Q)) ∧ (z0 = 12 → pC 185 [.ref 0, iv x3, iv ((x4.tmod 5) - 2)] w (kX (kI fun u38 w37 => Sh w37 ∧ Q (.inl none) w37) Q)) ∧ (z0 = 13 → (bd (x4.tmod 2)) ∧ ((x4.tmod 2) ≠ 0 → (bd (x4.tdiv 2)) ∧ pC 197 [.ref 0, iv ((x4.tdiv 2).tmod 4)] w (kX (kI fun u41 w40 => Sh w40 ∧ Q (.inl none) w40) Q)) ∧ ((x4.tmod 2) = 0 → (bd (x4.tdiv 2)) ∧ pC 195 [.ref 0, iv (1 + ((x4.tdiv 2).tmod 4))] w (kX (kI fun u43 w42 => Sh w42 ∧ Q (.inl none) w42) Q))) ∧ (z0 = 14 → pC 199 [.ref 0, iv x3] w (kX (kI fun u45 w44 => Sh w44 ∧ Q (.inl none) w44) Q)) ∧ (z0 = 15 → (bd (1 + (x4.tmod 30))) ∧ (m 9 ≤ 12 * m 8) ∧ (1 ≤ (1 + (x4.tmod 30)) ∧ (1 + (x4.tmod 30)) ≤ 200) ∧ (m 8 + (1 + (x4.tmod 30)) ≤ 100000) ∧ ∀ w46 : PW, LW w46 (rRun m ((1 + (x4.tmod 30))).toNat) (hPush H n m) (hLen n) k0 sn sf → bd (rRun m ((1 + (x4.tmod 30))).toNat 9 - m 9) → Q (.inl none) w46)) : pX 218 54 [some (.ref 0), some (.ref pSC), some (iv x2), some (iv x3), some (iv x4), some (iv x5), some (iv x6)] [iv z0] w Q :=
  Decidable.byCases (p := z0 < 0 ∨ 15 < z0) (fun c1 => w_tsO b218 d218_54 rfl (by decide +kernel) hz0 c1 <| w_f b218 d218_366 rfl rfl rfl <| w_f b218 d218_368 rfl rfl rfl <| w_f b218 d218_369 rfl (pf_irem hx4 ⟨by decide, by decide⟩) rfl <| w_ifne b218 d218_370 rfl rfl (by decide +kernel) (h.1 c1).1 (fun c2 => w_f b218 d218_382 rfl rfl rfl <| w_c b218 d218_383 rfl (pcl_v (n := 0) rfl rfl rfl (by decide +kernel) (sh_isOb hl.sh (tlt 0 rfl) tbC_0) rfl rfl) rfl _ (hK_I fun u4 w3 hbu4 hkw3 => w_f b218 d218_386 rfl rfl rfl <| w_rv b218 d218_387 r218 hkw3.2) ((h.1 c1).2.1 c2)) (fun c2 => w_f b218 d218_373 rfl rfl rfl <| w_f b218 d218_374 rfl rfl rfl <| w_c b218 d218_375 rfl (pcl_v (n := 1) rfl rfl rfl (by decide +kernel) (sh_isOb hl.sh (tlt 0 rfl) tbC_0) rfl rfl) rfl _ (hK_X rfl (hK_I fun u6 w5 hbu6 hkw5 => w_f b218 d218_378 rfl rfl rfl <| w_j b218 d218_379 rfl (by decide +kernel) <| w_rv b218 d218_387 r218 hkw5.2)) ((h.1 c1).2.2 c2))) (fun cz => Decidable.byCases (p := z0 = 0) (fun c1 => w_tsI (off := 78) b218 d218_54 rfl (by decide +kernel) hz0 cz (by rw [c1]; rfl) <| w_f b218 d218_132 rfl rfl rfl <| w_f b218 d218_133 rfl rfl rfl <| w_f b218 d218_134 rfl rfl rfl <| w_f b218 d218_136 rfl rfl rfl <| w_f b218 d218_138 rfl rfl rfl <| w_f b218 d218_140 rfl rfl rfl <| w_f b218 d218_142 rfl (pf_idiv hx4 ⟨by decide, by decide⟩) rfl <| w_f b218 d218_143 rfl rfl rfl <| w_f b218 d218_144 rfl (pf_irem (h.2.1 c1).1 ⟨by decide, by decide⟩) rfl <| w_ifeq b218 d218_145 rfl rfl (by decide +kernel) (h.2.1 c1).2.1 (fun c7 => w_f b218 d218_152 rfl rfl rfl <| w_c b218 d218_153 rfl (pcl_v (n := 4) rfl rfl rfl (by decide +kernel) (sh_isOb hl.sh (tlt 0 rfl) tbC_0) rfl rfl) rfl _ (hK_X rfl (hK_I fun u9 w8 hbu9 hkw8 => w_f b218 d218_156 rfl rfl rfl <| w_j b218 d218_157 rfl (by decide +kernel) <| w_rv b218 d218_387 r218 hkw8.2)) ((h.2.1 c1).2.2.1 c7)) (fun c7 => w_f b218 d218_148 rfl rfl rfl <| w_j b218 d218_149 rfl (by decide +kernel) <| w_c b218 d218_153 rfl (pcl_v (n := 4) rfl rfl rfl (by decide +kernel) (sh_isOb hl.sh (tlt 0 rfl) tbC_0) rfl rfl) rfl _ (hK_X rfl (hK_I fun u11 w10 hbu11 hkw10 => w_f b218 d218_156 rfl rfl rfl <| w_j b218 d218_157 rfl (by decide +kernel) <| w_rv b218 d218_387 r218 hkw10.2)) ((h.2.1 c1).2.2.2 c7))) (fun cn0 => Decidable.byCases (p := z0 = 1) (fun c1 => w_tsI (off := 78) b218 d218_54 rfl (by decide +kernel) hz0 cz (by rw [c1]; rfl) <| w_f b218 d218_132 rfl rfl rfl <| w_f b218 d218_133 rfl rfl rfl <| w_f b218 d218_134 rfl rfl rfl <| w_f b218 d218_136 rfl rfl rfl <| w_f b218 d218_138 rfl rfl rfl <| w_f b218 d218_140 rfl rfl rfl <| w_f b218 d218_142 rfl (pf_idiv hx4 ⟨by decide, by decide⟩) rfl <| w_f b218 d218_143 rfl rfl rfl <| w_f b218 d218_144 rfl (pf_irem (h.2.2.1 c1).1 ⟨by decide, by decide⟩) rfl <| w_ifeq b218 d218_145 rfl rfl (by decide +kernel) (h.2.2.1 c1).2.1 (fun c12 => w_f b218 d218_152 rfl rfl rfl <| w_c b218 d218_153 rfl (pcl_v (n := 4) rfl rfl rfl (by decide +kernel) (sh_isOb hl.sh (tlt 0 rfl) tbC_0) rfl rfl) rfl _ (hK_X rfl (hK_I fun u14 w13 hbu14 hkw13 => w_f b218 d218_156 rfl rfl rfl <| w_j b218 d218_157 rfl (by decide +kernel) <| w_rv b218 d218_387 r218 hkw13.2)) ((h.2.2.1 c1).2.2.1 c12)) (fun c12 => w_f b218 d218_148 rfl rfl rfl <| w_j b218 d218_149 rfl (by decide +kernel) <| w_c b218 d218_153 rfl (pcl_v (n := 4) rfl rfl rfl (by decide +kernel) (sh_isOb hl.sh (tlt 0 rfl) tbC_0) rfl rfl) rfl _ (hK_X rfl (hK_I fun u16 w15 hbu16 hkw15 => w_f b218 d218_156 rfl rfl rfl <| w_j b218 d218_157 rfl (by decide +kernel) <| w_rv b218 d218_387 r218 hkw15.2)) ((h.2.2.1 c1).2.2.2 c12))) (fun cn1 => Decidable.byCases (p := z0 = 2) (fun c1 => w_tsI (off := 106) b218 d218_54 rfl (by decide +kernel) hz0 cz (by rw [c1]; rfl) <| w_f b218 d218_160 rfl rfl rfl <| w_f b218 d218_161 rfl rfl rfl <| w_f b218 d218_162 rfl rfl rfl <| w_f b218 d218_164 rfl rfl rfl <| w_f b218 d218_166 rfl rfl rfl <| w_f b218 d218_168 rfl (pf_idiv hx4 ⟨by decide, by decide⟩) rfl <| w_f b218 d218_169 rfl rfl rfl <| w_f b218 d218_170 rfl (pf_irem (h.2.2.2.1 c1).1 ⟨by decide, by decide⟩) rfl <| w_cc b218 d218_171 rfl (pcl_s1 (n := 1) rfl rfl rfl (by decide +kernel) rfl rfl) rfl <| c217 hl.sh (h.2.2.2.1 c1).2.1 (h.2.2.2.1 c1).2.2.1 <| w_c b218 d218_174 rfl (pcl_v (n := 3) rfl rfl rfl (by decide +kernel) (sh_isOb hl.sh (tlt 0 rfl) tbC_0) rfl rfl) rfl _ (hK_X rfl (hK_I fun u18 w17 hbu18 hkw17 => w_f b218 d218_177 rfl rfl rfl <| w_j b218 d218_178 rfl (by decide +kernel) <| w_rv b218 d218_387 r218 hkw17.2)) (h.2.2.2.1 c1).2.2.2) (fun cn2 => Decidable.byCases (p := z0 = 3) (fun c1 => w_tsI (off := 106) b218 d218_54 rfl (by decide +kernel) hz0 cz (by rw [c1]; rfl) <| w_f b218 d218_160 rfl rfl rfl <| w_f b218 d218_161 rfl rfl rfl <| w_f b218 d218_162 rfl rfl rfl <| w_f b218 d218_164 rfl rfl rfl <| w_f b218 d218_166 rfl rfl rfl <| w_f b218 d218_168 rfl (pf_idiv hx4 ⟨by decide, by decide⟩) rfl <| w_f b218 d218_169 rfl rfl rfl <| w_f b218 d218_170 rfl (pf_irem (h.2.2.2.2.1 c1).1 ⟨by decide, by decide⟩) rfl <| w_cc b218 d218_171 rfl (pcl_s1 (n := 1) rfl rfl rfl (by decide +kernel) rfl rfl) rfl <| c217 hl.sh (h.2.2.2.2.1 c1).2.1 (h.2.2.2.2.1 c1).2.2.1 <| w_c b218 d218_174 rfl (pcl_v (n := 3) rfl rfl rfl (by decide +kernel) (sh_isOb hl.sh (tlt 0 rfl) tbC_0) rfl rfl) rfl _ (hK_X rfl (hK_I fun u20 w19 hbu20 hkw19 => w_f b218 d218_177 rfl rfl rfl <| w_j b218 d218_178 rfl (by decide +kernel) <| w_rv b218 d218_387 r218 hkw19.2)) (h.2.2.2.2.1 c1).2.2.2) (fun cn3 => Decidable.byCases (p := z0 = 4) (fun c1 => w_tsI (off := 127) b218 d218_54 rfl (by decide +kernel) hz0 cz (by rw [c1]; rfl) <| w_f b218 d218_181 rfl rfl rfl <| w_f b218 d218_182 rfl rfl rfl <| w_cc b218 d218_183 rfl (pcl_v (n := 1) rfl rfl rfl (by decide +kernel) (sh_isOb hl.sh (tlt 0 rfl) tbC_0) rfl rfl) rfl <| q65_5 hl ⟨by decide, by decide⟩ (fun w21 lw21 bw21 => w_ifle b218 d218_186 rfl rfl (by decide +kernel) bw21 (fun c22 => w_rv b218 d218_387 r218 (((h.2.2.2.2.2.1 c1) w21 lw21 bw21).1 c22)) (fun c22 => w_f b218 d218_189 rfl rfl rfl <| w_f b218 d218_190 rfl rfl rfl <| w_f b218 d218_192 rfl rfl rfl <| w_f b218 d218_193 rfl rfl rfl <| w_cc b218 d218_194 rfl (pcl_v (n := 1) rfl rfl rfl (by decide +kernel) (sh_isOb lw21.sh (tlt 0 rfl) tbC_0) rfl rfl) rfl <| q65_5 lw21 ⟨by decide, by decide⟩ (fun w23 lw23 bw23 => w_f b218 d218_197 rfl (pf_irem hx4 ((((h.2.2.2.2.2.1 c1) w21 lw21 bw21).2 c22) w23 lw23 bw23).1) rfl <| w_c b218 d218_198 rfl (pcl_v (n := 1) rfl rfl rfl (by decide +kernel) (sh_isOb lw23.sh (tlt 0 rfl) tbC_0) rfl rfl) rfl _ (hK_X rfl (hK_I fun u25 w24 hbu25 hkw24 => w_f b218 d218_201 rfl rfl rfl <| w_j b218 d218_202 rfl (by decide +kernel) <| w_rv b218 d218_387 r218 hkw24.2)) ((((h.2.2.2.2.2.1 c1) w21 lw21 bw21).2 c22) w23 lw23 bw23).2)))) (fun cn4 => Decidable.byCases (p := z0 = 5) (fun c1 => w_tsI (off := 151) b218 d218_54 rfl (by decide +kernel) hz0 cz (by rw [c1]; rfl) <| w_f b218 d218_205 rfl rfl rfl <| w_f b218 d218_206 rfl rfl rfl <| w_f b218 d218_208 rfl rfl rfl <| w_f b218 d218_209 rfl (pf_irem hx4 ⟨by decide, by decide⟩) rfl <| w_cc b218 d218_210 rfl (pcl_s1 (n := 1) rfl rfl rfl (by decide +kernel) rfl rfl) rfl <| c217 hl.sh (h.2.2.2.2.2.2.1 c1).1 (h.2.2.2.2.2.2.1 c1).2.1 <| w_f b218 d218_213 rfl rfl rfl <| w_f b218 d218_214 rfl rfl rfl <| w_f b218 d218_216 rfl rfl rfl <| w_f b218 d218_217 rfl (pf_idiv hx4 ⟨by decide, by decide⟩) rfl <| w_f b218 d218_218 rfl rfl rfl <| w_f b218 d218_219 rfl (pf_irem (h.2.2.2.2.2.2.1 c1).2.2.1 ⟨by decide, by decide⟩) rfl <| w_f b218 d218_220 rfl (pf_iadd 1 ((x4.tdiv 4).tmod 4)) rfl <| w_c b218 d218_221 rfl (pcl_v (n := 2) rfl rfl rfl (by decide +kernel) (sh_isOb hl.sh (tlt 0 rfl) tbC_0) rfl rfl) rfl _ (hK_X rfl (hK_I fun u27 w26 hbu27 hkw26 => w_f b218 d218_224 rfl rfl rfl <| w_j b218 d218_225 rfl (by decide +kernel) <| w_rv b218 d218_387 r218 hkw26.2)) (h.2.2.2.2.2.2.1 c1).2.2.2) (fun cn5 => Decidable.byCases (p := z0 = 6) (fun c1 => w_tsI (off := 174) b218 d218_54 rfl (by decide +kernel) hz0 cz (by rw [c1]; rfl) <| w_f b218 d218_228 rfl rfl rfl <| w_f b218 d218_229 rfl rfl rfl <| w_f b218 d218_231 rfl rfl rfl <| w_f b218 d218_232 rfl rfl rfl <| w_f b218 d218_234 rfl rfl rfl <| w_f b218 d218_235 rfl (pf_irem hx4 ⟨by decide, by decide⟩) rfl <| w_f b218 d218_236 rfl (pf_iadd 1 (x4.tmod 5)) rfl <| w_c b218 d218_237 rfl (pcl_v (n := 2) rfl rfl rfl (by decide +kernel) (sh_isOb hl.sh (tlt 0 rfl) tbC_0) rfl rfl) rfl _ (hK_X rfl (hK_I fun u29 w28 hbu29 hkw28 => w_f b218 d218_240 rfl rfl rfl <| w_j b218 d218_241 rfl (by decide +kernel) <| w_rv b218 d218_387 r218 hkw28.2)) (h.2.2.2.2.2.2.2.1 c1)) (fun cn6 => Decidable.byCases (p := z0 = 7) (fun c1 => w_tsI (off := 190) b218 d218_54 rfl (by decide +kernel) hz0 cz (by rw [c1]; rfl) <| w_f b218 d218_244 rfl rfl rfl <| w_f b218 d218_245 rfl rfl rfl <| w_f b218 d218_247 rfl rfl rfl <| w_f b218 d218_249 rfl rfl rfl <| w_f b218 d218_250 rfl (pf_irem hx4 ⟨by decide, by decide⟩) rfl <| w_cc b218 d218_251 rfl (pcl_s1 (n := 1) rfl rfl rfl (by decide +kernel) rfl rfl) rfl <| c217 hl.sh (h.2.2.2.2.2.2.2.2.1 c1).1 (h.2.2.2.2.2.2.2.2.1 c1).2.1 <| w_c b218 d218_254 rfl (pcl_v (n := 2) rfl rfl rfl (by decide +kernel) (sh_isOb hl.sh (tlt 0 rfl) tbC_0) rfl rfl) rfl _ (hK_X rfl (hK_I fun u31 w30 hbu31 hkw30 => w_f b218 d218_257 rfl rfl rfl <| w_j b218 d218_258 rfl (by decide +kernel) <| w_rv b218 d218_387 r218 hkw30.2)) (h.2.2.2.2.2.2.2.2.1 c1).2.2) (fun cn7 => Decidable.byCases (p := z0 = 8) (fun c1 => w_tsI (off := 207) b218 d218_54 rfl (by decide +kernel) hz0 cz (by rw [c1]; rfl) <| w_f b218 d218_261 rfl rfl rfl <| w_f b218 d218_262 rfl rfl rfl <| w_cc b218 d218_263 rfl (pcl_v (n := 1) rfl rfl rfl (by decide +kernel) (sh_isOb hl.sh (tlt 0 rfl) tbC_0) rfl rfl) rfl <| q181 hl hx3 (h.2.2.2.2.2.2.2.2.2.1 c1).1 (fun w32 lw32 bw32 => w_f b218 d218_266 rfl rfl rfl <| w_j b218 d218_267 rfl (by decide +kernel) <| w_rv b218 d218_387 r218 ((h.2.2.2.2.2.2.2.2.2.1 c1).2 w32 lw32 bw32))) (fun cn8 => Decidable.byCases (p := z0 = 9) (fun c1 => w_tsI (off := 207) b218 d218_54 rfl (by decide +kernel) hz0 cz (by rw [c1]; rfl) <| w_f b218 d218_261 rfl rfl rfl <| w_f b218 d218_262 rfl rfl rfl <| w_cc b218 d218_263 rfl (pcl_v (n := 1) rfl rfl rfl (by decide +kernel) (sh_isOb hl.sh (tlt 0 rfl) tbC_0) rfl rfl) rfl <| q181 hl hx3 (h.2.2.2.2.2.2.2.2.2.2.1 c1).1 (fun w33 lw33 bw33 => w_f b218 d218_266 rfl rfl rfl <| w_j b218 d218_267 rfl (by decide +kernel) <| w_rv b218 d218_387 r218 ((h.2.2.2.2.2.2.2.2.2.2.1 c1).2 w33 lw33 bw33))) (fun cn9 => Decidable.byCases (p := z0 = 10) (fun c1 => w_tsI (off := 216) b218 d218_54 rfl (by decide +kernel) hz0 cz (by rw [c1]; rfl) <| w_f b218 d218_270 rfl rfl rfl <| w_f b218 d218_271 rfl rfl rfl <| w_f b218 d218_272 rfl rfl rfl <| w_cc b218 d218_274 rfl (pcl_v (n := 2) rfl rfl rfl (by decide +kernel) (sh_isOb hl.sh (tlt 0 rfl) tbC_0) rfl rfl) rfl <| q188 hl hx3 hx5 (h.2.2.2.2.2.2.2.2.2.2.2.1 c1).1 (h.2.2.2.2.2.2.2.2.2.2.2.1 c1).2.1 (fun w34 lw34 bw34 => w_f b218 d218_277 rfl rfl rfl <| w_j b218 d218_278 rfl (by decide +kernel) <| w_rv b218 d218_387 r218 ((h.2.2.2.2.2.2.2.2.2.2.2.1 c1).2.2 w34 lw34 bw34))) (fun cn10 => Decidable.byCases (p := z0 = 11) (fun c1 => w_tsI (off := 227) b218 d218_54 rfl (by decide +kernel) hz0 cz (by rw [c1]; rfl) <| w_f b218 d218_281 rfl rfl rfl <| w_f b218 d218_282 rfl rfl rfl <| w_c b218 d218_283 rfl (pcl_v (n := 1) rfl rfl rfl (by decide +kernel) (sh_isOb hl.sh (tlt 0 rfl) tbC_0) rfl rfl) rfl _ (hK_X rfl (hK_I fun u36 w35 hbu36 hkw35 => w_f b218 d218_286 rfl rfl rfl <| w_j b218 d218_287 rfl (by decide +kernel) <| w_rv b218 d218_387 r218 hkw35.2)) (h.2.2.2.2.2.2.2.2.2.2.2.2.1 c1)) (fun cn11 => Decidable.byCases (p := z0 = 12) (fun c1 => w_tsI (off := 236) b218 d218_54 rfl (by decide +kernel) hz0 cz (by rw [c1]; rfl) <| w_f b218 d218_290 rfl rfl rfl <| w_f b218 d218_291 rfl rfl rfl <| w_f b218 d218_292 rfl rfl rfl <| w_f b218 d218_294 rfl rfl rfl <| w_f b218 d218_295 rfl (pf_irem hx4 ⟨by decide, by decide⟩) rfl <| w_f b218 d218_296 rfl rfl rfl <| w_f b218 d218_297 rfl (pf_isub (x4.tmod 5) 2) rfl <| w_c b218 d218_298 rfl (pcl_v (n := 2) rfl rfl rfl (by decide +kernel) (sh_isOb hl.sh (tlt 0 rfl) tbC_0) rfl rfl) rfl _ (hK_X rfl (hK_I fun u38 w37 hbu38 hkw37 => w_f b218 d218_301 rfl rfl rfl <| w_j b218 d218_302 rfl (by decide +kernel) <| w_rv b218 d218_387 r218 hkw37.2)) (h.2.2.2.2.2.2.2.2.2.2.2.2.2.1 c1)) (fun cn12 => Decidable.byCases (p := z0 = 13) (fun c1 => w_tsI (off := 251) b218 d218_54 rfl (by decide +kernel) hz0 cz (by rw [c1]; rfl) <| w_f b218 d218_305 rfl rfl rfl <| w_f b218 d218_307 rfl rfl rfl <| w_f b218 d218_308 rfl (pf_irem hx4 ⟨by decide, by decide⟩) rfl <| w_ifne b218 d218_309 rfl rfl (by decide +kernel) (h.2.2.2.2.2.2.2.2.2.2.2.2.2.2.1 c1).1 (fun c39 => w_f b218 d218_328 rfl rfl rfl <| w_f b218 d218_329 rfl rfl rfl <| w_f b218 d218_331 rfl rfl rfl <| w_f b218 d218_332 rfl (pf_idiv hx4 ⟨by decide, by decide⟩) rfl <| w_f b218 d218_333 rfl rfl rfl <| w_f b218 d218_334 rfl (pf_irem ((h.2.2.2.2.2.2.2.2.2.2.2.2.2.2.1 c1).2.1 c39).1 ⟨by decide, by decide⟩) rfl <| w_c b218 d218_335 rfl (pcl_v (n := 1) rfl rfl rfl (by decide +kernel) (sh_isOb hl.sh (tlt 0 rfl) tbC_0) rfl rfl) rfl _ (hK_X rfl (hK_I fun u41 w40 hbu41 hkw40 => w_f b218 d218_338 rfl rfl rfl <| w_j b218 d218_339 rfl (by decide +kernel) <| w_rv b218 d218_387 r218 hkw40.2)) ((h.2.2.2.2.2.2.2.2.2.2.2.2.2.2.1 c1).2.1 c39).2) (fun c39 => w_f b218 d218_312 rfl rfl rfl <| w_f b218 d218_313 rfl rfl rfl <| w_f b218 d218_314 rfl rfl rfl <| w_f b218 d218_316 rfl rfl rfl <| w_f b218 d218_317 rfl (pf_idiv hx4 ⟨by decide, by decide⟩) rfl <| w_f b218 d218_318 rfl rfl rfl <| w_f b218 d218_319 rfl (pf_irem ((h.2.2.2.2.2.2.2.2.2.2.2.2.2.2.1 c1).2.2 c39).1 ⟨by decide, by decide⟩) rfl <| w_f b218 d218_320 rfl (pf_iadd 1 ((x4.tdiv 2).tmod 4)) rfl <| w_c b218 d218_321 rfl (pcl_v (n := 1) rfl rfl rfl (by decide +kernel) (sh_isOb hl.sh (tlt 0 rfl) tbC_0) rfl rfl) rfl _ (hK_X rfl (hK_I fun u43 w42 hbu43 hkw42 => w_f b218 d218_324 rfl rfl rfl <| w_j b218 d218_325 rfl (by decide +kernel) <| w_rv b218 d218_387 r218 hkw42.2)) ((h.2.2.2.2.2.2.2.2.2.2.2.2.2.2.1 c1).2.2 c39).2)) (fun cn13 => Decidable.byCases (p := z0 = 14) (fun c1 => w_tsI (off := 288) b218 d218_54 rfl (by decide +kernel) hz0 cz (by rw [c1]; rfl) <| w_f b218 d218_342 rfl rfl rfl <| w_f b218 d218_343 rfl rfl rfl <| w_c b218 d218_344 rfl (pcl_v (n := 1) rfl rfl rfl (by decide +kernel) (sh_isOb hl.sh (tlt 0 rfl) tbC_0) rfl rfl) rfl _ (hK_X rfl (hK_I fun u45 w44 hbu45 hkw44 => w_f b218 d218_347 rfl rfl rfl <| w_j b218 d218_348 rfl (by decide +kernel) <| w_rv b218 d218_387 r218 hkw44.2)) (h.2.2.2.2.2.2.2.2.2.2.2.2.2.2.2.1 c1)) (fun cn14 => have c1 : z0 = 15 := by omega
  w_tsI (off := 297) b218 d218_54 rfl (by decide +kernel) hz0 cz (by rw [c1]; rfl) <| w_f b218 d218_351 rfl rfl rfl <| w_f b218 d218_352 rfl rfl rfl <| w_f b218 d218_353 rfl rfl rfl <| w_f b218 d218_355 rfl rfl rfl <| w_f b218 d218_357 rfl (pf_irem hx4 ⟨by decide, by decide⟩) rfl <| w_f b218 d218_358 rfl (pf_iadd 1 (x4.tmod 30)) rfl <| w_cc b218 d218_359 rfl (pcl_v (n := 1) rfl rfl rfl (by decide +kernel) (sh_isOb hl.sh (tlt 0 rfl) tbC_0) rfl rfl) rfl <| q201 hl (h.2.2.2.2.2.2.2.2.2.2.2.2.2.2.2.2 c1).1 (h.2.2.2.2.2.2.2.2.2.2.2.2.2.2.2.2 c1).2.1 (h.2.2.2.2.2.2.2.2.2.2.2.2.2.2.2.2 c1).2.2.1 (h.2.2.2.2.2.2.2.2.2.2.2.2.2.2.2.2 c1).2.2.2.1 (fun w46 lw46 bw46 => w_f b218 d218_362 rfl rfl rfl <| w_j b218 d218_363 rfl (by decide +kernel) <| w_rv b218 d218_387 r218 ((h.2.2.2.2.2.2.2.2.2.2.2.2.2.2.2.2 c1).2.2.2.2 w46 lw46 bw46))))))))))))))))))
/-- what every row of the law keeps -/
def G (c : Nat) (r : Row) : Prop := 1 ≤ r 4 ∧ r 9 ≤ 12 * r 8 ∧ r 8 ≤ c
def INV (c : Nat) (m : Row) (H : Nat → Row) (n : Nat) : Prop := G c m ∧ ∀ j, j < n → G c (H j)
theorem tmz {z k : Int} (hz : 0 ≤ z) (hk : 0 < k) : 0 ≤ z.tmod k ∧ z.tmod k < k := by
  rw [Int.tmod_eq_emod_of_nonneg hz]
  exact ⟨Int.emod_nonneg _ (by omega), Int.emod_lt_of_pos _ hk⟩
theorem tdz {z k : Int} (hz : 0 ≤ z ∧ z < 100000) (hk : 0 < k) : 0 ≤ z.tdiv k ∧ z.tdiv k < 100000 := by
  rw [Int.tdiv_eq_ediv_of_nonneg hz.1]
  have h1 := Int.ediv_nonneg hz.1 (Int.le_of_lt hk)
  have h2 := Int.ediv_le_self k hz.1
  omega
section LST
variable {Q : PO → PW → Prop} {m : Row} {H : Nat → Row} {n c : Nat} {k0 : Option Row} {sn : Nat} {sf : Nat → Int32}
theorem G.up {r : Row} (h : G c r) : G (c + 30) r := ⟨h.1, h.2.1, by have := h.2.2; omega⟩
theorem INV.up (h : INV c m H n) : INV (c + 30) m H n := ⟨h.1.up, fun j hj => (h.2 j hj).up⟩
theorem INV.push {m' : Row} (h : INV c m H n) (h' : G c m') : INV c m' (hPush H n m) (hLen n) := by
  refine ⟨h', fun j hj => ?_⟩
  unfold hPush
  unfold hLen at hj
  by_cases q : n = 8
  · rw [if_pos q] at hj
    rw [if_pos q]
    split
    · exact h.1
    · exact h.2 _ (by omega)
  · rw [if_neg q] at hj
    rw [if_neg q]
    split
    · exact h.1
    · exact h.2 _ (by omega)
abbrev stQ (c : Nat) (k0 : Option Row) (sn : Nat) (sf : Nat → Int32) (Q : PO → PW → Prop) : Prop := ∀ w' m' H' n', LW w' m' H' n' k0 sn sf → INV (c + 30) m' H' n' → Q (.inl none) w'
/-- an action of the law that pushes -/
theorem act1 {w : PW} (hl : LW w m H n k0 sn sf) (hI : INV c m H n) (h : stQ c k0 sn sf Q) {r : AR} {z : Int} {m' : Row} (e : r = (rI z, some m')) (h4 : m 4 ≤ m' 4) (h8 : m' 8 = m 8) (h9 : m' 9 = m 9) : ∀ w2, AO w H n m r.2 w2 → kX (kI fun _ w => Sh w ∧ Q (.inl none) w) Q r.1 w2 := by
  subst e
  intro w2 hA
  have l2 := hl.ao hA
  have hG : G c m' := ⟨by have := hI.1.1; omega, by rw [h8, h9]; exact hI.1.2.1, by rw [h8]; exact hI.1.2.2⟩
  exact ⟨l2.sh, h w2 _ _ _ l2 (hI.push hG).up⟩
/-- an action of the law that changes nothing -/
theorem act0 {w : PW} (hl : LW w m H n k0 sn sf) (hI : INV c m H n) (h : stQ c k0 sn sf Q) {r : AR} {z : Int} (e : r = (rI z, none)) : ∀ w2, AO w H n m r.2 w2 → kX (kI fun _ w => Sh w ∧ Q (.inl none) w) Q r.1 w2 := by
  subst e
  intro w2 hA
  have l2 := hl.ao hA
  exact ⟨l2.sh, h w2 _ _ _ l2 hI.up⟩
theorem rDrop_L {k j : Nat} (hj : j < 71) (h5 : j ≠ 5) : rDrop m k j = m j := by
  unfold rDrop
  rw [if_neg h5, if_neg (by omega)]
theorem rNote_L {u s p : Int} {j : Nat} (hj : j < 71) (h5 : j ≠ 5) : rNote m u s p j = m j := by
  unfold rNote
  rw [if_neg h5, if_neg (by omega), if_neg (by omega), if_neg (by omega)]
theorem rTooth_L {p r : Int} {j : Nat} (hj : j < 11) (h5 : j ≠ 4) : rTooth m p r j = m j := by
  unfold rTooth
  rw [if_neg h5, if_neg (by omega), if_neg (by omega), if_neg (by omega), if_neg (by omega), if_neg (by omega)]
theorem rOne_ne {J j : Nat} {z : Int} (h : j ≠ J) : rOne m J z j = m j := if_neg h
theorem lay_inv {w : PW} {x : Int} (hl : LW w m H n k0 sn sf) (hI : INV c m H n) (h : stQ c k0 sn sf Q) (h1 : 0 ≤ x ∧ x < m 1) : ∀ w', LW w' (lyM m x) (lyH H n m x) (lyN n m x) k0 sn sf → Q (.inl none) w' := by
  intro w' l'
  by_cases q : (sSeek m x (-1)).1 = 1
  · unfold lyM lyH lyN at l'
    rw [ly_1 h1 q] at l'
    have l2 : LW w' (rLay m x.toNat (sSeek m x (-1)).2.2.2) (hPush H n m) (hLen n) k0 sn sf := l'
    refine h w' _ _ _ l2 (INV.up (hI.push ?_))
    have e : ∀ j, j < 251 → rLay m x.toNat (sSeek m x (-1)).2.2.2 j = m j := fun j hj => rSetP_lo hj
    exact ⟨by rw [e 4 (by decide)]; exact hI.1.1, by rw [e 9 (by decide), e 8 (by decide)]; exact hI.1.2.1, by rw [e 8 (by decide)]; exact hI.1.2.2⟩
  · unfold lyM lyH lyN at l'
    rw [ly_0 h1 q] at l'
    have l2 : LW w' m H n k0 sn sf := l'
    exact h w' _ _ _ l2 hI.up
theorem tr_inv {w : PW} {x y : Int} (hl : LW w m H n k0 sn sf) (hI : INV c m H n) (h : stQ c k0 sn sf Q) (h1 : 0 ≤ x ∧ x < m 1) (h2 : -23 ≤ y ∧ y ≤ 23) (bx : bd x) (by_ : bd y) : pC 185 [.ref 0, iv x, iv y] w (kX (kI fun _ w => Sh w ∧ Q (.inl none) w) Q) := by
  refine c185 hl.sh hl.br hl.hr bx by_ ?_
  by_cases q : cnt (sTrB m x y) (m 5).toNat = 0
  · have e : sa185 m x y = (rI (sNotes (rSetN m x 2 (fun z => z + y)) x : Nat), some (rSetN m x 2 (fun z => z + y))) := by
      unfold sa185 aU aP aQ
      rw [if_pos h1, if_pos h2, if_pos q]
    exact act1 hl hI h e (Int.le_of_eq (rSetN_lo (by decide)).symm) (rSetN_lo (by decide)) (rSetN_lo (by decide))
  · have e : sa185 m x y = (rI (-3), none) := by
      unfold sa185 aU aP aQ
      rw [if_pos h1, if_pos h2, if_neg q]
    exact act0 hl hI h e
theorem l218_54 {w : PW} {x2 U Z S T z0 : Int} (hsn : Nat.blt sn 2147483648 = true) (l6 : LW w m H n k0 sn sf) (hI : INV c m H n) (hc : c ≤ 80000) (hx2 : bd x2) (Z0 : 0 ≤ Z ∧ Z < 100000) (U0 : 0 ≤ U ∧ U < m 1) (S0 : 0 ≤ S ∧ S < m 0) (T0 : 0 ≤ T ∧ T < m 4) (hz0 : bd z0) (h : stQ c k0 sn sf Q) : pX 218 54 [some (.ref 0), some (.ref pSC), some (iv x2), some (iv U), some (iv Z), some (iv S), some (iv T)] [iv z0] w Q := by
  have hR := l6.ok
  have h0 := hR.s
  have h1 := hR.u
  have h4 := hR.t
  have h5 := hR.n
  obtain ⟨g1, g2, g3⟩ := hI.1
  have tm : ∀ {z k : Int}, 0 ≤ z → 0 < k → k ≤ 100000 → bd (z.tmod k) := fun hz hk h9 => by
    have := tmz hz hk
    exact ⟨by omega, by omega⟩
  have td : ∀ {k : Int}, 0 < k → bd (Z.tdiv k) := fun hk => by
    have := tdz Z0 hk
    exact ⟨by omega, by omega⟩
  have D16 := tdz Z0 (k := 16) (by decide)
  have D64 := tdz Z0 (k := 64) (by decide)
  have D4 := tdz Z0 (k := 4) (by decide)
  have D2 := tdz Z0 (k := 2) (by decide)
  have P0 := tmz D16.1 (k := 4) (by decide)
  have Q0 := tmz Z0.1 (k := 4) (by decide)
  have R0 := tmz D4.1 (k := 4) (by decide)
  have F0 := tmz Z0.1 (k := 5) (by decide)
  have V0 := tmz D2.1 (k := 4) (by decide)
  have W0 := tmz Z0.1 (k := 30) (by decide)
  have bU : bd U := ⟨by omega, by omega⟩
  have bS : bd S := ⟨by omega, by omega⟩
  have bT : bd T := ⟨by omega, by omega⟩
  refine v218_54 l6 hsn hx2 bU ⟨by omega, by omega⟩ bS bT hz0 ⟨fun _ => ⟨tm Z0.1 (by decide) (by decide), fun _ => ?_, fun _ => ?_⟩, fun _ => ?_, fun _ => ?_, fun _ => ?_, fun _ => ?_, fun _ => ?_, fun _ => ?_, fun _ => ?_, fun _ => ?_, fun _ => ?_, fun _ => ?_, fun _ => ?_, fun _ => ?_, fun _ => ?_, fun _ => ?_, fun _ => ?_, fun _ => ?_⟩
  · -- undo
    refine c56 l6.sh l6.br l6.hr (fun _ => ⟨l6.sh, h w _ _ _ l6 hI.up⟩) (fun y hy w7 s7 a7 b7 r7 => ⟨s7, ?_⟩)
    have l7 : LW w7 (H y) H y k0 sn sf := ⟨s7, b7, r7, (a7 pSC (by decide) (by decide)).trans l6.sc, fun r hr => ⟨(gI_cell (a7 134 (by decide) (by decide)) 0).trans (l6.2.2.2.2 r hr).1, (l6.2.2.2.2 r hr).2.cells (fun k hk => a7 _ (by omega) (by omega))⟩⟩
    exact h w7 _ _ _ l7 (INV.up ⟨hI.2 y (by omega), fun j hj => hI.2 j (by omega)⟩)
  · -- clear
    refine c178 l6.sh l6.br l6.hr bU (act1 l6 hI h (z := sPins m U.toNat) (m' := rClrP m U.toNat) ?_ ?_ ?_ ?_)
    · unfold sa178 aU aP
      rw [if_pos U0]
    · exact Int.le_of_eq (rSetP_lo (by decide)).symm
    · exact rSetP_lo (by decide)
    · exact rSetP_lo (by decide)
  · refine ⟨td (by decide), tm D64.1 (by decide) (by decide), fun _ => ?_, fun _ => ?_⟩
    · refine c176 l6.sh l6.br l6.hr bU bS bT bd01.1 (act1 l6 hI h (by unfold sa176 aP; rw [if_pos U0, if_pos S0, if_pos T0]) ?_ ?_ ?_)
      · exact Int.le_of_eq (rSetP_lo (by decide)).symm
      · exact rSetP_lo (by decide)
      · exact rSetP_lo (by decide)
    · refine c176 l6.sh l6.br l6.hr bU bS bT bd01.2 (act1 l6 hI h (by unfold sa176 aP; rw [if_pos U0, if_pos S0, if_pos T0]) ?_ ?_ ?_)
      · exact Int.le_of_eq (rSetP_lo (by decide)).symm
      · exact rSetP_lo (by decide)
      · exact rSetP_lo (by decide)
  · refine ⟨td (by decide), tm D64.1 (by decide) (by decide), fun _ => ?_, fun _ => ?_⟩
    · refine c176 l6.sh l6.br l6.hr bU bS bT bd01.1 (act1 l6 hI h (by unfold sa176 aP; rw [if_pos U0, if_pos S0, if_pos T0]) ?_ ?_ ?_)
      · exact Int.le_of_eq (rSetP_lo (by decide)).symm
      · exact rSetP_lo (by decide)
      · exact rSetP_lo (by decide)
    · refine c176 l6.sh l6.br l6.hr bU bS bT bd01.2 (act1 l6 hI h (by unfold sa176 aP; rw [if_pos U0, if_pos S0, if_pos T0]) ?_ ?_ ?_)
      · exact Int.le_of_eq (rSetP_lo (by decide)).symm
      · exact rSetP_lo (by decide)
      · exact rSetP_lo (by decide)
  · refine ⟨td (by decide), tm D16.1 (by decide) (by decide), ⟨P0.1, by omega⟩, ?_⟩
    have pb : 0 ≤ (if (Z.tdiv 16).tmod 4 = 3 then 12 else 2 * (Z.tdiv 16).tmod 4) ∧ (if (Z.tdiv 16).tmod 4 = 3 then 12 else 2 * (Z.tdiv 16).tmod 4) ≤ 23 := by split <;> omega
    generalize (if (Z.tdiv 16).tmod 4 = 3 then 12 else 2 * (Z.tdiv 16).tmod 4) = P at pb ⊢
    by_cases q : m 5 < 60
    · exact c165 l6.sh l6.br l6.hr bU bS ⟨by omega, by omega⟩ (act1 l6 hI h (by unfold sa165 aP aQ; rw [if_pos U0, if_pos S0, if_pos pb, if_pos q]) (Int.le_of_eq (rNote_L (by decide) (by decide)).symm) (rNote_L (by decide) (by decide)) (rNote_L (by decide) (by decide)))
    · exact c165 l6.sh l6.br l6.hr bU bS ⟨by omega, by omega⟩ (act0 l6 hI h (by unfold sa165 aP aQ; rw [if_pos U0, if_pos S0, if_pos pb, if_neg q]))
  · refine ⟨td (by decide), tm D16.1 (by decide) (by decide), ⟨P0.1, by omega⟩, ?_⟩
    have pb : 0 ≤ (if (Z.tdiv 16).tmod 4 = 3 then 12 else 2 * (Z.tdiv 16).tmod 4) ∧ (if (Z.tdiv 16).tmod 4 = 3 then 12 else 2 * (Z.tdiv 16).tmod 4) ≤ 23 := by split <;> omega
    generalize (if (Z.tdiv 16).tmod 4 = 3 then 12 else 2 * (Z.tdiv 16).tmod 4) = P at pb ⊢
    by_cases q : m 5 < 60
    · exact c165 l6.sh l6.br l6.hr bU bS ⟨by omega, by omega⟩ (act1 l6 hI h (by unfold sa165 aP aQ; rw [if_pos U0, if_pos S0, if_pos pb, if_pos q]) (Int.le_of_eq (rNote_L (by decide) (by decide)).symm) (rNote_L (by decide) (by decide)) (rNote_L (by decide) (by decide)))
    · exact c165 l6.sh l6.br l6.hr bU bS ⟨by omega, by omega⟩ (act0 l6 hI h (by unfold sa165 aP aQ; rw [if_pos U0, if_pos S0, if_pos pb, if_neg q]))
  · refine fun w7 l7 _ => ⟨fun _ => h w7 _ _ _ l7 hI.up, fun q w8 l8 _ => ⟨⟨q, by omega⟩, ?_⟩⟩
    exact c168 l8.sh l8.br l8.hr (tm Z0.1 q (by omega)) (act1 l8 hI h (by unfold sa168 aP; rw [if_pos (tmz Z0.1 q)]) (Int.le_of_eq (rDrop_L (by decide) (by decide)).symm) (rDrop_L (by decide) (by decide)) (rDrop_L (by decide) (by decide)))
  · refine ⟨tm Z0.1 (by decide) (by decide), ⟨Q0.1, by omega⟩, td (by decide), ?_⟩
    have pb : 0 ≤ (if Z.tmod 4 = 3 then 12 else 2 * Z.tmod 4) ∧ (if Z.tmod 4 = 3 then 12 else 2 * Z.tmod 4) ≤ 23 := by split <;> omega
    generalize (if Z.tmod 4 = 3 then 12 else 2 * Z.tmod 4) = P at pb ⊢
    have rb : 1 ≤ 1 + (Z.tdiv 4).tmod 4 ∧ 1 + (Z.tdiv 4).tmod 4 ≤ 12 := ⟨by omega, by omega⟩
    by_cases q : m 4 < 12
    · exact c170 l6.sh l6.br l6.hr ⟨by omega, by omega⟩ ⟨by omega, by omega⟩ (act1 l6 hI h (by unfold sa170 aP aQ; rw [if_pos pb, if_pos rb, if_pos q]) (show m 4 ≤ m 4 + 1 by omega) (rTooth_L (by decide) (by decide)) (rTooth_L (by decide) (by decide)))
    · exact c170 l6.sh l6.br l6.hr ⟨by omega, by omega⟩ ⟨by omega, by omega⟩ (act0 l6 hI h (by unfold sa170 aP aQ; rw [if_pos pb, if_pos rb, if_neg q]))
  · have rb : 1 ≤ 1 + Z.tmod 5 ∧ 1 + Z.tmod 5 ≤ 12 := ⟨by omega, by omega⟩
    exact c172 l6.sh l6.br l6.hr bT ⟨by omega, by omega⟩ (act1 l6 hI h (by unfold sa172 aP; rw [if_pos T0, if_pos rb]) (Int.le_of_eq (rOne_ne (by omega)).symm) (rOne_ne (by omega)) (rOne_ne (by omega)))
  · refine ⟨tm Z0.1 (by decide) (by decide), ⟨Q0.1, by omega⟩, ?_⟩
    have pb : 0 ≤ (if Z.tmod 4 = 3 then 12 else 2 * Z.tmod 4) ∧ (if Z.tmod 4 = 3 then 12 else 2 * Z.tmod 4) ≤ 23 := by split <;> omega
    generalize (if Z.tmod 4 = 3 then 12 else 2 * Z.tmod 4) = P at pb ⊢
    exact c174 l6.sh l6.br l6.hr bT ⟨by omega, by omega⟩ (act1 l6 hI h (by unfold sa174 aP; rw [if_pos T0, if_pos pb]) (Int.le_of_eq (rOne_ne (by omega)).symm) (rOne_ne (by omega)) (rOne_ne (by omega)))
  · refine ⟨U0, fun w7 l7 _ => ?_⟩
    exact lay_inv l6 hI h U0 w7 l7
  · refine ⟨U0, fun w7 l7 _ => ?_⟩
    exact lay_inv l6 hI h U0 w7 l7
  · refine ⟨U0, S0, fun w7 l7 _ => ?_⟩
    have e : ∀ j, j < 71 → sTurnR m U S j = m j := fun j hj => by
      unfold sTurnR
      rw [rSetN_lo hj]
      exact rSetP_lo (by omega)
    exact h w7 _ _ _ l7 (INV.up (hI.push ⟨by rw [e 4 (by decide)]; exact g1, by rw [e 9 (by decide), e 8 (by decide)]; exact g2, by rw [e 8 (by decide)]; exact g3⟩))
  · have e : ∀ j, j < 71 → sRevR m U j = m j := fun j hj => by
      unfold sRevR
      rw [rSetN_lo hj]
      exact rSetP_lo (by omega)
    exact c193 l6.sh l6.br l6.hr bU (act1 l6 hI h (by unfold sa193 aU aP; rw [if_pos U0]) (Int.le_of_eq (e 4 (by decide)).symm) (e 8 (by decide)) (e 9 (by decide)))
  · have yb : -23 ≤ Z.tmod 5 - 2 ∧ Z.tmod 5 - 2 ≤ 23 := ⟨by omega, by omega⟩
    generalize Z.tmod 5 - 2 = y at yb ⊢
    have by_ : bd y := ⟨by omega, by omega⟩
    exact tr_inv l6 hI h U0 yb bU by_
  · have v1 : 0 ≤ (Z.tdiv 2).tmod 4 ∧ (Z.tdiv 2).tmod 4 ≤ 3 := ⟨V0.1, by omega⟩
    have v2 : 1 ≤ 1 + (Z.tdiv 2).tmod 4 ∧ 1 + (Z.tdiv 2).tmod 4 ≤ 4 := ⟨by omega, by omega⟩
    refine ⟨tm Z0.1 (by decide) (by decide), fun _ => ⟨td (by decide), ?_⟩, fun _ => ⟨td (by decide), ?_⟩⟩
    · exact c197 l6.sh l6.br l6.hr ⟨by omega, by omega⟩ (act1 l6 hI h (by unfold sa197 aP; rw [if_pos v1]) (Int.le_of_eq (rOne_ne (by omega)).symm) (rOne_ne (by omega)) (rOne_ne (by omega)))
    · exact c195 l6.sh l6.br l6.hr ⟨by omega, by omega⟩ (act1 l6 hI h (by unfold sa195 aP; rw [if_pos v2]) (Int.le_of_eq (rOne_ne (by omega)).symm) (rOne_ne (by omega)) (rOne_ne (by omega)))
  · exact c199 l6.sh l6.br l6.hr bU (act1 l6 hI h (by unfold sa199 aU aP; rw [if_pos U0]) (Int.le_of_eq (rOne_ne (by omega)).symm) (rOne_ne (by omega)) (rOne_ne (by omega)))
  · refine ⟨⟨by omega, by omega⟩, g2, ⟨by omega, by omega⟩, by omega, fun w7 l7 _ => ?_⟩
    obtain ⟨t, ht⟩ := nat_of (show 0 ≤ 1 + Z.tmod 30 by omega)
    rw [ht, Int.toNat_natCast] at l7
    obtain ⟨r1, r2, r3⟩ := rRun_ok hR g2 t (by omega)
    have hk := (rRun_is hR g2 (n := t) (by omega)).1 4 (by decide)
    exact h w7 _ _ _ l7 (INV.push (INV.up hI) ⟨by rw [hk]; exact g1, r2, by omega⟩)
theorem q218 {w : PW} {x2 : Int} (hsn : Nat.blt sn 2147483648 = true) (hl : LW w m H n k0 sn sf) (hI : INV c m H n) (hc : c ≤ 80000) (h2 : 0 ≤ x2 ∧ x2 < 1000) (h : stQ c k0 sn sf Q) : pC 218 [.ref 0, .ref pSC, iv x2] w Q := by
  have hR := hl.ok
  have h0 := hR.s
  have h1 := hR.u
  have h4 := hR.t
  obtain ⟨g1, g2, g3⟩ := hI.1
  have hx2 : bd x2 := ⟨by omega, by omega⟩
  have c1 := cv_lt sn sf x2.toNat
  have c2 := cv_lt sn sf (x2 + 1).toNat
  have c3 := cv_lt sn sf (x2 + 2).toNat
  refine e218 hl hsn hx2 ?_
  obtain ⟨X, hX⟩ : ∃ X, X = ((cv sn sf x2.toNat : Nat) : Int) := ⟨_, rfl⟩
  obtain ⟨Y, hY⟩ : ∃ X, X = ((cv sn sf (x2 + 1).toNat : Nat) : Int) := ⟨_, rfl⟩
  obtain ⟨Z, hZ⟩ : ∃ X, X = ((cv sn sf (x2 + 2).toNat : Nat) : Int) := ⟨_, rfl⟩
  have X0 : 0 ≤ X ∧ X < 100000 := ⟨by omega, by omega⟩
  have Y0 : 0 ≤ Y ∧ Y < 100000 := ⟨by omega, by omega⟩
  have Z0 : 0 ≤ Z ∧ Z < 100000 := ⟨by omega, by omega⟩
  rw [← hX, ← hY, ← hZ]
  have X17 := tmz X0.1 (k := 17) (by decide)
  have D16 := tdz Z0 (k := 16) (by decide)
  exact ⟨⟨by omega, by omega⟩, by omega, fun w1 l1 _ w2 l2 _ => ⟨⟨by omega, by omega⟩, ⟨by omega, by omega⟩, by omega, fun w3 l3 _ w4 l4 _ => ⟨⟨by omega, by omega⟩, fun w5 l5 _ => ⟨⟨by omega, by omega⟩, ⟨by omega, by omega⟩, h2.1, fun w6 l6 _ => l218_54 hsn l6 hI hc hx2 Z0 (tmz Y0.1 (by omega)) (tmz Z0.1 (by omega)) (tmz D16.1 (by omega)) ⟨by omega, by omega⟩ h⟩⟩⟩⟩
end LST
