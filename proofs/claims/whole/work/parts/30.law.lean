def QL (Γ : GX) : Int32 → MM → State → Prop := fun _ _ => lw_Z Γ.below Γ.args Γ.s
section ZL
variable {R : Type} {Qf : R → MM → State → Prop} {Γ : GX} {E : EX} {cc : ByteArray} {own : String} {nL ce sl pc : Nat} {L L2 : List (Nat × Value)} {st : List Value} {m : MM} {X : Option (R × MM)}
theorem z_scr (C : Cx Γ E cc own nL) {b Ln : Nat} {xs : Nat → Int32} (hX : va_X b Ln xs Γ.s Γ.s.heap) (hbl : b < Γ.s.heap.size) (hbA : ¬ AA E b) {j : Int32} (hj : inb j Ln = true) (d : decode cc pc = .ok (.iaload, 1)) (k : Sm Qf Γ E nL ce sl (pc + 1) L (.int (xs j.toNatClampNeg) :: st) m X) : Sm Qf Γ E nL ce sl pc L (.int j :: va_rf (some b) :: st) m X := fun r m2 h H locs ls h1 h2 h3 =>
  va_sld C.1 C.2.1 hX hbl hbA h2 (inb_in hj) d (k r m2 h H locs ls h1 h2 h3)
theorem z_scl (C : Cx Γ E cc own nL) {b Ln : Nat} {xs : Nat → Int32} (hX : va_X b Ln xs Γ.s Γ.s.heap) (hbl : b < Γ.s.heap.size) (hbA : ¬ AA E b) (d : decode cc pc = .ok (.arraylength, 1)) (k : Sm Qf Γ E nL ce sl (pc + 1) L (.int (Int32.ofNat Ln) :: st) m X) : Sm Qf Γ E nL ce sl pc L (va_rf (some b) :: st) m X := fun r m2 h H locs ls h1 h2 h3 =>
  va_slen C.1 C.2.1 hX hbl hbA h2 d (k r m2 h H locs ls h1 h2 h3)
theorem z_law (C : Cx Γ E cL_law own nL) {b : Nat} (hr : Γ.meth.sig.returnType = ret) (hrm : Γ.rm = room_1) (hA : Γ.args = #[Value.ref b]) (hB : E.base = Γ.s.heap.size) (h1 : ce ≤ room_1.cells) (h2 : sl ≤ room_1.slots) (d : decode cL_law pc = .ok (.ireturn, 1)) : Sm (QL Γ) Γ E nL ce sl pc L [.int 1] m (some (1, m)) := fun r m2 h H locs ls g1 g2 g3 => by
  have hloc : ∀ q ∈ locs, Γ.s.heap.size ≤ q.base := fun q hq => by have := g2.2.2 q hq; rw [← hB]; exact this
  unfold QL
  rw [hrm, hA]
  refine va_forget hloc ?_
  refine W.widen h1 h2 ?_
  exact lw_ret C.1 C.2.1 hr C.2.2.2.2.2.2.1 d
end ZL
theorem dL_law_0 : decode cL_law 0 = .ok (.new 7, 3) := by decide +kernel
theorem dL_law_3 : decode cL_law 3 = .ok (.dup, 1) := by decide +kernel
theorem dL_law_4 : decode cL_law 4 = .ok (.invokespecial 9, 3) := by decide +kernel
theorem dL_law_7 : decode cL_law 7 = .ok (.astore_n 1, 1) := by decide +kernel
theorem dL_law_8 : decode cL_law 8 = .ok (.new 10, 3) := by decide +kernel
theorem dL_law_11 : decode cL_law 11 = .ok (.dup, 1) := by decide +kernel
theorem dL_law_12 : decode cL_law 12 = .ok (.invokespecial 12, 3) := by decide +kernel
theorem dL_law_15 : decode cL_law 15 = .ok (.astore_n 2, 1) := by decide +kernel
theorem dL_law_16 : decode cL_law 16 = .ok (.iconst 0, 1) := by decide +kernel
theorem dL_law_17 : decode cL_law 17 = .ok (.istore_n 3, 1) := by decide +kernel
theorem dL_law_18 : decode cL_law 18 = .ok (.iload_n 3, 1) := by decide +kernel
theorem dL_law_19 : decode cL_law 19 = .ok (.aload_n 0, 1) := by decide +kernel
theorem dL_law_20 : decode cL_law 20 = .ok (.arraylength, 1) := by decide +kernel
theorem dL_law_21 : decode cL_law 21 = .ok (.bipush 8, 2) := by decide +kernel
theorem dL_law_23 : decode cL_law 23 = .ok (.isub, 1) := by decide +kernel
theorem dL_law_24 : decode cL_law 24 = .ok (.if_icmp .gt 2021, 3) := by decide +kernel
theorem dL_law_27 : decode cL_law 27 = .ok (.aload_n 0, 1) := by decide +kernel
theorem dL_law_28 : decode cL_law 28 = .ok (.iload_n 3, 1) := by decide +kernel
theorem dL_law_29 : decode cL_law 29 = .ok (.iaload, 1) := by decide +kernel
theorem dL_law_30 : decode cL_law 30 = .ok (.bipush 63, 2) := by decide +kernel
theorem dL_law_32 : decode cL_law 32 = .ok (.iand, 1) := by decide +kernel
theorem dL_law_33 : decode cL_law 33 = .ok (.tableswitch 2006 0 38 #[171, 234, 257, 280, 303, 326, 359, 402, 435, 522, 565, 608, 661, 704, 747, 810, 853, 906, 959, 1046, 1109, 1184, 1227, 1250, 1329, 1372, 1441, 1484, 1527, 1580, 1623, 1676, 1719, 1762, 1815, 1874, 1937, 1960, 1983], 171) := by decide +kernel
theorem dL_law_204 : decode cL_law 204 = .ok (.aload_n 1, 1) := by decide +kernel
theorem dL_law_205 : decode cL_law 205 = .ok (.aload_n 0, 1) := by decide +kernel
theorem dL_law_206 : decode cL_law 206 = .ok (.iload_n 3, 1) := by decide +kernel
theorem dL_law_207 : decode cL_law 207 = .ok (.iconst 1, 1) := by decide +kernel
theorem dL_law_208 : decode cL_law 208 = .ok (.iadd, 1) := by decide +kernel
theorem dL_law_209 : decode cL_law 209 = .ok (.iaload, 1) := by decide +kernel
theorem dL_law_210 : decode cL_law 210 = .ok (.aload_n 0, 1) := by decide +kernel
theorem dL_law_211 : decode cL_law 211 = .ok (.iload_n 3, 1) := by decide +kernel
theorem dL_law_212 : decode cL_law 212 = .ok (.iconst 2, 1) := by decide +kernel
theorem dL_law_213 : decode cL_law 213 = .ok (.iadd, 1) := by decide +kernel
theorem dL_law_214 : decode cL_law 214 = .ok (.iaload, 1) := by decide +kernel
theorem dL_law_215 : decode cL_law 215 = .ok (.aload_n 0, 1) := by decide +kernel
theorem dL_law_216 : decode cL_law 216 = .ok (.iload_n 3, 1) := by decide +kernel
theorem dL_law_217 : decode cL_law 217 = .ok (.iconst 3, 1) := by decide +kernel
theorem dL_law_218 : decode cL_law 218 = .ok (.iadd, 1) := by decide +kernel
theorem dL_law_219 : decode cL_law 219 = .ok (.iaload, 1) := by decide +kernel
theorem dL_law_220 : decode cL_law 220 = .ok (.aload_n 0, 1) := by decide +kernel
theorem dL_law_221 : decode cL_law 221 = .ok (.iload_n 3, 1) := by decide +kernel
theorem dL_law_222 : decode cL_law 222 = .ok (.iconst 4, 1) := by decide +kernel
theorem dL_law_223 : decode cL_law 223 = .ok (.iadd, 1) := by decide +kernel
theorem dL_law_224 : decode cL_law 224 = .ok (.iaload, 1) := by decide +kernel
theorem dL_law_225 : decode cL_law 225 = .ok (.aload_n 0, 1) := by decide +kernel
theorem dL_law_226 : decode cL_law 226 = .ok (.iload_n 3, 1) := by decide +kernel
theorem dL_law_227 : decode cL_law 227 = .ok (.iconst 5, 1) := by decide +kernel
theorem dL_law_228 : decode cL_law 228 = .ok (.iadd, 1) := by decide +kernel
theorem dL_law_229 : decode cL_law 229 = .ok (.iaload, 1) := by decide +kernel
theorem dL_law_230 : decode cL_law 230 = .ok (.invokevirtual 13, 3) := by decide +kernel
theorem dL_law_233 : decode cL_law 233 = .ok (.aload_n 2, 1) := by decide +kernel
theorem dL_law_234 : decode cL_law 234 = .ok (.aload_n 0, 1) := by decide +kernel
theorem dL_law_235 : decode cL_law 235 = .ok (.iload_n 3, 1) := by decide +kernel
theorem dL_law_236 : decode cL_law 236 = .ok (.iconst 1, 1) := by decide +kernel
theorem dL_law_237 : decode cL_law 237 = .ok (.iadd, 1) := by decide +kernel
theorem dL_law_238 : decode cL_law 238 = .ok (.iaload, 1) := by decide +kernel
theorem dL_law_239 : decode cL_law 239 = .ok (.aload_n 0, 1) := by decide +kernel
theorem dL_law_240 : decode cL_law 240 = .ok (.iload_n 3, 1) := by decide +kernel
theorem dL_law_241 : decode cL_law 241 = .ok (.iconst 2, 1) := by decide +kernel
theorem dL_law_242 : decode cL_law 242 = .ok (.iadd, 1) := by decide +kernel
theorem dL_law_243 : decode cL_law 243 = .ok (.iaload, 1) := by decide +kernel
theorem dL_law_244 : decode cL_law 244 = .ok (.aload_n 0, 1) := by decide +kernel
theorem dL_law_245 : decode cL_law 245 = .ok (.iload_n 3, 1) := by decide +kernel
theorem dL_law_246 : decode cL_law 246 = .ok (.iconst 3, 1) := by decide +kernel
theorem dL_law_247 : decode cL_law 247 = .ok (.iadd, 1) := by decide +kernel
theorem dL_law_248 : decode cL_law 248 = .ok (.iaload, 1) := by decide +kernel
theorem dL_law_249 : decode cL_law 249 = .ok (.aload_n 0, 1) := by decide +kernel
theorem dL_law_250 : decode cL_law 250 = .ok (.iload_n 3, 1) := by decide +kernel
theorem dL_law_251 : decode cL_law 251 = .ok (.iconst 4, 1) := by decide +kernel
theorem dL_law_252 : decode cL_law 252 = .ok (.iadd, 1) := by decide +kernel
theorem dL_law_253 : decode cL_law 253 = .ok (.iaload, 1) := by decide +kernel
theorem dL_law_254 : decode cL_law 254 = .ok (.aload_n 0, 1) := by decide +kernel
theorem dL_law_255 : decode cL_law 255 = .ok (.iload_n 3, 1) := by decide +kernel
theorem dL_law_256 : decode cL_law 256 = .ok (.iconst 5, 1) := by decide +kernel
theorem dL_law_257 : decode cL_law 257 = .ok (.iadd, 1) := by decide +kernel
theorem dL_law_258 : decode cL_law 258 = .ok (.iaload, 1) := by decide +kernel
theorem dL_law_259 : decode cL_law 259 = .ok (.invokevirtual 17, 3) := by decide +kernel
theorem dL_law_262 : decode cL_law 262 = .ok (.if_icmp .eq 1777, 3) := by decide +kernel
theorem dL_law_265 : decode cL_law 265 = .ok (.iconst 0, 1) := by decide +kernel
theorem dL_law_266 : decode cL_law 266 = .ok (.ireturn, 1) := by decide +kernel
theorem dL_law_267 : decode cL_law 267 = .ok (.aload_n 1, 1) := by decide +kernel
theorem dL_law_268 : decode cL_law 268 = .ok (.aload_n 0, 1) := by decide +kernel
theorem dL_law_269 : decode cL_law 269 = .ok (.iload_n 3, 1) := by decide +kernel
theorem dL_law_270 : decode cL_law 270 = .ok (.iconst 1, 1) := by decide +kernel
theorem dL_law_271 : decode cL_law 271 = .ok (.iadd, 1) := by decide +kernel
theorem dL_law_272 : decode cL_law 272 = .ok (.iaload, 1) := by decide +kernel
theorem dL_law_273 : decode cL_law 273 = .ok (.invokevirtual 18, 3) := by decide +kernel
theorem dL_law_276 : decode cL_law 276 = .ok (.aload_n 2, 1) := by decide +kernel
theorem dL_law_277 : decode cL_law 277 = .ok (.aload_n 0, 1) := by decide +kernel
theorem dL_law_278 : decode cL_law 278 = .ok (.iload_n 3, 1) := by decide +kernel
theorem dL_law_279 : decode cL_law 279 = .ok (.iconst 1, 1) := by decide +kernel
theorem dL_law_280 : decode cL_law 280 = .ok (.iadd, 1) := by decide +kernel
theorem dL_law_281 : decode cL_law 281 = .ok (.iaload, 1) := by decide +kernel
theorem dL_law_282 : decode cL_law 282 = .ok (.invokevirtual 22, 3) := by decide +kernel
theorem dL_law_285 : decode cL_law 285 = .ok (.if_icmp .eq 1754, 3) := by decide +kernel
theorem dL_law_288 : decode cL_law 288 = .ok (.iconst 0, 1) := by decide +kernel
theorem dL_law_289 : decode cL_law 289 = .ok (.ireturn, 1) := by decide +kernel
theorem dL_law_290 : decode cL_law 290 = .ok (.aload_n 1, 1) := by decide +kernel
theorem dL_law_291 : decode cL_law 291 = .ok (.aload_n 0, 1) := by decide +kernel
theorem dL_law_292 : decode cL_law 292 = .ok (.iload_n 3, 1) := by decide +kernel
theorem dL_law_293 : decode cL_law 293 = .ok (.iconst 1, 1) := by decide +kernel
theorem dL_law_294 : decode cL_law 294 = .ok (.iadd, 1) := by decide +kernel
theorem dL_law_295 : decode cL_law 295 = .ok (.iaload, 1) := by decide +kernel
theorem dL_law_296 : decode cL_law 296 = .ok (.invokevirtual 23, 3) := by decide +kernel
theorem dL_law_299 : decode cL_law 299 = .ok (.aload_n 2, 1) := by decide +kernel
theorem dL_law_300 : decode cL_law 300 = .ok (.aload_n 0, 1) := by decide +kernel
theorem dL_law_301 : decode cL_law 301 = .ok (.iload_n 3, 1) := by decide +kernel
theorem dL_law_302 : decode cL_law 302 = .ok (.iconst 1, 1) := by decide +kernel
theorem dL_law_303 : decode cL_law 303 = .ok (.iadd, 1) := by decide +kernel
theorem dL_law_304 : decode cL_law 304 = .ok (.iaload, 1) := by decide +kernel
theorem dL_law_305 : decode cL_law 305 = .ok (.invokevirtual 26, 3) := by decide +kernel
theorem dL_law_308 : decode cL_law 308 = .ok (.if_icmp .eq 1731, 3) := by decide +kernel
theorem dL_law_311 : decode cL_law 311 = .ok (.iconst 0, 1) := by decide +kernel
theorem dL_law_312 : decode cL_law 312 = .ok (.ireturn, 1) := by decide +kernel
theorem dL_law_313 : decode cL_law 313 = .ok (.aload_n 1, 1) := by decide +kernel
theorem dL_law_314 : decode cL_law 314 = .ok (.aload_n 0, 1) := by decide +kernel
theorem dL_law_315 : decode cL_law 315 = .ok (.iload_n 3, 1) := by decide +kernel
theorem dL_law_316 : decode cL_law 316 = .ok (.iconst 1, 1) := by decide +kernel
theorem dL_law_317 : decode cL_law 317 = .ok (.iadd, 1) := by decide +kernel
theorem dL_law_318 : decode cL_law 318 = .ok (.iaload, 1) := by decide +kernel
theorem dL_law_319 : decode cL_law 319 = .ok (.invokevirtual 27, 3) := by decide +kernel
theorem dL_law_322 : decode cL_law 322 = .ok (.aload_n 2, 1) := by decide +kernel
theorem dL_law_323 : decode cL_law 323 = .ok (.aload_n 0, 1) := by decide +kernel
theorem dL_law_324 : decode cL_law 324 = .ok (.iload_n 3, 1) := by decide +kernel
theorem dL_law_325 : decode cL_law 325 = .ok (.iconst 1, 1) := by decide +kernel
theorem dL_law_326 : decode cL_law 326 = .ok (.iadd, 1) := by decide +kernel
theorem dL_law_327 : decode cL_law 327 = .ok (.iaload, 1) := by decide +kernel
theorem dL_law_328 : decode cL_law 328 = .ok (.invokevirtual 30, 3) := by decide +kernel
theorem dL_law_331 : decode cL_law 331 = .ok (.if_icmp .eq 1708, 3) := by decide +kernel
theorem dL_law_334 : decode cL_law 334 = .ok (.iconst 0, 1) := by decide +kernel
theorem dL_law_335 : decode cL_law 335 = .ok (.ireturn, 1) := by decide +kernel
theorem dL_law_336 : decode cL_law 336 = .ok (.aload_n 1, 1) := by decide +kernel
theorem dL_law_337 : decode cL_law 337 = .ok (.aload_n 0, 1) := by decide +kernel
theorem dL_law_338 : decode cL_law 338 = .ok (.iload_n 3, 1) := by decide +kernel
theorem dL_law_339 : decode cL_law 339 = .ok (.iconst 1, 1) := by decide +kernel
theorem dL_law_340 : decode cL_law 340 = .ok (.iadd, 1) := by decide +kernel
theorem dL_law_341 : decode cL_law 341 = .ok (.iaload, 1) := by decide +kernel
theorem dL_law_342 : decode cL_law 342 = .ok (.invokevirtual 31, 3) := by decide +kernel
theorem dL_law_345 : decode cL_law 345 = .ok (.aload_n 2, 1) := by decide +kernel
theorem dL_law_346 : decode cL_law 346 = .ok (.aload_n 0, 1) := by decide +kernel
theorem dL_law_347 : decode cL_law 347 = .ok (.iload_n 3, 1) := by decide +kernel
theorem dL_law_348 : decode cL_law 348 = .ok (.iconst 1, 1) := by decide +kernel
theorem dL_law_349 : decode cL_law 349 = .ok (.iadd, 1) := by decide +kernel
theorem dL_law_350 : decode cL_law 350 = .ok (.iaload, 1) := by decide +kernel
theorem dL_law_351 : decode cL_law 351 = .ok (.invokevirtual 34, 3) := by decide +kernel
theorem dL_law_354 : decode cL_law 354 = .ok (.if_icmp .eq 1685, 3) := by decide +kernel
theorem dL_law_357 : decode cL_law 357 = .ok (.iconst 0, 1) := by decide +kernel
theorem dL_law_358 : decode cL_law 358 = .ok (.ireturn, 1) := by decide +kernel
theorem dL_law_359 : decode cL_law 359 = .ok (.aload_n 1, 1) := by decide +kernel
theorem dL_law_360 : decode cL_law 360 = .ok (.aload_n 0, 1) := by decide +kernel
theorem dL_law_361 : decode cL_law 361 = .ok (.iload_n 3, 1) := by decide +kernel
theorem dL_law_362 : decode cL_law 362 = .ok (.iconst 1, 1) := by decide +kernel
theorem dL_law_363 : decode cL_law 363 = .ok (.iadd, 1) := by decide +kernel
theorem dL_law_364 : decode cL_law 364 = .ok (.iaload, 1) := by decide +kernel
theorem dL_law_365 : decode cL_law 365 = .ok (.aload_n 0, 1) := by decide +kernel
theorem dL_law_366 : decode cL_law 366 = .ok (.iload_n 3, 1) := by decide +kernel
theorem dL_law_367 : decode cL_law 367 = .ok (.iconst 2, 1) := by decide +kernel
theorem dL_law_368 : decode cL_law 368 = .ok (.iadd, 1) := by decide +kernel
theorem dL_law_369 : decode cL_law 369 = .ok (.iaload, 1) := by decide +kernel
theorem dL_law_370 : decode cL_law 370 = .ok (.invokevirtual 35, 3) := by decide +kernel
theorem dL_law_373 : decode cL_law 373 = .ok (.aload_n 2, 1) := by decide +kernel
theorem dL_law_374 : decode cL_law 374 = .ok (.aload_n 0, 1) := by decide +kernel
theorem dL_law_375 : decode cL_law 375 = .ok (.iload_n 3, 1) := by decide +kernel
theorem dL_law_376 : decode cL_law 376 = .ok (.iconst 1, 1) := by decide +kernel
theorem dL_law_377 : decode cL_law 377 = .ok (.iadd, 1) := by decide +kernel
theorem dL_law_378 : decode cL_law 378 = .ok (.iaload, 1) := by decide +kernel
theorem dL_law_379 : decode cL_law 379 = .ok (.aload_n 0, 1) := by decide +kernel
theorem dL_law_380 : decode cL_law 380 = .ok (.iload_n 3, 1) := by decide +kernel
theorem dL_law_381 : decode cL_law 381 = .ok (.iconst 2, 1) := by decide +kernel
theorem dL_law_382 : decode cL_law 382 = .ok (.iadd, 1) := by decide +kernel
theorem dL_law_383 : decode cL_law 383 = .ok (.iaload, 1) := by decide +kernel
theorem dL_law_384 : decode cL_law 384 = .ok (.invokevirtual 39, 3) := by decide +kernel
theorem dL_law_387 : decode cL_law 387 = .ok (.if_icmp .eq 1652, 3) := by decide +kernel
theorem dL_law_390 : decode cL_law 390 = .ok (.iconst 0, 1) := by decide +kernel
theorem dL_law_391 : decode cL_law 391 = .ok (.ireturn, 1) := by decide +kernel
theorem dL_law_392 : decode cL_law 392 = .ok (.aload_n 1, 1) := by decide +kernel
theorem dL_law_393 : decode cL_law 393 = .ok (.aload_n 0, 1) := by decide +kernel
theorem dL_law_394 : decode cL_law 394 = .ok (.iload_n 3, 1) := by decide +kernel
theorem dL_law_395 : decode cL_law 395 = .ok (.iconst 1, 1) := by decide +kernel
theorem dL_law_396 : decode cL_law 396 = .ok (.iadd, 1) := by decide +kernel
theorem dL_law_397 : decode cL_law 397 = .ok (.iaload, 1) := by decide +kernel
theorem dL_law_398 : decode cL_law 398 = .ok (.aload_n 0, 1) := by decide +kernel
theorem dL_law_399 : decode cL_law 399 = .ok (.iload_n 3, 1) := by decide +kernel
theorem dL_law_400 : decode cL_law 400 = .ok (.iconst 2, 1) := by decide +kernel
theorem dL_law_401 : decode cL_law 401 = .ok (.iadd, 1) := by decide +kernel
theorem dL_law_402 : decode cL_law 402 = .ok (.iaload, 1) := by decide +kernel
theorem dL_law_403 : decode cL_law 403 = .ok (.aload_n 0, 1) := by decide +kernel
theorem dL_law_404 : decode cL_law 404 = .ok (.iload_n 3, 1) := by decide +kernel
theorem dL_law_405 : decode cL_law 405 = .ok (.iconst 3, 1) := by decide +kernel
theorem dL_law_406 : decode cL_law 406 = .ok (.iadd, 1) := by decide +kernel
theorem dL_law_407 : decode cL_law 407 = .ok (.iaload, 1) := by decide +kernel
theorem dL_law_408 : decode cL_law 408 = .ok (.invokevirtual 40, 3) := by decide +kernel
theorem dL_law_411 : decode cL_law 411 = .ok (.aload_n 2, 1) := by decide +kernel
theorem dL_law_412 : decode cL_law 412 = .ok (.aload_n 0, 1) := by decide +kernel
theorem dL_law_413 : decode cL_law 413 = .ok (.iload_n 3, 1) := by decide +kernel
theorem dL_law_414 : decode cL_law 414 = .ok (.iconst 1, 1) := by decide +kernel
theorem dL_law_415 : decode cL_law 415 = .ok (.iadd, 1) := by decide +kernel
theorem dL_law_416 : decode cL_law 416 = .ok (.iaload, 1) := by decide +kernel
theorem dL_law_417 : decode cL_law 417 = .ok (.aload_n 0, 1) := by decide +kernel
theorem dL_law_418 : decode cL_law 418 = .ok (.iload_n 3, 1) := by decide +kernel
theorem dL_law_419 : decode cL_law 419 = .ok (.iconst 2, 1) := by decide +kernel
theorem dL_law_420 : decode cL_law 420 = .ok (.iadd, 1) := by decide +kernel
theorem dL_law_421 : decode cL_law 421 = .ok (.iaload, 1) := by decide +kernel
theorem dL_law_422 : decode cL_law 422 = .ok (.aload_n 0, 1) := by decide +kernel
theorem dL_law_423 : decode cL_law 423 = .ok (.iload_n 3, 1) := by decide +kernel
theorem dL_law_424 : decode cL_law 424 = .ok (.iconst 3, 1) := by decide +kernel
theorem dL_law_425 : decode cL_law 425 = .ok (.iadd, 1) := by decide +kernel
theorem dL_law_426 : decode cL_law 426 = .ok (.iaload, 1) := by decide +kernel
theorem dL_law_427 : decode cL_law 427 = .ok (.invokevirtual 44, 3) := by decide +kernel
theorem dL_law_430 : decode cL_law 430 = .ok (.if_icmp .eq 1609, 3) := by decide +kernel
theorem dL_law_433 : decode cL_law 433 = .ok (.iconst 0, 1) := by decide +kernel
theorem dL_law_434 : decode cL_law 434 = .ok (.ireturn, 1) := by decide +kernel
theorem dL_law_435 : decode cL_law 435 = .ok (.aload_n 1, 1) := by decide +kernel
theorem dL_law_436 : decode cL_law 436 = .ok (.aload_n 0, 1) := by decide +kernel
theorem dL_law_437 : decode cL_law 437 = .ok (.iload_n 3, 1) := by decide +kernel
theorem dL_law_438 : decode cL_law 438 = .ok (.iconst 1, 1) := by decide +kernel
theorem dL_law_439 : decode cL_law 439 = .ok (.iadd, 1) := by decide +kernel
theorem dL_law_440 : decode cL_law 440 = .ok (.iaload, 1) := by decide +kernel
theorem dL_law_441 : decode cL_law 441 = .ok (.aload_n 0, 1) := by decide +kernel
theorem dL_law_442 : decode cL_law 442 = .ok (.iload_n 3, 1) := by decide +kernel
theorem dL_law_443 : decode cL_law 443 = .ok (.iconst 2, 1) := by decide +kernel
theorem dL_law_444 : decode cL_law 444 = .ok (.iadd, 1) := by decide +kernel
theorem dL_law_445 : decode cL_law 445 = .ok (.iaload, 1) := by decide +kernel
theorem dL_law_446 : decode cL_law 446 = .ok (.invokevirtual 45, 3) := by decide +kernel
theorem dL_law_449 : decode cL_law 449 = .ok (.aload_n 2, 1) := by decide +kernel
theorem dL_law_450 : decode cL_law 450 = .ok (.aload_n 0, 1) := by decide +kernel
theorem dL_law_451 : decode cL_law 451 = .ok (.iload_n 3, 1) := by decide +kernel
theorem dL_law_452 : decode cL_law 452 = .ok (.iconst 1, 1) := by decide +kernel
theorem dL_law_453 : decode cL_law 453 = .ok (.iadd, 1) := by decide +kernel
theorem dL_law_454 : decode cL_law 454 = .ok (.iaload, 1) := by decide +kernel
theorem dL_law_455 : decode cL_law 455 = .ok (.aload_n 0, 1) := by decide +kernel
theorem dL_law_456 : decode cL_law 456 = .ok (.iload_n 3, 1) := by decide +kernel
theorem dL_law_457 : decode cL_law 457 = .ok (.iconst 2, 1) := by decide +kernel
theorem dL_law_458 : decode cL_law 458 = .ok (.iadd, 1) := by decide +kernel
theorem dL_law_459 : decode cL_law 459 = .ok (.iaload, 1) := by decide +kernel
theorem dL_law_460 : decode cL_law 460 = .ok (.invokevirtual 48, 3) := by decide +kernel
theorem dL_law_463 : decode cL_law 463 = .ok (.if_icmp .eq 1576, 3) := by decide +kernel
theorem dL_law_466 : decode cL_law 466 = .ok (.iconst 0, 1) := by decide +kernel
theorem dL_law_467 : decode cL_law 467 = .ok (.ireturn, 1) := by decide +kernel
theorem dL_law_468 : decode cL_law 468 = .ok (.aload_n 1, 1) := by decide +kernel
theorem dL_law_469 : decode cL_law 469 = .ok (.aload_n 0, 1) := by decide +kernel
theorem dL_law_470 : decode cL_law 470 = .ok (.iload_n 3, 1) := by decide +kernel
theorem dL_law_471 : decode cL_law 471 = .ok (.iconst 1, 1) := by decide +kernel
theorem dL_law_472 : decode cL_law 472 = .ok (.iadd, 1) := by decide +kernel
theorem dL_law_473 : decode cL_law 473 = .ok (.iaload, 1) := by decide +kernel
theorem dL_law_474 : decode cL_law 474 = .ok (.aload_n 0, 1) := by decide +kernel
theorem dL_law_475 : decode cL_law 475 = .ok (.iload_n 3, 1) := by decide +kernel
theorem dL_law_476 : decode cL_law 476 = .ok (.iconst 2, 1) := by decide +kernel
theorem dL_law_477 : decode cL_law 477 = .ok (.iadd, 1) := by decide +kernel
theorem dL_law_478 : decode cL_law 478 = .ok (.iaload, 1) := by decide +kernel
theorem dL_law_479 : decode cL_law 479 = .ok (.aload_n 0, 1) := by decide +kernel
theorem dL_law_480 : decode cL_law 480 = .ok (.iload_n 3, 1) := by decide +kernel
theorem dL_law_481 : decode cL_law 481 = .ok (.iconst 3, 1) := by decide +kernel
theorem dL_law_482 : decode cL_law 482 = .ok (.iadd, 1) := by decide +kernel
theorem dL_law_483 : decode cL_law 483 = .ok (.iaload, 1) := by decide +kernel
theorem dL_law_484 : decode cL_law 484 = .ok (.aload_n 0, 1) := by decide +kernel
theorem dL_law_485 : decode cL_law 485 = .ok (.iload_n 3, 1) := by decide +kernel
theorem dL_law_486 : decode cL_law 486 = .ok (.iconst 4, 1) := by decide +kernel
theorem dL_law_487 : decode cL_law 487 = .ok (.iadd, 1) := by decide +kernel
theorem dL_law_488 : decode cL_law 488 = .ok (.iaload, 1) := by decide +kernel
theorem dL_law_489 : decode cL_law 489 = .ok (.aload_n 0, 1) := by decide +kernel
theorem dL_law_490 : decode cL_law 490 = .ok (.iload_n 3, 1) := by decide +kernel
theorem dL_law_491 : decode cL_law 491 = .ok (.iconst 5, 1) := by decide +kernel
theorem dL_law_492 : decode cL_law 492 = .ok (.iadd, 1) := by decide +kernel
theorem dL_law_493 : decode cL_law 493 = .ok (.iaload, 1) := by decide +kernel
theorem dL_law_494 : decode cL_law 494 = .ok (.aload_n 0, 1) := by decide +kernel
theorem dL_law_495 : decode cL_law 495 = .ok (.iload_n 3, 1) := by decide +kernel
theorem dL_law_496 : decode cL_law 496 = .ok (.bipush 6, 2) := by decide +kernel
theorem dL_law_498 : decode cL_law 498 = .ok (.iadd, 1) := by decide +kernel
theorem dL_law_499 : decode cL_law 499 = .ok (.iaload, 1) := by decide +kernel
theorem dL_law_500 : decode cL_law 500 = .ok (.aload_n 0, 1) := by decide +kernel
theorem dL_law_501 : decode cL_law 501 = .ok (.iload_n 3, 1) := by decide +kernel
theorem dL_law_502 : decode cL_law 502 = .ok (.bipush 7, 2) := by decide +kernel
theorem dL_law_504 : decode cL_law 504 = .ok (.iadd, 1) := by decide +kernel
theorem dL_law_505 : decode cL_law 505 = .ok (.iaload, 1) := by decide +kernel
theorem dL_law_506 : decode cL_law 506 = .ok (.invokevirtual 49, 3) := by decide +kernel
theorem dL_law_509 : decode cL_law 509 = .ok (.aload_n 2, 1) := by decide +kernel
theorem dL_law_510 : decode cL_law 510 = .ok (.aload_n 0, 1) := by decide +kernel
theorem dL_law_511 : decode cL_law 511 = .ok (.iload_n 3, 1) := by decide +kernel
theorem dL_law_512 : decode cL_law 512 = .ok (.iconst 1, 1) := by decide +kernel
theorem dL_law_513 : decode cL_law 513 = .ok (.iadd, 1) := by decide +kernel
theorem dL_law_514 : decode cL_law 514 = .ok (.iaload, 1) := by decide +kernel
theorem dL_law_515 : decode cL_law 515 = .ok (.aload_n 0, 1) := by decide +kernel
theorem dL_law_516 : decode cL_law 516 = .ok (.iload_n 3, 1) := by decide +kernel
theorem dL_law_517 : decode cL_law 517 = .ok (.iconst 2, 1) := by decide +kernel
theorem dL_law_518 : decode cL_law 518 = .ok (.iadd, 1) := by decide +kernel
theorem dL_law_519 : decode cL_law 519 = .ok (.iaload, 1) := by decide +kernel
theorem dL_law_520 : decode cL_law 520 = .ok (.aload_n 0, 1) := by decide +kernel
theorem dL_law_521 : decode cL_law 521 = .ok (.iload_n 3, 1) := by decide +kernel
theorem dL_law_522 : decode cL_law 522 = .ok (.iconst 3, 1) := by decide +kernel
theorem dL_law_523 : decode cL_law 523 = .ok (.iadd, 1) := by decide +kernel
theorem dL_law_524 : decode cL_law 524 = .ok (.iaload, 1) := by decide +kernel
theorem dL_law_525 : decode cL_law 525 = .ok (.aload_n 0, 1) := by decide +kernel
theorem dL_law_526 : decode cL_law 526 = .ok (.iload_n 3, 1) := by decide +kernel
theorem dL_law_527 : decode cL_law 527 = .ok (.iconst 4, 1) := by decide +kernel
theorem dL_law_528 : decode cL_law 528 = .ok (.iadd, 1) := by decide +kernel
theorem dL_law_529 : decode cL_law 529 = .ok (.iaload, 1) := by decide +kernel
theorem dL_law_530 : decode cL_law 530 = .ok (.aload_n 0, 1) := by decide +kernel
theorem dL_law_531 : decode cL_law 531 = .ok (.iload_n 3, 1) := by decide +kernel
theorem dL_law_532 : decode cL_law 532 = .ok (.iconst 5, 1) := by decide +kernel
theorem dL_law_533 : decode cL_law 533 = .ok (.iadd, 1) := by decide +kernel
theorem dL_law_534 : decode cL_law 534 = .ok (.iaload, 1) := by decide +kernel
theorem dL_law_535 : decode cL_law 535 = .ok (.aload_n 0, 1) := by decide +kernel
theorem dL_law_536 : decode cL_law 536 = .ok (.iload_n 3, 1) := by decide +kernel
theorem dL_law_537 : decode cL_law 537 = .ok (.bipush 6, 2) := by decide +kernel
theorem dL_law_539 : decode cL_law 539 = .ok (.iadd, 1) := by decide +kernel
theorem dL_law_540 : decode cL_law 540 = .ok (.iaload, 1) := by decide +kernel
theorem dL_law_541 : decode cL_law 541 = .ok (.aload_n 0, 1) := by decide +kernel
theorem dL_law_542 : decode cL_law 542 = .ok (.iload_n 3, 1) := by decide +kernel
theorem dL_law_543 : decode cL_law 543 = .ok (.bipush 7, 2) := by decide +kernel
theorem dL_law_545 : decode cL_law 545 = .ok (.iadd, 1) := by decide +kernel
theorem dL_law_546 : decode cL_law 546 = .ok (.iaload, 1) := by decide +kernel
theorem dL_law_547 : decode cL_law 547 = .ok (.invokevirtual 53, 3) := by decide +kernel
theorem dL_law_550 : decode cL_law 550 = .ok (.if_icmp .eq 1489, 3) := by decide +kernel
theorem dL_law_553 : decode cL_law 553 = .ok (.iconst 0, 1) := by decide +kernel
theorem dL_law_554 : decode cL_law 554 = .ok (.ireturn, 1) := by decide +kernel
theorem dL_law_555 : decode cL_law 555 = .ok (.aload_n 1, 1) := by decide +kernel
theorem dL_law_556 : decode cL_law 556 = .ok (.aload_n 0, 1) := by decide +kernel
theorem dL_law_557 : decode cL_law 557 = .ok (.iload_n 3, 1) := by decide +kernel
theorem dL_law_558 : decode cL_law 558 = .ok (.iconst 1, 1) := by decide +kernel
theorem dL_law_559 : decode cL_law 559 = .ok (.iadd, 1) := by decide +kernel
theorem dL_law_560 : decode cL_law 560 = .ok (.iaload, 1) := by decide +kernel
theorem dL_law_561 : decode cL_law 561 = .ok (.aload_n 0, 1) := by decide +kernel
theorem dL_law_562 : decode cL_law 562 = .ok (.iload_n 3, 1) := by decide +kernel
theorem dL_law_563 : decode cL_law 563 = .ok (.iconst 2, 1) := by decide +kernel
theorem dL_law_564 : decode cL_law 564 = .ok (.iadd, 1) := by decide +kernel
theorem dL_law_565 : decode cL_law 565 = .ok (.iaload, 1) := by decide +kernel
theorem dL_law_566 : decode cL_law 566 = .ok (.aload_n 0, 1) := by decide +kernel
theorem dL_law_567 : decode cL_law 567 = .ok (.iload_n 3, 1) := by decide +kernel
theorem dL_law_568 : decode cL_law 568 = .ok (.iconst 3, 1) := by decide +kernel
theorem dL_law_569 : decode cL_law 569 = .ok (.iadd, 1) := by decide +kernel
theorem dL_law_570 : decode cL_law 570 = .ok (.iaload, 1) := by decide +kernel
theorem dL_law_571 : decode cL_law 571 = .ok (.invokevirtual 54, 3) := by decide +kernel
theorem dL_law_574 : decode cL_law 574 = .ok (.aload_n 2, 1) := by decide +kernel
theorem dL_law_575 : decode cL_law 575 = .ok (.aload_n 0, 1) := by decide +kernel
theorem dL_law_576 : decode cL_law 576 = .ok (.iload_n 3, 1) := by decide +kernel
theorem dL_law_577 : decode cL_law 577 = .ok (.iconst 1, 1) := by decide +kernel
theorem dL_law_578 : decode cL_law 578 = .ok (.iadd, 1) := by decide +kernel
theorem dL_law_579 : decode cL_law 579 = .ok (.iaload, 1) := by decide +kernel
theorem dL_law_580 : decode cL_law 580 = .ok (.aload_n 0, 1) := by decide +kernel
theorem dL_law_581 : decode cL_law 581 = .ok (.iload_n 3, 1) := by decide +kernel
theorem dL_law_582 : decode cL_law 582 = .ok (.iconst 2, 1) := by decide +kernel
theorem dL_law_583 : decode cL_law 583 = .ok (.iadd, 1) := by decide +kernel
theorem dL_law_584 : decode cL_law 584 = .ok (.iaload, 1) := by decide +kernel
theorem dL_law_585 : decode cL_law 585 = .ok (.aload_n 0, 1) := by decide +kernel
theorem dL_law_586 : decode cL_law 586 = .ok (.iload_n 3, 1) := by decide +kernel
theorem dL_law_587 : decode cL_law 587 = .ok (.iconst 3, 1) := by decide +kernel
theorem dL_law_588 : decode cL_law 588 = .ok (.iadd, 1) := by decide +kernel
theorem dL_law_589 : decode cL_law 589 = .ok (.iaload, 1) := by decide +kernel
theorem dL_law_590 : decode cL_law 590 = .ok (.invokevirtual 58, 3) := by decide +kernel
theorem dL_law_593 : decode cL_law 593 = .ok (.if_icmp .eq 1446, 3) := by decide +kernel
theorem dL_law_596 : decode cL_law 596 = .ok (.iconst 0, 1) := by decide +kernel
theorem dL_law_597 : decode cL_law 597 = .ok (.ireturn, 1) := by decide +kernel
theorem dL_law_598 : decode cL_law 598 = .ok (.aload_n 1, 1) := by decide +kernel
theorem dL_law_599 : decode cL_law 599 = .ok (.aload_n 0, 1) := by decide +kernel
theorem dL_law_600 : decode cL_law 600 = .ok (.iload_n 3, 1) := by decide +kernel
theorem dL_law_601 : decode cL_law 601 = .ok (.iconst 1, 1) := by decide +kernel
theorem dL_law_602 : decode cL_law 602 = .ok (.iadd, 1) := by decide +kernel
theorem dL_law_603 : decode cL_law 603 = .ok (.iaload, 1) := by decide +kernel
theorem dL_law_604 : decode cL_law 604 = .ok (.aload_n 0, 1) := by decide +kernel
theorem dL_law_605 : decode cL_law 605 = .ok (.iload_n 3, 1) := by decide +kernel
theorem dL_law_606 : decode cL_law 606 = .ok (.iconst 2, 1) := by decide +kernel
theorem dL_law_607 : decode cL_law 607 = .ok (.iadd, 1) := by decide +kernel
theorem dL_law_608 : decode cL_law 608 = .ok (.iaload, 1) := by decide +kernel
theorem dL_law_609 : decode cL_law 609 = .ok (.aload_n 0, 1) := by decide +kernel
theorem dL_law_610 : decode cL_law 610 = .ok (.iload_n 3, 1) := by decide +kernel
theorem dL_law_611 : decode cL_law 611 = .ok (.iconst 3, 1) := by decide +kernel
theorem dL_law_612 : decode cL_law 612 = .ok (.iadd, 1) := by decide +kernel
theorem dL_law_613 : decode cL_law 613 = .ok (.iaload, 1) := by decide +kernel
theorem dL_law_614 : decode cL_law 614 = .ok (.invokevirtual 59, 3) := by decide +kernel
theorem dL_law_617 : decode cL_law 617 = .ok (.aload_n 2, 1) := by decide +kernel
theorem dL_law_618 : decode cL_law 618 = .ok (.aload_n 0, 1) := by decide +kernel
theorem dL_law_619 : decode cL_law 619 = .ok (.iload_n 3, 1) := by decide +kernel
theorem dL_law_620 : decode cL_law 620 = .ok (.iconst 1, 1) := by decide +kernel
theorem dL_law_621 : decode cL_law 621 = .ok (.iadd, 1) := by decide +kernel
theorem dL_law_622 : decode cL_law 622 = .ok (.iaload, 1) := by decide +kernel
theorem dL_law_623 : decode cL_law 623 = .ok (.aload_n 0, 1) := by decide +kernel
theorem dL_law_624 : decode cL_law 624 = .ok (.iload_n 3, 1) := by decide +kernel
theorem dL_law_625 : decode cL_law 625 = .ok (.iconst 2, 1) := by decide +kernel
theorem dL_law_626 : decode cL_law 626 = .ok (.iadd, 1) := by decide +kernel
theorem dL_law_627 : decode cL_law 627 = .ok (.iaload, 1) := by decide +kernel
theorem dL_law_628 : decode cL_law 628 = .ok (.aload_n 0, 1) := by decide +kernel
theorem dL_law_629 : decode cL_law 629 = .ok (.iload_n 3, 1) := by decide +kernel
theorem dL_law_630 : decode cL_law 630 = .ok (.iconst 3, 1) := by decide +kernel
theorem dL_law_631 : decode cL_law 631 = .ok (.iadd, 1) := by decide +kernel
theorem dL_law_632 : decode cL_law 632 = .ok (.iaload, 1) := by decide +kernel
theorem dL_law_633 : decode cL_law 633 = .ok (.invokevirtual 62, 3) := by decide +kernel
theorem dL_law_636 : decode cL_law 636 = .ok (.if_icmp .eq 1403, 3) := by decide +kernel
theorem dL_law_639 : decode cL_law 639 = .ok (.iconst 0, 1) := by decide +kernel
theorem dL_law_640 : decode cL_law 640 = .ok (.ireturn, 1) := by decide +kernel
theorem dL_law_641 : decode cL_law 641 = .ok (.aload_n 1, 1) := by decide +kernel
theorem dL_law_642 : decode cL_law 642 = .ok (.aload_n 0, 1) := by decide +kernel
theorem dL_law_643 : decode cL_law 643 = .ok (.iload_n 3, 1) := by decide +kernel
theorem dL_law_644 : decode cL_law 644 = .ok (.iconst 1, 1) := by decide +kernel
theorem dL_law_645 : decode cL_law 645 = .ok (.iadd, 1) := by decide +kernel
theorem dL_law_646 : decode cL_law 646 = .ok (.iaload, 1) := by decide +kernel
theorem dL_law_647 : decode cL_law 647 = .ok (.aload_n 0, 1) := by decide +kernel
theorem dL_law_648 : decode cL_law 648 = .ok (.iload_n 3, 1) := by decide +kernel
theorem dL_law_649 : decode cL_law 649 = .ok (.iconst 2, 1) := by decide +kernel
theorem dL_law_650 : decode cL_law 650 = .ok (.iadd, 1) := by decide +kernel
theorem dL_law_651 : decode cL_law 651 = .ok (.iaload, 1) := by decide +kernel
theorem dL_law_652 : decode cL_law 652 = .ok (.aload_n 0, 1) := by decide +kernel
theorem dL_law_653 : decode cL_law 653 = .ok (.iload_n 3, 1) := by decide +kernel
theorem dL_law_654 : decode cL_law 654 = .ok (.iconst 3, 1) := by decide +kernel
theorem dL_law_655 : decode cL_law 655 = .ok (.iadd, 1) := by decide +kernel
theorem dL_law_656 : decode cL_law 656 = .ok (.iaload, 1) := by decide +kernel
theorem dL_law_657 : decode cL_law 657 = .ok (.aload_n 0, 1) := by decide +kernel
theorem dL_law_658 : decode cL_law 658 = .ok (.iload_n 3, 1) := by decide +kernel
theorem dL_law_659 : decode cL_law 659 = .ok (.iconst 4, 1) := by decide +kernel
theorem dL_law_660 : decode cL_law 660 = .ok (.iadd, 1) := by decide +kernel
theorem dL_law_661 : decode cL_law 661 = .ok (.iaload, 1) := by decide +kernel
theorem dL_law_662 : decode cL_law 662 = .ok (.invokevirtual 63, 3) := by decide +kernel
theorem dL_law_665 : decode cL_law 665 = .ok (.aload_n 2, 1) := by decide +kernel
theorem dL_law_666 : decode cL_law 666 = .ok (.aload_n 0, 1) := by decide +kernel
theorem dL_law_667 : decode cL_law 667 = .ok (.iload_n 3, 1) := by decide +kernel
theorem dL_law_668 : decode cL_law 668 = .ok (.iconst 1, 1) := by decide +kernel
theorem dL_law_669 : decode cL_law 669 = .ok (.iadd, 1) := by decide +kernel
theorem dL_law_670 : decode cL_law 670 = .ok (.iaload, 1) := by decide +kernel
theorem dL_law_671 : decode cL_law 671 = .ok (.aload_n 0, 1) := by decide +kernel
theorem dL_law_672 : decode cL_law 672 = .ok (.iload_n 3, 1) := by decide +kernel
theorem dL_law_673 : decode cL_law 673 = .ok (.iconst 2, 1) := by decide +kernel
theorem dL_law_674 : decode cL_law 674 = .ok (.iadd, 1) := by decide +kernel
theorem dL_law_675 : decode cL_law 675 = .ok (.iaload, 1) := by decide +kernel
theorem dL_law_676 : decode cL_law 676 = .ok (.aload_n 0, 1) := by decide +kernel
theorem dL_law_677 : decode cL_law 677 = .ok (.iload_n 3, 1) := by decide +kernel
theorem dL_law_678 : decode cL_law 678 = .ok (.iconst 3, 1) := by decide +kernel
theorem dL_law_679 : decode cL_law 679 = .ok (.iadd, 1) := by decide +kernel
theorem dL_law_680 : decode cL_law 680 = .ok (.iaload, 1) := by decide +kernel
theorem dL_law_681 : decode cL_law 681 = .ok (.aload_n 0, 1) := by decide +kernel
theorem dL_law_682 : decode cL_law 682 = .ok (.iload_n 3, 1) := by decide +kernel
theorem dL_law_683 : decode cL_law 683 = .ok (.iconst 4, 1) := by decide +kernel
theorem dL_law_684 : decode cL_law 684 = .ok (.iadd, 1) := by decide +kernel
theorem dL_law_685 : decode cL_law 685 = .ok (.iaload, 1) := by decide +kernel
theorem dL_law_686 : decode cL_law 686 = .ok (.invokevirtual 67, 3) := by decide +kernel
theorem dL_law_689 : decode cL_law 689 = .ok (.if_icmp .eq 1350, 3) := by decide +kernel
theorem dL_law_692 : decode cL_law 692 = .ok (.iconst 0, 1) := by decide +kernel
theorem dL_law_693 : decode cL_law 693 = .ok (.ireturn, 1) := by decide +kernel
theorem dL_law_694 : decode cL_law 694 = .ok (.aload_n 1, 1) := by decide +kernel
theorem dL_law_695 : decode cL_law 695 = .ok (.aload_n 0, 1) := by decide +kernel
theorem dL_law_696 : decode cL_law 696 = .ok (.iload_n 3, 1) := by decide +kernel
theorem dL_law_697 : decode cL_law 697 = .ok (.iconst 1, 1) := by decide +kernel
theorem dL_law_698 : decode cL_law 698 = .ok (.iadd, 1) := by decide +kernel
theorem dL_law_699 : decode cL_law 699 = .ok (.iaload, 1) := by decide +kernel
theorem dL_law_700 : decode cL_law 700 = .ok (.aload_n 0, 1) := by decide +kernel
theorem dL_law_701 : decode cL_law 701 = .ok (.iload_n 3, 1) := by decide +kernel
theorem dL_law_702 : decode cL_law 702 = .ok (.iconst 2, 1) := by decide +kernel
theorem dL_law_703 : decode cL_law 703 = .ok (.iadd, 1) := by decide +kernel
theorem dL_law_704 : decode cL_law 704 = .ok (.iaload, 1) := by decide +kernel
theorem dL_law_705 : decode cL_law 705 = .ok (.aload_n 0, 1) := by decide +kernel
theorem dL_law_706 : decode cL_law 706 = .ok (.iload_n 3, 1) := by decide +kernel
theorem dL_law_707 : decode cL_law 707 = .ok (.iconst 3, 1) := by decide +kernel
theorem dL_law_708 : decode cL_law 708 = .ok (.iadd, 1) := by decide +kernel
theorem dL_law_709 : decode cL_law 709 = .ok (.iaload, 1) := by decide +kernel
theorem dL_law_710 : decode cL_law 710 = .ok (.invokevirtual 68, 3) := by decide +kernel
theorem dL_law_713 : decode cL_law 713 = .ok (.aload_n 2, 1) := by decide +kernel
theorem dL_law_714 : decode cL_law 714 = .ok (.aload_n 0, 1) := by decide +kernel
theorem dL_law_715 : decode cL_law 715 = .ok (.iload_n 3, 1) := by decide +kernel
theorem dL_law_716 : decode cL_law 716 = .ok (.iconst 1, 1) := by decide +kernel
theorem dL_law_717 : decode cL_law 717 = .ok (.iadd, 1) := by decide +kernel
theorem dL_law_718 : decode cL_law 718 = .ok (.iaload, 1) := by decide +kernel
theorem dL_law_719 : decode cL_law 719 = .ok (.aload_n 0, 1) := by decide +kernel
theorem dL_law_720 : decode cL_law 720 = .ok (.iload_n 3, 1) := by decide +kernel
theorem dL_law_721 : decode cL_law 721 = .ok (.iconst 2, 1) := by decide +kernel
theorem dL_law_722 : decode cL_law 722 = .ok (.iadd, 1) := by decide +kernel
theorem dL_law_723 : decode cL_law 723 = .ok (.iaload, 1) := by decide +kernel
theorem dL_law_724 : decode cL_law 724 = .ok (.aload_n 0, 1) := by decide +kernel
theorem dL_law_725 : decode cL_law 725 = .ok (.iload_n 3, 1) := by decide +kernel
theorem dL_law_726 : decode cL_law 726 = .ok (.iconst 3, 1) := by decide +kernel
theorem dL_law_727 : decode cL_law 727 = .ok (.iadd, 1) := by decide +kernel
theorem dL_law_728 : decode cL_law 728 = .ok (.iaload, 1) := by decide +kernel
theorem dL_law_729 : decode cL_law 729 = .ok (.invokevirtual 71, 3) := by decide +kernel
theorem dL_law_732 : decode cL_law 732 = .ok (.if_icmp .eq 1307, 3) := by decide +kernel
theorem dL_law_735 : decode cL_law 735 = .ok (.iconst 0, 1) := by decide +kernel
theorem dL_law_736 : decode cL_law 736 = .ok (.ireturn, 1) := by decide +kernel
theorem dL_law_737 : decode cL_law 737 = .ok (.aload_n 1, 1) := by decide +kernel
theorem dL_law_738 : decode cL_law 738 = .ok (.aload_n 0, 1) := by decide +kernel
theorem dL_law_739 : decode cL_law 739 = .ok (.iload_n 3, 1) := by decide +kernel
theorem dL_law_740 : decode cL_law 740 = .ok (.iconst 1, 1) := by decide +kernel
theorem dL_law_741 : decode cL_law 741 = .ok (.iadd, 1) := by decide +kernel
theorem dL_law_742 : decode cL_law 742 = .ok (.iaload, 1) := by decide +kernel
theorem dL_law_743 : decode cL_law 743 = .ok (.aload_n 0, 1) := by decide +kernel
theorem dL_law_744 : decode cL_law 744 = .ok (.iload_n 3, 1) := by decide +kernel
theorem dL_law_745 : decode cL_law 745 = .ok (.iconst 2, 1) := by decide +kernel
theorem dL_law_746 : decode cL_law 746 = .ok (.iadd, 1) := by decide +kernel
theorem dL_law_747 : decode cL_law 747 = .ok (.iaload, 1) := by decide +kernel
theorem dL_law_748 : decode cL_law 748 = .ok (.aload_n 0, 1) := by decide +kernel
theorem dL_law_749 : decode cL_law 749 = .ok (.iload_n 3, 1) := by decide +kernel
theorem dL_law_750 : decode cL_law 750 = .ok (.iconst 3, 1) := by decide +kernel
theorem dL_law_751 : decode cL_law 751 = .ok (.iadd, 1) := by decide +kernel
theorem dL_law_752 : decode cL_law 752 = .ok (.iaload, 1) := by decide +kernel
theorem dL_law_753 : decode cL_law 753 = .ok (.invokevirtual 72, 3) := by decide +kernel
theorem dL_law_756 : decode cL_law 756 = .ok (.aload_n 2, 1) := by decide +kernel
theorem dL_law_757 : decode cL_law 757 = .ok (.aload_n 0, 1) := by decide +kernel
theorem dL_law_758 : decode cL_law 758 = .ok (.iload_n 3, 1) := by decide +kernel
theorem dL_law_759 : decode cL_law 759 = .ok (.iconst 1, 1) := by decide +kernel
theorem dL_law_760 : decode cL_law 760 = .ok (.iadd, 1) := by decide +kernel
theorem dL_law_761 : decode cL_law 761 = .ok (.iaload, 1) := by decide +kernel
theorem dL_law_762 : decode cL_law 762 = .ok (.aload_n 0, 1) := by decide +kernel
theorem dL_law_763 : decode cL_law 763 = .ok (.iload_n 3, 1) := by decide +kernel
theorem dL_law_764 : decode cL_law 764 = .ok (.iconst 2, 1) := by decide +kernel
theorem dL_law_765 : decode cL_law 765 = .ok (.iadd, 1) := by decide +kernel
theorem dL_law_766 : decode cL_law 766 = .ok (.iaload, 1) := by decide +kernel
theorem dL_law_767 : decode cL_law 767 = .ok (.aload_n 0, 1) := by decide +kernel
theorem dL_law_768 : decode cL_law 768 = .ok (.iload_n 3, 1) := by decide +kernel
theorem dL_law_769 : decode cL_law 769 = .ok (.iconst 3, 1) := by decide +kernel
theorem dL_law_770 : decode cL_law 770 = .ok (.iadd, 1) := by decide +kernel
theorem dL_law_771 : decode cL_law 771 = .ok (.iaload, 1) := by decide +kernel
theorem dL_law_772 : decode cL_law 772 = .ok (.invokevirtual 75, 3) := by decide +kernel
theorem dL_law_775 : decode cL_law 775 = .ok (.if_icmp .eq 1264, 3) := by decide +kernel
theorem dL_law_778 : decode cL_law 778 = .ok (.iconst 0, 1) := by decide +kernel
theorem dL_law_779 : decode cL_law 779 = .ok (.ireturn, 1) := by decide +kernel
theorem dL_law_780 : decode cL_law 780 = .ok (.aload_n 1, 1) := by decide +kernel
theorem dL_law_781 : decode cL_law 781 = .ok (.aload_n 0, 1) := by decide +kernel
theorem dL_law_782 : decode cL_law 782 = .ok (.iload_n 3, 1) := by decide +kernel
theorem dL_law_783 : decode cL_law 783 = .ok (.iconst 1, 1) := by decide +kernel
theorem dL_law_784 : decode cL_law 784 = .ok (.iadd, 1) := by decide +kernel
theorem dL_law_785 : decode cL_law 785 = .ok (.iaload, 1) := by decide +kernel
theorem dL_law_786 : decode cL_law 786 = .ok (.aload_n 0, 1) := by decide +kernel
theorem dL_law_787 : decode cL_law 787 = .ok (.iload_n 3, 1) := by decide +kernel
theorem dL_law_788 : decode cL_law 788 = .ok (.iconst 2, 1) := by decide +kernel
theorem dL_law_789 : decode cL_law 789 = .ok (.iadd, 1) := by decide +kernel
theorem dL_law_790 : decode cL_law 790 = .ok (.iaload, 1) := by decide +kernel
theorem dL_law_791 : decode cL_law 791 = .ok (.aload_n 0, 1) := by decide +kernel
theorem dL_law_792 : decode cL_law 792 = .ok (.iload_n 3, 1) := by decide +kernel
theorem dL_law_793 : decode cL_law 793 = .ok (.iconst 3, 1) := by decide +kernel
theorem dL_law_794 : decode cL_law 794 = .ok (.iadd, 1) := by decide +kernel
theorem dL_law_795 : decode cL_law 795 = .ok (.iaload, 1) := by decide +kernel
theorem dL_law_796 : decode cL_law 796 = .ok (.aload_n 0, 1) := by decide +kernel
theorem dL_law_797 : decode cL_law 797 = .ok (.iload_n 3, 1) := by decide +kernel
theorem dL_law_798 : decode cL_law 798 = .ok (.iconst 4, 1) := by decide +kernel
theorem dL_law_799 : decode cL_law 799 = .ok (.iadd, 1) := by decide +kernel
theorem dL_law_800 : decode cL_law 800 = .ok (.iaload, 1) := by decide +kernel
theorem dL_law_801 : decode cL_law 801 = .ok (.aload_n 0, 1) := by decide +kernel
theorem dL_law_802 : decode cL_law 802 = .ok (.iload_n 3, 1) := by decide +kernel
theorem dL_law_803 : decode cL_law 803 = .ok (.iconst 5, 1) := by decide +kernel
theorem dL_law_804 : decode cL_law 804 = .ok (.iadd, 1) := by decide +kernel
theorem dL_law_805 : decode cL_law 805 = .ok (.iaload, 1) := by decide +kernel
theorem dL_law_806 : decode cL_law 806 = .ok (.invokevirtual 76, 3) := by decide +kernel
theorem dL_law_809 : decode cL_law 809 = .ok (.aload_n 2, 1) := by decide +kernel
theorem dL_law_810 : decode cL_law 810 = .ok (.aload_n 0, 1) := by decide +kernel
theorem dL_law_811 : decode cL_law 811 = .ok (.iload_n 3, 1) := by decide +kernel
theorem dL_law_812 : decode cL_law 812 = .ok (.iconst 1, 1) := by decide +kernel
theorem dL_law_813 : decode cL_law 813 = .ok (.iadd, 1) := by decide +kernel
theorem dL_law_814 : decode cL_law 814 = .ok (.iaload, 1) := by decide +kernel
theorem dL_law_815 : decode cL_law 815 = .ok (.aload_n 0, 1) := by decide +kernel
theorem dL_law_816 : decode cL_law 816 = .ok (.iload_n 3, 1) := by decide +kernel
theorem dL_law_817 : decode cL_law 817 = .ok (.iconst 2, 1) := by decide +kernel
theorem dL_law_818 : decode cL_law 818 = .ok (.iadd, 1) := by decide +kernel
theorem dL_law_819 : decode cL_law 819 = .ok (.iaload, 1) := by decide +kernel
theorem dL_law_820 : decode cL_law 820 = .ok (.aload_n 0, 1) := by decide +kernel
theorem dL_law_821 : decode cL_law 821 = .ok (.iload_n 3, 1) := by decide +kernel
theorem dL_law_822 : decode cL_law 822 = .ok (.iconst 3, 1) := by decide +kernel
theorem dL_law_823 : decode cL_law 823 = .ok (.iadd, 1) := by decide +kernel
theorem dL_law_824 : decode cL_law 824 = .ok (.iaload, 1) := by decide +kernel
theorem dL_law_825 : decode cL_law 825 = .ok (.aload_n 0, 1) := by decide +kernel
theorem dL_law_826 : decode cL_law 826 = .ok (.iload_n 3, 1) := by decide +kernel
theorem dL_law_827 : decode cL_law 827 = .ok (.iconst 4, 1) := by decide +kernel
theorem dL_law_828 : decode cL_law 828 = .ok (.iadd, 1) := by decide +kernel
theorem dL_law_829 : decode cL_law 829 = .ok (.iaload, 1) := by decide +kernel
theorem dL_law_830 : decode cL_law 830 = .ok (.aload_n 0, 1) := by decide +kernel
theorem dL_law_831 : decode cL_law 831 = .ok (.iload_n 3, 1) := by decide +kernel
theorem dL_law_832 : decode cL_law 832 = .ok (.iconst 5, 1) := by decide +kernel
theorem dL_law_833 : decode cL_law 833 = .ok (.iadd, 1) := by decide +kernel
theorem dL_law_834 : decode cL_law 834 = .ok (.iaload, 1) := by decide +kernel
theorem dL_law_835 : decode cL_law 835 = .ok (.invokevirtual 79, 3) := by decide +kernel
theorem dL_law_838 : decode cL_law 838 = .ok (.if_icmp .eq 1201, 3) := by decide +kernel
theorem dL_law_841 : decode cL_law 841 = .ok (.iconst 0, 1) := by decide +kernel
theorem dL_law_842 : decode cL_law 842 = .ok (.ireturn, 1) := by decide +kernel
theorem dL_law_843 : decode cL_law 843 = .ok (.aload_n 1, 1) := by decide +kernel
theorem dL_law_844 : decode cL_law 844 = .ok (.aload_n 0, 1) := by decide +kernel
theorem dL_law_845 : decode cL_law 845 = .ok (.iload_n 3, 1) := by decide +kernel
theorem dL_law_846 : decode cL_law 846 = .ok (.iconst 1, 1) := by decide +kernel
theorem dL_law_847 : decode cL_law 847 = .ok (.iadd, 1) := by decide +kernel
theorem dL_law_848 : decode cL_law 848 = .ok (.iaload, 1) := by decide +kernel
theorem dL_law_849 : decode cL_law 849 = .ok (.aload_n 0, 1) := by decide +kernel
theorem dL_law_850 : decode cL_law 850 = .ok (.iload_n 3, 1) := by decide +kernel
theorem dL_law_851 : decode cL_law 851 = .ok (.iconst 2, 1) := by decide +kernel
theorem dL_law_852 : decode cL_law 852 = .ok (.iadd, 1) := by decide +kernel
theorem dL_law_853 : decode cL_law 853 = .ok (.iaload, 1) := by decide +kernel
theorem dL_law_854 : decode cL_law 854 = .ok (.aload_n 0, 1) := by decide +kernel
theorem dL_law_855 : decode cL_law 855 = .ok (.iload_n 3, 1) := by decide +kernel
theorem dL_law_856 : decode cL_law 856 = .ok (.iconst 3, 1) := by decide +kernel
theorem dL_law_857 : decode cL_law 857 = .ok (.iadd, 1) := by decide +kernel
theorem dL_law_858 : decode cL_law 858 = .ok (.iaload, 1) := by decide +kernel
theorem dL_law_859 : decode cL_law 859 = .ok (.invokevirtual 80, 3) := by decide +kernel
theorem dL_law_862 : decode cL_law 862 = .ok (.aload_n 2, 1) := by decide +kernel
theorem dL_law_863 : decode cL_law 863 = .ok (.aload_n 0, 1) := by decide +kernel
theorem dL_law_864 : decode cL_law 864 = .ok (.iload_n 3, 1) := by decide +kernel
theorem dL_law_865 : decode cL_law 865 = .ok (.iconst 1, 1) := by decide +kernel
theorem dL_law_866 : decode cL_law 866 = .ok (.iadd, 1) := by decide +kernel
theorem dL_law_867 : decode cL_law 867 = .ok (.iaload, 1) := by decide +kernel
theorem dL_law_868 : decode cL_law 868 = .ok (.aload_n 0, 1) := by decide +kernel
theorem dL_law_869 : decode cL_law 869 = .ok (.iload_n 3, 1) := by decide +kernel
theorem dL_law_870 : decode cL_law 870 = .ok (.iconst 2, 1) := by decide +kernel
theorem dL_law_871 : decode cL_law 871 = .ok (.iadd, 1) := by decide +kernel
theorem dL_law_872 : decode cL_law 872 = .ok (.iaload, 1) := by decide +kernel
theorem dL_law_873 : decode cL_law 873 = .ok (.aload_n 0, 1) := by decide +kernel
theorem dL_law_874 : decode cL_law 874 = .ok (.iload_n 3, 1) := by decide +kernel
theorem dL_law_875 : decode cL_law 875 = .ok (.iconst 3, 1) := by decide +kernel
theorem dL_law_876 : decode cL_law 876 = .ok (.iadd, 1) := by decide +kernel
theorem dL_law_877 : decode cL_law 877 = .ok (.iaload, 1) := by decide +kernel
theorem dL_law_878 : decode cL_law 878 = .ok (.invokevirtual 83, 3) := by decide +kernel
theorem dL_law_881 : decode cL_law 881 = .ok (.if_icmp .eq 1158, 3) := by decide +kernel
theorem dL_law_884 : decode cL_law 884 = .ok (.iconst 0, 1) := by decide +kernel
theorem dL_law_885 : decode cL_law 885 = .ok (.ireturn, 1) := by decide +kernel
theorem dL_law_886 : decode cL_law 886 = .ok (.aload_n 1, 1) := by decide +kernel
theorem dL_law_887 : decode cL_law 887 = .ok (.aload_n 0, 1) := by decide +kernel
theorem dL_law_888 : decode cL_law 888 = .ok (.iload_n 3, 1) := by decide +kernel
theorem dL_law_889 : decode cL_law 889 = .ok (.iconst 1, 1) := by decide +kernel
theorem dL_law_890 : decode cL_law 890 = .ok (.iadd, 1) := by decide +kernel
theorem dL_law_891 : decode cL_law 891 = .ok (.iaload, 1) := by decide +kernel
theorem dL_law_892 : decode cL_law 892 = .ok (.aload_n 0, 1) := by decide +kernel
theorem dL_law_893 : decode cL_law 893 = .ok (.iload_n 3, 1) := by decide +kernel
theorem dL_law_894 : decode cL_law 894 = .ok (.iconst 2, 1) := by decide +kernel
theorem dL_law_895 : decode cL_law 895 = .ok (.iadd, 1) := by decide +kernel
theorem dL_law_896 : decode cL_law 896 = .ok (.iaload, 1) := by decide +kernel
theorem dL_law_897 : decode cL_law 897 = .ok (.aload_n 0, 1) := by decide +kernel
theorem dL_law_898 : decode cL_law 898 = .ok (.iload_n 3, 1) := by decide +kernel
theorem dL_law_899 : decode cL_law 899 = .ok (.iconst 3, 1) := by decide +kernel
theorem dL_law_900 : decode cL_law 900 = .ok (.iadd, 1) := by decide +kernel
theorem dL_law_901 : decode cL_law 901 = .ok (.iaload, 1) := by decide +kernel
theorem dL_law_902 : decode cL_law 902 = .ok (.aload_n 0, 1) := by decide +kernel
theorem dL_law_903 : decode cL_law 903 = .ok (.iload_n 3, 1) := by decide +kernel
theorem dL_law_904 : decode cL_law 904 = .ok (.iconst 4, 1) := by decide +kernel
theorem dL_law_905 : decode cL_law 905 = .ok (.iadd, 1) := by decide +kernel
theorem dL_law_906 : decode cL_law 906 = .ok (.iaload, 1) := by decide +kernel
theorem dL_law_907 : decode cL_law 907 = .ok (.invokevirtual 84, 3) := by decide +kernel
theorem dL_law_910 : decode cL_law 910 = .ok (.aload_n 2, 1) := by decide +kernel
theorem dL_law_911 : decode cL_law 911 = .ok (.aload_n 0, 1) := by decide +kernel
theorem dL_law_912 : decode cL_law 912 = .ok (.iload_n 3, 1) := by decide +kernel
theorem dL_law_913 : decode cL_law 913 = .ok (.iconst 1, 1) := by decide +kernel
theorem dL_law_914 : decode cL_law 914 = .ok (.iadd, 1) := by decide +kernel
theorem dL_law_915 : decode cL_law 915 = .ok (.iaload, 1) := by decide +kernel
theorem dL_law_916 : decode cL_law 916 = .ok (.aload_n 0, 1) := by decide +kernel
theorem dL_law_917 : decode cL_law 917 = .ok (.iload_n 3, 1) := by decide +kernel
theorem dL_law_918 : decode cL_law 918 = .ok (.iconst 2, 1) := by decide +kernel
theorem dL_law_919 : decode cL_law 919 = .ok (.iadd, 1) := by decide +kernel
theorem dL_law_920 : decode cL_law 920 = .ok (.iaload, 1) := by decide +kernel
theorem dL_law_921 : decode cL_law 921 = .ok (.aload_n 0, 1) := by decide +kernel
theorem dL_law_922 : decode cL_law 922 = .ok (.iload_n 3, 1) := by decide +kernel
theorem dL_law_923 : decode cL_law 923 = .ok (.iconst 3, 1) := by decide +kernel
theorem dL_law_924 : decode cL_law 924 = .ok (.iadd, 1) := by decide +kernel
theorem dL_law_925 : decode cL_law 925 = .ok (.iaload, 1) := by decide +kernel
theorem dL_law_926 : decode cL_law 926 = .ok (.aload_n 0, 1) := by decide +kernel
theorem dL_law_927 : decode cL_law 927 = .ok (.iload_n 3, 1) := by decide +kernel
theorem dL_law_928 : decode cL_law 928 = .ok (.iconst 4, 1) := by decide +kernel
theorem dL_law_929 : decode cL_law 929 = .ok (.iadd, 1) := by decide +kernel
theorem dL_law_930 : decode cL_law 930 = .ok (.iaload, 1) := by decide +kernel
theorem dL_law_931 : decode cL_law 931 = .ok (.invokevirtual 87, 3) := by decide +kernel
theorem dL_law_934 : decode cL_law 934 = .ok (.if_icmp .eq 1105, 3) := by decide +kernel
theorem dL_law_937 : decode cL_law 937 = .ok (.iconst 0, 1) := by decide +kernel
theorem dL_law_938 : decode cL_law 938 = .ok (.ireturn, 1) := by decide +kernel
theorem dL_law_939 : decode cL_law 939 = .ok (.aload_n 1, 1) := by decide +kernel
theorem dL_law_940 : decode cL_law 940 = .ok (.aload_n 0, 1) := by decide +kernel
theorem dL_law_941 : decode cL_law 941 = .ok (.iload_n 3, 1) := by decide +kernel
theorem dL_law_942 : decode cL_law 942 = .ok (.iconst 1, 1) := by decide +kernel
theorem dL_law_943 : decode cL_law 943 = .ok (.iadd, 1) := by decide +kernel
theorem dL_law_944 : decode cL_law 944 = .ok (.iaload, 1) := by decide +kernel
theorem dL_law_945 : decode cL_law 945 = .ok (.aload_n 0, 1) := by decide +kernel
theorem dL_law_946 : decode cL_law 946 = .ok (.iload_n 3, 1) := by decide +kernel
theorem dL_law_947 : decode cL_law 947 = .ok (.iconst 2, 1) := by decide +kernel
theorem dL_law_948 : decode cL_law 948 = .ok (.iadd, 1) := by decide +kernel
theorem dL_law_949 : decode cL_law 949 = .ok (.iaload, 1) := by decide +kernel
theorem dL_law_950 : decode cL_law 950 = .ok (.aload_n 0, 1) := by decide +kernel
theorem dL_law_951 : decode cL_law 951 = .ok (.iload_n 3, 1) := by decide +kernel
theorem dL_law_952 : decode cL_law 952 = .ok (.iconst 3, 1) := by decide +kernel
theorem dL_law_953 : decode cL_law 953 = .ok (.iadd, 1) := by decide +kernel
theorem dL_law_954 : decode cL_law 954 = .ok (.iaload, 1) := by decide +kernel
theorem dL_law_955 : decode cL_law 955 = .ok (.aload_n 0, 1) := by decide +kernel
theorem dL_law_956 : decode cL_law 956 = .ok (.iload_n 3, 1) := by decide +kernel
theorem dL_law_957 : decode cL_law 957 = .ok (.iconst 4, 1) := by decide +kernel
theorem dL_law_958 : decode cL_law 958 = .ok (.iadd, 1) := by decide +kernel
theorem dL_law_959 : decode cL_law 959 = .ok (.iaload, 1) := by decide +kernel
theorem dL_law_960 : decode cL_law 960 = .ok (.invokevirtual 88, 3) := by decide +kernel
theorem dL_law_963 : decode cL_law 963 = .ok (.aload_n 2, 1) := by decide +kernel
theorem dL_law_964 : decode cL_law 964 = .ok (.aload_n 0, 1) := by decide +kernel
theorem dL_law_965 : decode cL_law 965 = .ok (.iload_n 3, 1) := by decide +kernel
theorem dL_law_966 : decode cL_law 966 = .ok (.iconst 1, 1) := by decide +kernel
theorem dL_law_967 : decode cL_law 967 = .ok (.iadd, 1) := by decide +kernel
theorem dL_law_968 : decode cL_law 968 = .ok (.iaload, 1) := by decide +kernel
theorem dL_law_969 : decode cL_law 969 = .ok (.aload_n 0, 1) := by decide +kernel
theorem dL_law_970 : decode cL_law 970 = .ok (.iload_n 3, 1) := by decide +kernel
theorem dL_law_971 : decode cL_law 971 = .ok (.iconst 2, 1) := by decide +kernel
theorem dL_law_972 : decode cL_law 972 = .ok (.iadd, 1) := by decide +kernel
theorem dL_law_973 : decode cL_law 973 = .ok (.iaload, 1) := by decide +kernel
theorem dL_law_974 : decode cL_law 974 = .ok (.aload_n 0, 1) := by decide +kernel
theorem dL_law_975 : decode cL_law 975 = .ok (.iload_n 3, 1) := by decide +kernel
theorem dL_law_976 : decode cL_law 976 = .ok (.iconst 3, 1) := by decide +kernel
theorem dL_law_977 : decode cL_law 977 = .ok (.iadd, 1) := by decide +kernel
theorem dL_law_978 : decode cL_law 978 = .ok (.iaload, 1) := by decide +kernel
theorem dL_law_979 : decode cL_law 979 = .ok (.aload_n 0, 1) := by decide +kernel
theorem dL_law_980 : decode cL_law 980 = .ok (.iload_n 3, 1) := by decide +kernel
theorem dL_law_981 : decode cL_law 981 = .ok (.iconst 4, 1) := by decide +kernel
theorem dL_law_982 : decode cL_law 982 = .ok (.iadd, 1) := by decide +kernel
theorem dL_law_983 : decode cL_law 983 = .ok (.iaload, 1) := by decide +kernel
theorem dL_law_984 : decode cL_law 984 = .ok (.invokevirtual 91, 3) := by decide +kernel
theorem dL_law_987 : decode cL_law 987 = .ok (.if_icmp .eq 1052, 3) := by decide +kernel
theorem dL_law_990 : decode cL_law 990 = .ok (.iconst 0, 1) := by decide +kernel
theorem dL_law_991 : decode cL_law 991 = .ok (.ireturn, 1) := by decide +kernel
theorem dL_law_992 : decode cL_law 992 = .ok (.aload_n 1, 1) := by decide +kernel
theorem dL_law_993 : decode cL_law 993 = .ok (.aload_n 0, 1) := by decide +kernel
theorem dL_law_994 : decode cL_law 994 = .ok (.iload_n 3, 1) := by decide +kernel
theorem dL_law_995 : decode cL_law 995 = .ok (.iconst 1, 1) := by decide +kernel
theorem dL_law_996 : decode cL_law 996 = .ok (.iadd, 1) := by decide +kernel
theorem dL_law_997 : decode cL_law 997 = .ok (.iaload, 1) := by decide +kernel
theorem dL_law_998 : decode cL_law 998 = .ok (.aload_n 0, 1) := by decide +kernel
theorem dL_law_999 : decode cL_law 999 = .ok (.iload_n 3, 1) := by decide +kernel
theorem dL_law_1000 : decode cL_law 1000 = .ok (.iconst 2, 1) := by decide +kernel
theorem dL_law_1001 : decode cL_law 1001 = .ok (.iadd, 1) := by decide +kernel
theorem dL_law_1002 : decode cL_law 1002 = .ok (.iaload, 1) := by decide +kernel
theorem dL_law_1003 : decode cL_law 1003 = .ok (.aload_n 0, 1) := by decide +kernel
theorem dL_law_1004 : decode cL_law 1004 = .ok (.iload_n 3, 1) := by decide +kernel
theorem dL_law_1005 : decode cL_law 1005 = .ok (.iconst 3, 1) := by decide +kernel
theorem dL_law_1006 : decode cL_law 1006 = .ok (.iadd, 1) := by decide +kernel
theorem dL_law_1007 : decode cL_law 1007 = .ok (.iaload, 1) := by decide +kernel
theorem dL_law_1008 : decode cL_law 1008 = .ok (.aload_n 0, 1) := by decide +kernel
theorem dL_law_1009 : decode cL_law 1009 = .ok (.iload_n 3, 1) := by decide +kernel
theorem dL_law_1010 : decode cL_law 1010 = .ok (.iconst 4, 1) := by decide +kernel
theorem dL_law_1011 : decode cL_law 1011 = .ok (.iadd, 1) := by decide +kernel
theorem dL_law_1012 : decode cL_law 1012 = .ok (.iaload, 1) := by decide +kernel
theorem dL_law_1013 : decode cL_law 1013 = .ok (.aload_n 0, 1) := by decide +kernel
theorem dL_law_1014 : decode cL_law 1014 = .ok (.iload_n 3, 1) := by decide +kernel
theorem dL_law_1015 : decode cL_law 1015 = .ok (.iconst 5, 1) := by decide +kernel
theorem dL_law_1016 : decode cL_law 1016 = .ok (.iadd, 1) := by decide +kernel
theorem dL_law_1017 : decode cL_law 1017 = .ok (.iaload, 1) := by decide +kernel
theorem dL_law_1018 : decode cL_law 1018 = .ok (.aload_n 0, 1) := by decide +kernel
theorem dL_law_1019 : decode cL_law 1019 = .ok (.iload_n 3, 1) := by decide +kernel
theorem dL_law_1020 : decode cL_law 1020 = .ok (.bipush 6, 2) := by decide +kernel
theorem dL_law_1022 : decode cL_law 1022 = .ok (.iadd, 1) := by decide +kernel
theorem dL_law_1023 : decode cL_law 1023 = .ok (.iaload, 1) := by decide +kernel
theorem dL_law_1024 : decode cL_law 1024 = .ok (.aload_n 0, 1) := by decide +kernel
theorem dL_law_1025 : decode cL_law 1025 = .ok (.iload_n 3, 1) := by decide +kernel
theorem dL_law_1026 : decode cL_law 1026 = .ok (.bipush 7, 2) := by decide +kernel
theorem dL_law_1028 : decode cL_law 1028 = .ok (.iadd, 1) := by decide +kernel
theorem dL_law_1029 : decode cL_law 1029 = .ok (.iaload, 1) := by decide +kernel
theorem dL_law_1030 : decode cL_law 1030 = .ok (.invokevirtual 92, 3) := by decide +kernel
theorem dL_law_1033 : decode cL_law 1033 = .ok (.aload_n 2, 1) := by decide +kernel
theorem dL_law_1034 : decode cL_law 1034 = .ok (.aload_n 0, 1) := by decide +kernel
theorem dL_law_1035 : decode cL_law 1035 = .ok (.iload_n 3, 1) := by decide +kernel
theorem dL_law_1036 : decode cL_law 1036 = .ok (.iconst 1, 1) := by decide +kernel
theorem dL_law_1037 : decode cL_law 1037 = .ok (.iadd, 1) := by decide +kernel
theorem dL_law_1038 : decode cL_law 1038 = .ok (.iaload, 1) := by decide +kernel
theorem dL_law_1039 : decode cL_law 1039 = .ok (.aload_n 0, 1) := by decide +kernel
theorem dL_law_1040 : decode cL_law 1040 = .ok (.iload_n 3, 1) := by decide +kernel
theorem dL_law_1041 : decode cL_law 1041 = .ok (.iconst 2, 1) := by decide +kernel
theorem dL_law_1042 : decode cL_law 1042 = .ok (.iadd, 1) := by decide +kernel
theorem dL_law_1043 : decode cL_law 1043 = .ok (.iaload, 1) := by decide +kernel
theorem dL_law_1044 : decode cL_law 1044 = .ok (.aload_n 0, 1) := by decide +kernel
theorem dL_law_1045 : decode cL_law 1045 = .ok (.iload_n 3, 1) := by decide +kernel
theorem dL_law_1046 : decode cL_law 1046 = .ok (.iconst 3, 1) := by decide +kernel
theorem dL_law_1047 : decode cL_law 1047 = .ok (.iadd, 1) := by decide +kernel
theorem dL_law_1048 : decode cL_law 1048 = .ok (.iaload, 1) := by decide +kernel
theorem dL_law_1049 : decode cL_law 1049 = .ok (.aload_n 0, 1) := by decide +kernel
theorem dL_law_1050 : decode cL_law 1050 = .ok (.iload_n 3, 1) := by decide +kernel
theorem dL_law_1051 : decode cL_law 1051 = .ok (.iconst 4, 1) := by decide +kernel
theorem dL_law_1052 : decode cL_law 1052 = .ok (.iadd, 1) := by decide +kernel
theorem dL_law_1053 : decode cL_law 1053 = .ok (.iaload, 1) := by decide +kernel
theorem dL_law_1054 : decode cL_law 1054 = .ok (.aload_n 0, 1) := by decide +kernel
theorem dL_law_1055 : decode cL_law 1055 = .ok (.iload_n 3, 1) := by decide +kernel
theorem dL_law_1056 : decode cL_law 1056 = .ok (.iconst 5, 1) := by decide +kernel
theorem dL_law_1057 : decode cL_law 1057 = .ok (.iadd, 1) := by decide +kernel
theorem dL_law_1058 : decode cL_law 1058 = .ok (.iaload, 1) := by decide +kernel
theorem dL_law_1059 : decode cL_law 1059 = .ok (.aload_n 0, 1) := by decide +kernel
theorem dL_law_1060 : decode cL_law 1060 = .ok (.iload_n 3, 1) := by decide +kernel
theorem dL_law_1061 : decode cL_law 1061 = .ok (.bipush 6, 2) := by decide +kernel
theorem dL_law_1063 : decode cL_law 1063 = .ok (.iadd, 1) := by decide +kernel
theorem dL_law_1064 : decode cL_law 1064 = .ok (.iaload, 1) := by decide +kernel
theorem dL_law_1065 : decode cL_law 1065 = .ok (.aload_n 0, 1) := by decide +kernel
theorem dL_law_1066 : decode cL_law 1066 = .ok (.iload_n 3, 1) := by decide +kernel
theorem dL_law_1067 : decode cL_law 1067 = .ok (.bipush 7, 2) := by decide +kernel
theorem dL_law_1069 : decode cL_law 1069 = .ok (.iadd, 1) := by decide +kernel
theorem dL_law_1070 : decode cL_law 1070 = .ok (.iaload, 1) := by decide +kernel
theorem dL_law_1071 : decode cL_law 1071 = .ok (.invokevirtual 96, 3) := by decide +kernel
theorem dL_law_1074 : decode cL_law 1074 = .ok (.if_icmp .eq 965, 3) := by decide +kernel
theorem dL_law_1077 : decode cL_law 1077 = .ok (.iconst 0, 1) := by decide +kernel
theorem dL_law_1078 : decode cL_law 1078 = .ok (.ireturn, 1) := by decide +kernel
theorem dL_law_1079 : decode cL_law 1079 = .ok (.aload_n 1, 1) := by decide +kernel
theorem dL_law_1080 : decode cL_law 1080 = .ok (.aload_n 0, 1) := by decide +kernel
theorem dL_law_1081 : decode cL_law 1081 = .ok (.iload_n 3, 1) := by decide +kernel
theorem dL_law_1082 : decode cL_law 1082 = .ok (.iconst 1, 1) := by decide +kernel
theorem dL_law_1083 : decode cL_law 1083 = .ok (.iadd, 1) := by decide +kernel
theorem dL_law_1084 : decode cL_law 1084 = .ok (.iaload, 1) := by decide +kernel
theorem dL_law_1085 : decode cL_law 1085 = .ok (.aload_n 0, 1) := by decide +kernel
theorem dL_law_1086 : decode cL_law 1086 = .ok (.iload_n 3, 1) := by decide +kernel
theorem dL_law_1087 : decode cL_law 1087 = .ok (.iconst 2, 1) := by decide +kernel
theorem dL_law_1088 : decode cL_law 1088 = .ok (.iadd, 1) := by decide +kernel
theorem dL_law_1089 : decode cL_law 1089 = .ok (.iaload, 1) := by decide +kernel
theorem dL_law_1090 : decode cL_law 1090 = .ok (.aload_n 0, 1) := by decide +kernel
theorem dL_law_1091 : decode cL_law 1091 = .ok (.iload_n 3, 1) := by decide +kernel
theorem dL_law_1092 : decode cL_law 1092 = .ok (.iconst 3, 1) := by decide +kernel
theorem dL_law_1093 : decode cL_law 1093 = .ok (.iadd, 1) := by decide +kernel
theorem dL_law_1094 : decode cL_law 1094 = .ok (.iaload, 1) := by decide +kernel
theorem dL_law_1095 : decode cL_law 1095 = .ok (.aload_n 0, 1) := by decide +kernel
theorem dL_law_1096 : decode cL_law 1096 = .ok (.iload_n 3, 1) := by decide +kernel
theorem dL_law_1097 : decode cL_law 1097 = .ok (.iconst 4, 1) := by decide +kernel
theorem dL_law_1098 : decode cL_law 1098 = .ok (.iadd, 1) := by decide +kernel
theorem dL_law_1099 : decode cL_law 1099 = .ok (.iaload, 1) := by decide +kernel
theorem dL_law_1100 : decode cL_law 1100 = .ok (.aload_n 0, 1) := by decide +kernel
theorem dL_law_1101 : decode cL_law 1101 = .ok (.iload_n 3, 1) := by decide +kernel
theorem dL_law_1102 : decode cL_law 1102 = .ok (.iconst 5, 1) := by decide +kernel
theorem dL_law_1103 : decode cL_law 1103 = .ok (.iadd, 1) := by decide +kernel
theorem dL_law_1104 : decode cL_law 1104 = .ok (.iaload, 1) := by decide +kernel
theorem dL_law_1105 : decode cL_law 1105 = .ok (.invokevirtual 97, 3) := by decide +kernel
theorem dL_law_1108 : decode cL_law 1108 = .ok (.aload_n 2, 1) := by decide +kernel
theorem dL_law_1109 : decode cL_law 1109 = .ok (.aload_n 0, 1) := by decide +kernel
theorem dL_law_1110 : decode cL_law 1110 = .ok (.iload_n 3, 1) := by decide +kernel
theorem dL_law_1111 : decode cL_law 1111 = .ok (.iconst 1, 1) := by decide +kernel
theorem dL_law_1112 : decode cL_law 1112 = .ok (.iadd, 1) := by decide +kernel
theorem dL_law_1113 : decode cL_law 1113 = .ok (.iaload, 1) := by decide +kernel
theorem dL_law_1114 : decode cL_law 1114 = .ok (.aload_n 0, 1) := by decide +kernel
theorem dL_law_1115 : decode cL_law 1115 = .ok (.iload_n 3, 1) := by decide +kernel
theorem dL_law_1116 : decode cL_law 1116 = .ok (.iconst 2, 1) := by decide +kernel
theorem dL_law_1117 : decode cL_law 1117 = .ok (.iadd, 1) := by decide +kernel
theorem dL_law_1118 : decode cL_law 1118 = .ok (.iaload, 1) := by decide +kernel
theorem dL_law_1119 : decode cL_law 1119 = .ok (.aload_n 0, 1) := by decide +kernel
theorem dL_law_1120 : decode cL_law 1120 = .ok (.iload_n 3, 1) := by decide +kernel
theorem dL_law_1121 : decode cL_law 1121 = .ok (.iconst 3, 1) := by decide +kernel
theorem dL_law_1122 : decode cL_law 1122 = .ok (.iadd, 1) := by decide +kernel
theorem dL_law_1123 : decode cL_law 1123 = .ok (.iaload, 1) := by decide +kernel
theorem dL_law_1124 : decode cL_law 1124 = .ok (.aload_n 0, 1) := by decide +kernel
theorem dL_law_1125 : decode cL_law 1125 = .ok (.iload_n 3, 1) := by decide +kernel
theorem dL_law_1126 : decode cL_law 1126 = .ok (.iconst 4, 1) := by decide +kernel
theorem dL_law_1127 : decode cL_law 1127 = .ok (.iadd, 1) := by decide +kernel
theorem dL_law_1128 : decode cL_law 1128 = .ok (.iaload, 1) := by decide +kernel
theorem dL_law_1129 : decode cL_law 1129 = .ok (.aload_n 0, 1) := by decide +kernel
theorem dL_law_1130 : decode cL_law 1130 = .ok (.iload_n 3, 1) := by decide +kernel
theorem dL_law_1131 : decode cL_law 1131 = .ok (.iconst 5, 1) := by decide +kernel
theorem dL_law_1132 : decode cL_law 1132 = .ok (.iadd, 1) := by decide +kernel
theorem dL_law_1133 : decode cL_law 1133 = .ok (.iaload, 1) := by decide +kernel
theorem dL_law_1134 : decode cL_law 1134 = .ok (.invokevirtual 100, 3) := by decide +kernel
theorem dL_law_1137 : decode cL_law 1137 = .ok (.if_icmp .eq 902, 3) := by decide +kernel
theorem dL_law_1140 : decode cL_law 1140 = .ok (.iconst 0, 1) := by decide +kernel
theorem dL_law_1141 : decode cL_law 1141 = .ok (.ireturn, 1) := by decide +kernel
theorem dL_law_1142 : decode cL_law 1142 = .ok (.aload_n 1, 1) := by decide +kernel
theorem dL_law_1143 : decode cL_law 1143 = .ok (.aload_n 0, 1) := by decide +kernel
theorem dL_law_1144 : decode cL_law 1144 = .ok (.iload_n 3, 1) := by decide +kernel
theorem dL_law_1145 : decode cL_law 1145 = .ok (.iconst 1, 1) := by decide +kernel
theorem dL_law_1146 : decode cL_law 1146 = .ok (.iadd, 1) := by decide +kernel
theorem dL_law_1147 : decode cL_law 1147 = .ok (.iaload, 1) := by decide +kernel
theorem dL_law_1148 : decode cL_law 1148 = .ok (.aload_n 0, 1) := by decide +kernel
theorem dL_law_1149 : decode cL_law 1149 = .ok (.iload_n 3, 1) := by decide +kernel
theorem dL_law_1150 : decode cL_law 1150 = .ok (.iconst 2, 1) := by decide +kernel
theorem dL_law_1151 : decode cL_law 1151 = .ok (.iadd, 1) := by decide +kernel
theorem dL_law_1152 : decode cL_law 1152 = .ok (.iaload, 1) := by decide +kernel
theorem dL_law_1153 : decode cL_law 1153 = .ok (.aload_n 0, 1) := by decide +kernel
theorem dL_law_1154 : decode cL_law 1154 = .ok (.iload_n 3, 1) := by decide +kernel
theorem dL_law_1155 : decode cL_law 1155 = .ok (.iconst 3, 1) := by decide +kernel
theorem dL_law_1156 : decode cL_law 1156 = .ok (.iadd, 1) := by decide +kernel
theorem dL_law_1157 : decode cL_law 1157 = .ok (.iaload, 1) := by decide +kernel
theorem dL_law_1158 : decode cL_law 1158 = .ok (.aload_n 0, 1) := by decide +kernel
theorem dL_law_1159 : decode cL_law 1159 = .ok (.iload_n 3, 1) := by decide +kernel
theorem dL_law_1160 : decode cL_law 1160 = .ok (.iconst 4, 1) := by decide +kernel
theorem dL_law_1161 : decode cL_law 1161 = .ok (.iadd, 1) := by decide +kernel
theorem dL_law_1162 : decode cL_law 1162 = .ok (.iaload, 1) := by decide +kernel
theorem dL_law_1163 : decode cL_law 1163 = .ok (.aload_n 0, 1) := by decide +kernel
theorem dL_law_1164 : decode cL_law 1164 = .ok (.iload_n 3, 1) := by decide +kernel
theorem dL_law_1165 : decode cL_law 1165 = .ok (.iconst 5, 1) := by decide +kernel
theorem dL_law_1166 : decode cL_law 1166 = .ok (.iadd, 1) := by decide +kernel
theorem dL_law_1167 : decode cL_law 1167 = .ok (.iaload, 1) := by decide +kernel
theorem dL_law_1168 : decode cL_law 1168 = .ok (.aload_n 0, 1) := by decide +kernel
theorem dL_law_1169 : decode cL_law 1169 = .ok (.iload_n 3, 1) := by decide +kernel
theorem dL_law_1170 : decode cL_law 1170 = .ok (.bipush 6, 2) := by decide +kernel
theorem dL_law_1172 : decode cL_law 1172 = .ok (.iadd, 1) := by decide +kernel
theorem dL_law_1173 : decode cL_law 1173 = .ok (.iaload, 1) := by decide +kernel
theorem dL_law_1174 : decode cL_law 1174 = .ok (.invokevirtual 101, 3) := by decide +kernel
theorem dL_law_1177 : decode cL_law 1177 = .ok (.aload_n 2, 1) := by decide +kernel
theorem dL_law_1178 : decode cL_law 1178 = .ok (.aload_n 0, 1) := by decide +kernel
theorem dL_law_1179 : decode cL_law 1179 = .ok (.iload_n 3, 1) := by decide +kernel
theorem dL_law_1180 : decode cL_law 1180 = .ok (.iconst 1, 1) := by decide +kernel
theorem dL_law_1181 : decode cL_law 1181 = .ok (.iadd, 1) := by decide +kernel
theorem dL_law_1182 : decode cL_law 1182 = .ok (.iaload, 1) := by decide +kernel
theorem dL_law_1183 : decode cL_law 1183 = .ok (.aload_n 0, 1) := by decide +kernel
theorem dL_law_1184 : decode cL_law 1184 = .ok (.iload_n 3, 1) := by decide +kernel
theorem dL_law_1185 : decode cL_law 1185 = .ok (.iconst 2, 1) := by decide +kernel
theorem dL_law_1186 : decode cL_law 1186 = .ok (.iadd, 1) := by decide +kernel
theorem dL_law_1187 : decode cL_law 1187 = .ok (.iaload, 1) := by decide +kernel
theorem dL_law_1188 : decode cL_law 1188 = .ok (.aload_n 0, 1) := by decide +kernel
theorem dL_law_1189 : decode cL_law 1189 = .ok (.iload_n 3, 1) := by decide +kernel
theorem dL_law_1190 : decode cL_law 1190 = .ok (.iconst 3, 1) := by decide +kernel
theorem dL_law_1191 : decode cL_law 1191 = .ok (.iadd, 1) := by decide +kernel
theorem dL_law_1192 : decode cL_law 1192 = .ok (.iaload, 1) := by decide +kernel
theorem dL_law_1193 : decode cL_law 1193 = .ok (.aload_n 0, 1) := by decide +kernel
theorem dL_law_1194 : decode cL_law 1194 = .ok (.iload_n 3, 1) := by decide +kernel
theorem dL_law_1195 : decode cL_law 1195 = .ok (.iconst 4, 1) := by decide +kernel
theorem dL_law_1196 : decode cL_law 1196 = .ok (.iadd, 1) := by decide +kernel
theorem dL_law_1197 : decode cL_law 1197 = .ok (.iaload, 1) := by decide +kernel
theorem dL_law_1198 : decode cL_law 1198 = .ok (.aload_n 0, 1) := by decide +kernel
theorem dL_law_1199 : decode cL_law 1199 = .ok (.iload_n 3, 1) := by decide +kernel
theorem dL_law_1200 : decode cL_law 1200 = .ok (.iconst 5, 1) := by decide +kernel
theorem dL_law_1201 : decode cL_law 1201 = .ok (.iadd, 1) := by decide +kernel
theorem dL_law_1202 : decode cL_law 1202 = .ok (.iaload, 1) := by decide +kernel
theorem dL_law_1203 : decode cL_law 1203 = .ok (.aload_n 0, 1) := by decide +kernel
theorem dL_law_1204 : decode cL_law 1204 = .ok (.iload_n 3, 1) := by decide +kernel
theorem dL_law_1205 : decode cL_law 1205 = .ok (.bipush 6, 2) := by decide +kernel
theorem dL_law_1207 : decode cL_law 1207 = .ok (.iadd, 1) := by decide +kernel
theorem dL_law_1208 : decode cL_law 1208 = .ok (.iaload, 1) := by decide +kernel
theorem dL_law_1209 : decode cL_law 1209 = .ok (.invokevirtual 105, 3) := by decide +kernel
theorem dL_law_1212 : decode cL_law 1212 = .ok (.if_icmp .eq 827, 3) := by decide +kernel
theorem dL_law_1215 : decode cL_law 1215 = .ok (.iconst 0, 1) := by decide +kernel
theorem dL_law_1216 : decode cL_law 1216 = .ok (.ireturn, 1) := by decide +kernel
theorem dL_law_1217 : decode cL_law 1217 = .ok (.aload_n 1, 1) := by decide +kernel
theorem dL_law_1218 : decode cL_law 1218 = .ok (.aload_n 0, 1) := by decide +kernel
theorem dL_law_1219 : decode cL_law 1219 = .ok (.iload_n 3, 1) := by decide +kernel
theorem dL_law_1220 : decode cL_law 1220 = .ok (.iconst 1, 1) := by decide +kernel
theorem dL_law_1221 : decode cL_law 1221 = .ok (.iadd, 1) := by decide +kernel
theorem dL_law_1222 : decode cL_law 1222 = .ok (.iaload, 1) := by decide +kernel
theorem dL_law_1223 : decode cL_law 1223 = .ok (.aload_n 0, 1) := by decide +kernel
theorem dL_law_1224 : decode cL_law 1224 = .ok (.iload_n 3, 1) := by decide +kernel
theorem dL_law_1225 : decode cL_law 1225 = .ok (.iconst 2, 1) := by decide +kernel
theorem dL_law_1226 : decode cL_law 1226 = .ok (.iadd, 1) := by decide +kernel
theorem dL_law_1227 : decode cL_law 1227 = .ok (.iaload, 1) := by decide +kernel
theorem dL_law_1228 : decode cL_law 1228 = .ok (.aload_n 0, 1) := by decide +kernel
theorem dL_law_1229 : decode cL_law 1229 = .ok (.iload_n 3, 1) := by decide +kernel
theorem dL_law_1230 : decode cL_law 1230 = .ok (.iconst 3, 1) := by decide +kernel
theorem dL_law_1231 : decode cL_law 1231 = .ok (.iadd, 1) := by decide +kernel
theorem dL_law_1232 : decode cL_law 1232 = .ok (.iaload, 1) := by decide +kernel
theorem dL_law_1233 : decode cL_law 1233 = .ok (.invokevirtual 106, 3) := by decide +kernel
theorem dL_law_1236 : decode cL_law 1236 = .ok (.aload_n 2, 1) := by decide +kernel
theorem dL_law_1237 : decode cL_law 1237 = .ok (.aload_n 0, 1) := by decide +kernel
theorem dL_law_1238 : decode cL_law 1238 = .ok (.iload_n 3, 1) := by decide +kernel
theorem dL_law_1239 : decode cL_law 1239 = .ok (.iconst 1, 1) := by decide +kernel
theorem dL_law_1240 : decode cL_law 1240 = .ok (.iadd, 1) := by decide +kernel
theorem dL_law_1241 : decode cL_law 1241 = .ok (.iaload, 1) := by decide +kernel
theorem dL_law_1242 : decode cL_law 1242 = .ok (.aload_n 0, 1) := by decide +kernel
theorem dL_law_1243 : decode cL_law 1243 = .ok (.iload_n 3, 1) := by decide +kernel
theorem dL_law_1244 : decode cL_law 1244 = .ok (.iconst 2, 1) := by decide +kernel
theorem dL_law_1245 : decode cL_law 1245 = .ok (.iadd, 1) := by decide +kernel
theorem dL_law_1246 : decode cL_law 1246 = .ok (.iaload, 1) := by decide +kernel
theorem dL_law_1247 : decode cL_law 1247 = .ok (.aload_n 0, 1) := by decide +kernel
theorem dL_law_1248 : decode cL_law 1248 = .ok (.iload_n 3, 1) := by decide +kernel
theorem dL_law_1249 : decode cL_law 1249 = .ok (.iconst 3, 1) := by decide +kernel
theorem dL_law_1250 : decode cL_law 1250 = .ok (.iadd, 1) := by decide +kernel
theorem dL_law_1251 : decode cL_law 1251 = .ok (.iaload, 1) := by decide +kernel
theorem dL_law_1252 : decode cL_law 1252 = .ok (.invokevirtual 109, 3) := by decide +kernel
theorem dL_law_1255 : decode cL_law 1255 = .ok (.if_icmp .eq 784, 3) := by decide +kernel
theorem dL_law_1258 : decode cL_law 1258 = .ok (.iconst 0, 1) := by decide +kernel
theorem dL_law_1259 : decode cL_law 1259 = .ok (.ireturn, 1) := by decide +kernel
theorem dL_law_1260 : decode cL_law 1260 = .ok (.aload_n 1, 1) := by decide +kernel
theorem dL_law_1261 : decode cL_law 1261 = .ok (.aload_n 0, 1) := by decide +kernel
theorem dL_law_1262 : decode cL_law 1262 = .ok (.iload_n 3, 1) := by decide +kernel
theorem dL_law_1263 : decode cL_law 1263 = .ok (.iconst 1, 1) := by decide +kernel
theorem dL_law_1264 : decode cL_law 1264 = .ok (.iadd, 1) := by decide +kernel
theorem dL_law_1265 : decode cL_law 1265 = .ok (.iaload, 1) := by decide +kernel
theorem dL_law_1266 : decode cL_law 1266 = .ok (.invokevirtual 110, 3) := by decide +kernel
theorem dL_law_1269 : decode cL_law 1269 = .ok (.aload_n 2, 1) := by decide +kernel
theorem dL_law_1270 : decode cL_law 1270 = .ok (.aload_n 0, 1) := by decide +kernel
theorem dL_law_1271 : decode cL_law 1271 = .ok (.iload_n 3, 1) := by decide +kernel
theorem dL_law_1272 : decode cL_law 1272 = .ok (.iconst 1, 1) := by decide +kernel
theorem dL_law_1273 : decode cL_law 1273 = .ok (.iadd, 1) := by decide +kernel
theorem dL_law_1274 : decode cL_law 1274 = .ok (.iaload, 1) := by decide +kernel
theorem dL_law_1275 : decode cL_law 1275 = .ok (.invokevirtual 114, 3) := by decide +kernel
theorem dL_law_1278 : decode cL_law 1278 = .ok (.if_icmp .eq 761, 3) := by decide +kernel
theorem dL_law_1281 : decode cL_law 1281 = .ok (.iconst 0, 1) := by decide +kernel
theorem dL_law_1282 : decode cL_law 1282 = .ok (.ireturn, 1) := by decide +kernel
theorem dL_law_1283 : decode cL_law 1283 = .ok (.aload_n 1, 1) := by decide +kernel
theorem dL_law_1284 : decode cL_law 1284 = .ok (.aload_n 0, 1) := by decide +kernel
theorem dL_law_1285 : decode cL_law 1285 = .ok (.iload_n 3, 1) := by decide +kernel
theorem dL_law_1286 : decode cL_law 1286 = .ok (.iconst 1, 1) := by decide +kernel
theorem dL_law_1287 : decode cL_law 1287 = .ok (.iadd, 1) := by decide +kernel
theorem dL_law_1288 : decode cL_law 1288 = .ok (.iaload, 1) := by decide +kernel
theorem dL_law_1289 : decode cL_law 1289 = .ok (.aload_n 0, 1) := by decide +kernel
theorem dL_law_1290 : decode cL_law 1290 = .ok (.iload_n 3, 1) := by decide +kernel
theorem dL_law_1291 : decode cL_law 1291 = .ok (.iconst 2, 1) := by decide +kernel
theorem dL_law_1292 : decode cL_law 1292 = .ok (.iadd, 1) := by decide +kernel
theorem dL_law_1293 : decode cL_law 1293 = .ok (.iaload, 1) := by decide +kernel
theorem dL_law_1294 : decode cL_law 1294 = .ok (.aload_n 0, 1) := by decide +kernel
theorem dL_law_1295 : decode cL_law 1295 = .ok (.iload_n 3, 1) := by decide +kernel
theorem dL_law_1296 : decode cL_law 1296 = .ok (.iconst 3, 1) := by decide +kernel
theorem dL_law_1297 : decode cL_law 1297 = .ok (.iadd, 1) := by decide +kernel
theorem dL_law_1298 : decode cL_law 1298 = .ok (.iaload, 1) := by decide +kernel
theorem dL_law_1299 : decode cL_law 1299 = .ok (.aload_n 0, 1) := by decide +kernel
theorem dL_law_1300 : decode cL_law 1300 = .ok (.iload_n 3, 1) := by decide +kernel
theorem dL_law_1301 : decode cL_law 1301 = .ok (.iconst 4, 1) := by decide +kernel
theorem dL_law_1302 : decode cL_law 1302 = .ok (.iadd, 1) := by decide +kernel
theorem dL_law_1303 : decode cL_law 1303 = .ok (.iaload, 1) := by decide +kernel
theorem dL_law_1304 : decode cL_law 1304 = .ok (.ifCond .eq 7, 3) := by decide +kernel
theorem dL_law_1307 : decode cL_law 1307 = .ok (.iconst 1, 1) := by decide +kernel
theorem dL_law_1308 : decode cL_law 1308 = .ok (.goto 4, 3) := by decide +kernel
theorem dL_law_1311 : decode cL_law 1311 = .ok (.iconst 0, 1) := by decide +kernel
theorem dL_law_1312 : decode cL_law 1312 = .ok (.aload_n 0, 1) := by decide +kernel
theorem dL_law_1313 : decode cL_law 1313 = .ok (.iload_n 3, 1) := by decide +kernel
theorem dL_law_1314 : decode cL_law 1314 = .ok (.iconst 5, 1) := by decide +kernel
theorem dL_law_1315 : decode cL_law 1315 = .ok (.iadd, 1) := by decide +kernel
theorem dL_law_1316 : decode cL_law 1316 = .ok (.iaload, 1) := by decide +kernel
theorem dL_law_1317 : decode cL_law 1317 = .ok (.invokevirtual 115, 3) := by decide +kernel
theorem dL_law_1320 : decode cL_law 1320 = .ok (.aload_n 2, 1) := by decide +kernel
theorem dL_law_1321 : decode cL_law 1321 = .ok (.aload_n 0, 1) := by decide +kernel
theorem dL_law_1322 : decode cL_law 1322 = .ok (.iload_n 3, 1) := by decide +kernel
theorem dL_law_1323 : decode cL_law 1323 = .ok (.iconst 1, 1) := by decide +kernel
theorem dL_law_1324 : decode cL_law 1324 = .ok (.iadd, 1) := by decide +kernel
theorem dL_law_1325 : decode cL_law 1325 = .ok (.iaload, 1) := by decide +kernel
theorem dL_law_1326 : decode cL_law 1326 = .ok (.aload_n 0, 1) := by decide +kernel
theorem dL_law_1327 : decode cL_law 1327 = .ok (.iload_n 3, 1) := by decide +kernel
theorem dL_law_1328 : decode cL_law 1328 = .ok (.iconst 2, 1) := by decide +kernel
theorem dL_law_1329 : decode cL_law 1329 = .ok (.iadd, 1) := by decide +kernel
theorem dL_law_1330 : decode cL_law 1330 = .ok (.iaload, 1) := by decide +kernel
theorem dL_law_1331 : decode cL_law 1331 = .ok (.aload_n 0, 1) := by decide +kernel
theorem dL_law_1332 : decode cL_law 1332 = .ok (.iload_n 3, 1) := by decide +kernel
theorem dL_law_1333 : decode cL_law 1333 = .ok (.iconst 3, 1) := by decide +kernel
theorem dL_law_1334 : decode cL_law 1334 = .ok (.iadd, 1) := by decide +kernel
theorem dL_law_1335 : decode cL_law 1335 = .ok (.iaload, 1) := by decide +kernel
theorem dL_law_1336 : decode cL_law 1336 = .ok (.aload_n 0, 1) := by decide +kernel
theorem dL_law_1337 : decode cL_law 1337 = .ok (.iload_n 3, 1) := by decide +kernel
theorem dL_law_1338 : decode cL_law 1338 = .ok (.iconst 4, 1) := by decide +kernel
theorem dL_law_1339 : decode cL_law 1339 = .ok (.iadd, 1) := by decide +kernel
theorem dL_law_1340 : decode cL_law 1340 = .ok (.iaload, 1) := by decide +kernel
theorem dL_law_1341 : decode cL_law 1341 = .ok (.ifCond .eq 7, 3) := by decide +kernel
theorem dL_law_1344 : decode cL_law 1344 = .ok (.iconst 1, 1) := by decide +kernel
theorem dL_law_1345 : decode cL_law 1345 = .ok (.goto 4, 3) := by decide +kernel
theorem dL_law_1348 : decode cL_law 1348 = .ok (.iconst 0, 1) := by decide +kernel
theorem dL_law_1349 : decode cL_law 1349 = .ok (.aload_n 0, 1) := by decide +kernel
theorem dL_law_1350 : decode cL_law 1350 = .ok (.iload_n 3, 1) := by decide +kernel
theorem dL_law_1351 : decode cL_law 1351 = .ok (.iconst 5, 1) := by decide +kernel
theorem dL_law_1352 : decode cL_law 1352 = .ok (.iadd, 1) := by decide +kernel
theorem dL_law_1353 : decode cL_law 1353 = .ok (.iaload, 1) := by decide +kernel
theorem dL_law_1354 : decode cL_law 1354 = .ok (.invokevirtual 119, 3) := by decide +kernel
theorem dL_law_1357 : decode cL_law 1357 = .ok (.if_icmp .eq 682, 3) := by decide +kernel
theorem dL_law_1360 : decode cL_law 1360 = .ok (.iconst 0, 1) := by decide +kernel
theorem dL_law_1361 : decode cL_law 1361 = .ok (.ireturn, 1) := by decide +kernel
theorem dL_law_1362 : decode cL_law 1362 = .ok (.aload_n 1, 1) := by decide +kernel
theorem dL_law_1363 : decode cL_law 1363 = .ok (.aload_n 0, 1) := by decide +kernel
theorem dL_law_1364 : decode cL_law 1364 = .ok (.iload_n 3, 1) := by decide +kernel
theorem dL_law_1365 : decode cL_law 1365 = .ok (.iconst 1, 1) := by decide +kernel
theorem dL_law_1366 : decode cL_law 1366 = .ok (.iadd, 1) := by decide +kernel
theorem dL_law_1367 : decode cL_law 1367 = .ok (.iaload, 1) := by decide +kernel
theorem dL_law_1368 : decode cL_law 1368 = .ok (.aload_n 0, 1) := by decide +kernel
theorem dL_law_1369 : decode cL_law 1369 = .ok (.iload_n 3, 1) := by decide +kernel
theorem dL_law_1370 : decode cL_law 1370 = .ok (.iconst 2, 1) := by decide +kernel
theorem dL_law_1371 : decode cL_law 1371 = .ok (.iadd, 1) := by decide +kernel
theorem dL_law_1372 : decode cL_law 1372 = .ok (.iaload, 1) := by decide +kernel
theorem dL_law_1373 : decode cL_law 1373 = .ok (.aload_n 0, 1) := by decide +kernel
theorem dL_law_1374 : decode cL_law 1374 = .ok (.iload_n 3, 1) := by decide +kernel
theorem dL_law_1375 : decode cL_law 1375 = .ok (.iconst 3, 1) := by decide +kernel
theorem dL_law_1376 : decode cL_law 1376 = .ok (.iadd, 1) := by decide +kernel
theorem dL_law_1377 : decode cL_law 1377 = .ok (.iaload, 1) := by decide +kernel
theorem dL_law_1378 : decode cL_law 1378 = .ok (.invokevirtual 120, 3) := by decide +kernel
theorem dL_law_1381 : decode cL_law 1381 = .ok (.aload_n 2, 1) := by decide +kernel
theorem dL_law_1382 : decode cL_law 1382 = .ok (.aload_n 0, 1) := by decide +kernel
theorem dL_law_1383 : decode cL_law 1383 = .ok (.iload_n 3, 1) := by decide +kernel
theorem dL_law_1384 : decode cL_law 1384 = .ok (.iconst 1, 1) := by decide +kernel
theorem dL_law_1385 : decode cL_law 1385 = .ok (.iadd, 1) := by decide +kernel
theorem dL_law_1386 : decode cL_law 1386 = .ok (.iaload, 1) := by decide +kernel
theorem dL_law_1387 : decode cL_law 1387 = .ok (.aload_n 0, 1) := by decide +kernel
theorem dL_law_1388 : decode cL_law 1388 = .ok (.iload_n 3, 1) := by decide +kernel
theorem dL_law_1389 : decode cL_law 1389 = .ok (.iconst 2, 1) := by decide +kernel
theorem dL_law_1390 : decode cL_law 1390 = .ok (.iadd, 1) := by decide +kernel
theorem dL_law_1391 : decode cL_law 1391 = .ok (.iaload, 1) := by decide +kernel
theorem dL_law_1392 : decode cL_law 1392 = .ok (.aload_n 0, 1) := by decide +kernel
theorem dL_law_1393 : decode cL_law 1393 = .ok (.iload_n 3, 1) := by decide +kernel
theorem dL_law_1394 : decode cL_law 1394 = .ok (.iconst 3, 1) := by decide +kernel
theorem dL_law_1395 : decode cL_law 1395 = .ok (.iadd, 1) := by decide +kernel
theorem dL_law_1396 : decode cL_law 1396 = .ok (.iaload, 1) := by decide +kernel
theorem dL_law_1397 : decode cL_law 1397 = .ok (.invokevirtual 123, 3) := by decide +kernel
theorem dL_law_1400 : decode cL_law 1400 = .ok (.if_icmp .eq 639, 3) := by decide +kernel
theorem dL_law_1403 : decode cL_law 1403 = .ok (.iconst 0, 1) := by decide +kernel
theorem dL_law_1404 : decode cL_law 1404 = .ok (.ireturn, 1) := by decide +kernel
theorem dL_law_1405 : decode cL_law 1405 = .ok (.aload_n 1, 1) := by decide +kernel
theorem dL_law_1406 : decode cL_law 1406 = .ok (.aload_n 0, 1) := by decide +kernel
theorem dL_law_1407 : decode cL_law 1407 = .ok (.iload_n 3, 1) := by decide +kernel
theorem dL_law_1408 : decode cL_law 1408 = .ok (.iconst 1, 1) := by decide +kernel
theorem dL_law_1409 : decode cL_law 1409 = .ok (.iadd, 1) := by decide +kernel
theorem dL_law_1410 : decode cL_law 1410 = .ok (.iaload, 1) := by decide +kernel
theorem dL_law_1411 : decode cL_law 1411 = .ok (.aload_n 0, 1) := by decide +kernel
theorem dL_law_1412 : decode cL_law 1412 = .ok (.iload_n 3, 1) := by decide +kernel
theorem dL_law_1413 : decode cL_law 1413 = .ok (.iconst 2, 1) := by decide +kernel
theorem dL_law_1414 : decode cL_law 1414 = .ok (.iadd, 1) := by decide +kernel
theorem dL_law_1415 : decode cL_law 1415 = .ok (.iaload, 1) := by decide +kernel
theorem dL_law_1416 : decode cL_law 1416 = .ok (.aload_n 0, 1) := by decide +kernel
theorem dL_law_1417 : decode cL_law 1417 = .ok (.iload_n 3, 1) := by decide +kernel
theorem dL_law_1418 : decode cL_law 1418 = .ok (.iconst 3, 1) := by decide +kernel
theorem dL_law_1419 : decode cL_law 1419 = .ok (.iadd, 1) := by decide +kernel
theorem dL_law_1420 : decode cL_law 1420 = .ok (.iaload, 1) := by decide +kernel
theorem dL_law_1421 : decode cL_law 1421 = .ok (.aload_n 0, 1) := by decide +kernel
theorem dL_law_1422 : decode cL_law 1422 = .ok (.iload_n 3, 1) := by decide +kernel
theorem dL_law_1423 : decode cL_law 1423 = .ok (.iconst 4, 1) := by decide +kernel
theorem dL_law_1424 : decode cL_law 1424 = .ok (.iadd, 1) := by decide +kernel
theorem dL_law_1425 : decode cL_law 1425 = .ok (.iaload, 1) := by decide +kernel
theorem dL_law_1426 : decode cL_law 1426 = .ok (.ifCond .eq 7, 3) := by decide +kernel
theorem dL_law_1429 : decode cL_law 1429 = .ok (.iconst 1, 1) := by decide +kernel
theorem dL_law_1430 : decode cL_law 1430 = .ok (.goto 4, 3) := by decide +kernel
theorem dL_law_1433 : decode cL_law 1433 = .ok (.iconst 0, 1) := by decide +kernel
theorem dL_law_1434 : decode cL_law 1434 = .ok (.invokevirtual 124, 3) := by decide +kernel
theorem dL_law_1437 : decode cL_law 1437 = .ok (.aload_n 2, 1) := by decide +kernel
theorem dL_law_1438 : decode cL_law 1438 = .ok (.aload_n 0, 1) := by decide +kernel
theorem dL_law_1439 : decode cL_law 1439 = .ok (.iload_n 3, 1) := by decide +kernel
theorem dL_law_1440 : decode cL_law 1440 = .ok (.iconst 1, 1) := by decide +kernel
theorem dL_law_1441 : decode cL_law 1441 = .ok (.iadd, 1) := by decide +kernel
theorem dL_law_1442 : decode cL_law 1442 = .ok (.iaload, 1) := by decide +kernel
theorem dL_law_1443 : decode cL_law 1443 = .ok (.aload_n 0, 1) := by decide +kernel
theorem dL_law_1444 : decode cL_law 1444 = .ok (.iload_n 3, 1) := by decide +kernel
theorem dL_law_1445 : decode cL_law 1445 = .ok (.iconst 2, 1) := by decide +kernel
theorem dL_law_1446 : decode cL_law 1446 = .ok (.iadd, 1) := by decide +kernel
theorem dL_law_1447 : decode cL_law 1447 = .ok (.iaload, 1) := by decide +kernel
theorem dL_law_1448 : decode cL_law 1448 = .ok (.aload_n 0, 1) := by decide +kernel
theorem dL_law_1449 : decode cL_law 1449 = .ok (.iload_n 3, 1) := by decide +kernel
theorem dL_law_1450 : decode cL_law 1450 = .ok (.iconst 3, 1) := by decide +kernel
theorem dL_law_1451 : decode cL_law 1451 = .ok (.iadd, 1) := by decide +kernel
theorem dL_law_1452 : decode cL_law 1452 = .ok (.iaload, 1) := by decide +kernel
theorem dL_law_1453 : decode cL_law 1453 = .ok (.aload_n 0, 1) := by decide +kernel
theorem dL_law_1454 : decode cL_law 1454 = .ok (.iload_n 3, 1) := by decide +kernel
theorem dL_law_1455 : decode cL_law 1455 = .ok (.iconst 4, 1) := by decide +kernel
theorem dL_law_1456 : decode cL_law 1456 = .ok (.iadd, 1) := by decide +kernel
theorem dL_law_1457 : decode cL_law 1457 = .ok (.iaload, 1) := by decide +kernel
theorem dL_law_1458 : decode cL_law 1458 = .ok (.ifCond .eq 7, 3) := by decide +kernel
theorem dL_law_1461 : decode cL_law 1461 = .ok (.iconst 1, 1) := by decide +kernel
theorem dL_law_1462 : decode cL_law 1462 = .ok (.goto 4, 3) := by decide +kernel
theorem dL_law_1465 : decode cL_law 1465 = .ok (.iconst 0, 1) := by decide +kernel
theorem dL_law_1466 : decode cL_law 1466 = .ok (.invokevirtual 128, 3) := by decide +kernel
theorem dL_law_1469 : decode cL_law 1469 = .ok (.if_icmp .eq 570, 3) := by decide +kernel
theorem dL_law_1472 : decode cL_law 1472 = .ok (.iconst 0, 1) := by decide +kernel
theorem dL_law_1473 : decode cL_law 1473 = .ok (.ireturn, 1) := by decide +kernel
theorem dL_law_1474 : decode cL_law 1474 = .ok (.aload_n 1, 1) := by decide +kernel
theorem dL_law_1475 : decode cL_law 1475 = .ok (.aload_n 0, 1) := by decide +kernel
theorem dL_law_1476 : decode cL_law 1476 = .ok (.iload_n 3, 1) := by decide +kernel
theorem dL_law_1477 : decode cL_law 1477 = .ok (.iconst 1, 1) := by decide +kernel
theorem dL_law_1478 : decode cL_law 1478 = .ok (.iadd, 1) := by decide +kernel
theorem dL_law_1479 : decode cL_law 1479 = .ok (.iaload, 1) := by decide +kernel
theorem dL_law_1480 : decode cL_law 1480 = .ok (.aload_n 0, 1) := by decide +kernel
theorem dL_law_1481 : decode cL_law 1481 = .ok (.iload_n 3, 1) := by decide +kernel
theorem dL_law_1482 : decode cL_law 1482 = .ok (.iconst 2, 1) := by decide +kernel
theorem dL_law_1483 : decode cL_law 1483 = .ok (.iadd, 1) := by decide +kernel
theorem dL_law_1484 : decode cL_law 1484 = .ok (.iaload, 1) := by decide +kernel
theorem dL_law_1485 : decode cL_law 1485 = .ok (.aload_n 0, 1) := by decide +kernel
theorem dL_law_1486 : decode cL_law 1486 = .ok (.iload_n 3, 1) := by decide +kernel
theorem dL_law_1487 : decode cL_law 1487 = .ok (.iconst 3, 1) := by decide +kernel
theorem dL_law_1488 : decode cL_law 1488 = .ok (.iadd, 1) := by decide +kernel
theorem dL_law_1489 : decode cL_law 1489 = .ok (.iaload, 1) := by decide +kernel
theorem dL_law_1490 : decode cL_law 1490 = .ok (.invokevirtual 129, 3) := by decide +kernel
theorem dL_law_1493 : decode cL_law 1493 = .ok (.aload_n 2, 1) := by decide +kernel
theorem dL_law_1494 : decode cL_law 1494 = .ok (.aload_n 0, 1) := by decide +kernel
theorem dL_law_1495 : decode cL_law 1495 = .ok (.iload_n 3, 1) := by decide +kernel
theorem dL_law_1496 : decode cL_law 1496 = .ok (.iconst 1, 1) := by decide +kernel
theorem dL_law_1497 : decode cL_law 1497 = .ok (.iadd, 1) := by decide +kernel
theorem dL_law_1498 : decode cL_law 1498 = .ok (.iaload, 1) := by decide +kernel
theorem dL_law_1499 : decode cL_law 1499 = .ok (.aload_n 0, 1) := by decide +kernel
theorem dL_law_1500 : decode cL_law 1500 = .ok (.iload_n 3, 1) := by decide +kernel
theorem dL_law_1501 : decode cL_law 1501 = .ok (.iconst 2, 1) := by decide +kernel
theorem dL_law_1502 : decode cL_law 1502 = .ok (.iadd, 1) := by decide +kernel
theorem dL_law_1503 : decode cL_law 1503 = .ok (.iaload, 1) := by decide +kernel
theorem dL_law_1504 : decode cL_law 1504 = .ok (.aload_n 0, 1) := by decide +kernel
theorem dL_law_1505 : decode cL_law 1505 = .ok (.iload_n 3, 1) := by decide +kernel
theorem dL_law_1506 : decode cL_law 1506 = .ok (.iconst 3, 1) := by decide +kernel
theorem dL_law_1507 : decode cL_law 1507 = .ok (.iadd, 1) := by decide +kernel
theorem dL_law_1508 : decode cL_law 1508 = .ok (.iaload, 1) := by decide +kernel
theorem dL_law_1509 : decode cL_law 1509 = .ok (.invokevirtual 132, 3) := by decide +kernel
theorem dL_law_1512 : decode cL_law 1512 = .ok (.if_icmp .eq 527, 3) := by decide +kernel
theorem dL_law_1515 : decode cL_law 1515 = .ok (.iconst 0, 1) := by decide +kernel
theorem dL_law_1516 : decode cL_law 1516 = .ok (.ireturn, 1) := by decide +kernel
theorem dL_law_1517 : decode cL_law 1517 = .ok (.aload_n 1, 1) := by decide +kernel
theorem dL_law_1518 : decode cL_law 1518 = .ok (.aload_n 0, 1) := by decide +kernel
theorem dL_law_1519 : decode cL_law 1519 = .ok (.iload_n 3, 1) := by decide +kernel
theorem dL_law_1520 : decode cL_law 1520 = .ok (.iconst 1, 1) := by decide +kernel
theorem dL_law_1521 : decode cL_law 1521 = .ok (.iadd, 1) := by decide +kernel
theorem dL_law_1522 : decode cL_law 1522 = .ok (.iaload, 1) := by decide +kernel
theorem dL_law_1523 : decode cL_law 1523 = .ok (.aload_n 0, 1) := by decide +kernel
theorem dL_law_1524 : decode cL_law 1524 = .ok (.iload_n 3, 1) := by decide +kernel
theorem dL_law_1525 : decode cL_law 1525 = .ok (.iconst 2, 1) := by decide +kernel
theorem dL_law_1526 : decode cL_law 1526 = .ok (.iadd, 1) := by decide +kernel
theorem dL_law_1527 : decode cL_law 1527 = .ok (.iaload, 1) := by decide +kernel
theorem dL_law_1528 : decode cL_law 1528 = .ok (.aload_n 0, 1) := by decide +kernel
theorem dL_law_1529 : decode cL_law 1529 = .ok (.iload_n 3, 1) := by decide +kernel
theorem dL_law_1530 : decode cL_law 1530 = .ok (.iconst 3, 1) := by decide +kernel
theorem dL_law_1531 : decode cL_law 1531 = .ok (.iadd, 1) := by decide +kernel
theorem dL_law_1532 : decode cL_law 1532 = .ok (.iaload, 1) := by decide +kernel
theorem dL_law_1533 : decode cL_law 1533 = .ok (.invokevirtual 133, 3) := by decide +kernel
theorem dL_law_1536 : decode cL_law 1536 = .ok (.aload_n 2, 1) := by decide +kernel
theorem dL_law_1537 : decode cL_law 1537 = .ok (.aload_n 0, 1) := by decide +kernel
theorem dL_law_1538 : decode cL_law 1538 = .ok (.iload_n 3, 1) := by decide +kernel
theorem dL_law_1539 : decode cL_law 1539 = .ok (.iconst 1, 1) := by decide +kernel
theorem dL_law_1540 : decode cL_law 1540 = .ok (.iadd, 1) := by decide +kernel
theorem dL_law_1541 : decode cL_law 1541 = .ok (.iaload, 1) := by decide +kernel
theorem dL_law_1542 : decode cL_law 1542 = .ok (.aload_n 0, 1) := by decide +kernel
theorem dL_law_1543 : decode cL_law 1543 = .ok (.iload_n 3, 1) := by decide +kernel
theorem dL_law_1544 : decode cL_law 1544 = .ok (.iconst 2, 1) := by decide +kernel
theorem dL_law_1545 : decode cL_law 1545 = .ok (.iadd, 1) := by decide +kernel
theorem dL_law_1546 : decode cL_law 1546 = .ok (.iaload, 1) := by decide +kernel
theorem dL_law_1547 : decode cL_law 1547 = .ok (.aload_n 0, 1) := by decide +kernel
theorem dL_law_1548 : decode cL_law 1548 = .ok (.iload_n 3, 1) := by decide +kernel
theorem dL_law_1549 : decode cL_law 1549 = .ok (.iconst 3, 1) := by decide +kernel
theorem dL_law_1550 : decode cL_law 1550 = .ok (.iadd, 1) := by decide +kernel
theorem dL_law_1551 : decode cL_law 1551 = .ok (.iaload, 1) := by decide +kernel
theorem dL_law_1552 : decode cL_law 1552 = .ok (.invokevirtual 136, 3) := by decide +kernel
theorem dL_law_1555 : decode cL_law 1555 = .ok (.if_icmp .eq 484, 3) := by decide +kernel
theorem dL_law_1558 : decode cL_law 1558 = .ok (.iconst 0, 1) := by decide +kernel
theorem dL_law_1559 : decode cL_law 1559 = .ok (.ireturn, 1) := by decide +kernel
theorem dL_law_1560 : decode cL_law 1560 = .ok (.aload_n 1, 1) := by decide +kernel
theorem dL_law_1561 : decode cL_law 1561 = .ok (.aload_n 0, 1) := by decide +kernel
theorem dL_law_1562 : decode cL_law 1562 = .ok (.iload_n 3, 1) := by decide +kernel
theorem dL_law_1563 : decode cL_law 1563 = .ok (.iconst 1, 1) := by decide +kernel
theorem dL_law_1564 : decode cL_law 1564 = .ok (.iadd, 1) := by decide +kernel
theorem dL_law_1565 : decode cL_law 1565 = .ok (.iaload, 1) := by decide +kernel
theorem dL_law_1566 : decode cL_law 1566 = .ok (.aload_n 0, 1) := by decide +kernel
theorem dL_law_1567 : decode cL_law 1567 = .ok (.iload_n 3, 1) := by decide +kernel
theorem dL_law_1568 : decode cL_law 1568 = .ok (.iconst 2, 1) := by decide +kernel
theorem dL_law_1569 : decode cL_law 1569 = .ok (.iadd, 1) := by decide +kernel
theorem dL_law_1570 : decode cL_law 1570 = .ok (.iaload, 1) := by decide +kernel
theorem dL_law_1571 : decode cL_law 1571 = .ok (.aload_n 0, 1) := by decide +kernel
theorem dL_law_1572 : decode cL_law 1572 = .ok (.iload_n 3, 1) := by decide +kernel
theorem dL_law_1573 : decode cL_law 1573 = .ok (.iconst 3, 1) := by decide +kernel
theorem dL_law_1574 : decode cL_law 1574 = .ok (.iadd, 1) := by decide +kernel
theorem dL_law_1575 : decode cL_law 1575 = .ok (.iaload, 1) := by decide +kernel
theorem dL_law_1576 : decode cL_law 1576 = .ok (.aload_n 0, 1) := by decide +kernel
theorem dL_law_1577 : decode cL_law 1577 = .ok (.iload_n 3, 1) := by decide +kernel
theorem dL_law_1578 : decode cL_law 1578 = .ok (.iconst 4, 1) := by decide +kernel
theorem dL_law_1579 : decode cL_law 1579 = .ok (.iadd, 1) := by decide +kernel
theorem dL_law_1580 : decode cL_law 1580 = .ok (.iaload, 1) := by decide +kernel
theorem dL_law_1581 : decode cL_law 1581 = .ok (.invokevirtual 137, 3) := by decide +kernel
theorem dL_law_1584 : decode cL_law 1584 = .ok (.aload_n 2, 1) := by decide +kernel
theorem dL_law_1585 : decode cL_law 1585 = .ok (.aload_n 0, 1) := by decide +kernel
theorem dL_law_1586 : decode cL_law 1586 = .ok (.iload_n 3, 1) := by decide +kernel
theorem dL_law_1587 : decode cL_law 1587 = .ok (.iconst 1, 1) := by decide +kernel
theorem dL_law_1588 : decode cL_law 1588 = .ok (.iadd, 1) := by decide +kernel
theorem dL_law_1589 : decode cL_law 1589 = .ok (.iaload, 1) := by decide +kernel
theorem dL_law_1590 : decode cL_law 1590 = .ok (.aload_n 0, 1) := by decide +kernel
theorem dL_law_1591 : decode cL_law 1591 = .ok (.iload_n 3, 1) := by decide +kernel
theorem dL_law_1592 : decode cL_law 1592 = .ok (.iconst 2, 1) := by decide +kernel
theorem dL_law_1593 : decode cL_law 1593 = .ok (.iadd, 1) := by decide +kernel
theorem dL_law_1594 : decode cL_law 1594 = .ok (.iaload, 1) := by decide +kernel
theorem dL_law_1595 : decode cL_law 1595 = .ok (.aload_n 0, 1) := by decide +kernel
theorem dL_law_1596 : decode cL_law 1596 = .ok (.iload_n 3, 1) := by decide +kernel
theorem dL_law_1597 : decode cL_law 1597 = .ok (.iconst 3, 1) := by decide +kernel
theorem dL_law_1598 : decode cL_law 1598 = .ok (.iadd, 1) := by decide +kernel
theorem dL_law_1599 : decode cL_law 1599 = .ok (.iaload, 1) := by decide +kernel
theorem dL_law_1600 : decode cL_law 1600 = .ok (.aload_n 0, 1) := by decide +kernel
theorem dL_law_1601 : decode cL_law 1601 = .ok (.iload_n 3, 1) := by decide +kernel
theorem dL_law_1602 : decode cL_law 1602 = .ok (.iconst 4, 1) := by decide +kernel
theorem dL_law_1603 : decode cL_law 1603 = .ok (.iadd, 1) := by decide +kernel
theorem dL_law_1604 : decode cL_law 1604 = .ok (.iaload, 1) := by decide +kernel
theorem dL_law_1605 : decode cL_law 1605 = .ok (.invokevirtual 140, 3) := by decide +kernel
theorem dL_law_1608 : decode cL_law 1608 = .ok (.if_icmp .eq 431, 3) := by decide +kernel
theorem dL_law_1611 : decode cL_law 1611 = .ok (.iconst 0, 1) := by decide +kernel
theorem dL_law_1612 : decode cL_law 1612 = .ok (.ireturn, 1) := by decide +kernel
theorem dL_law_1613 : decode cL_law 1613 = .ok (.aload_n 1, 1) := by decide +kernel
theorem dL_law_1614 : decode cL_law 1614 = .ok (.aload_n 0, 1) := by decide +kernel
theorem dL_law_1615 : decode cL_law 1615 = .ok (.iload_n 3, 1) := by decide +kernel
theorem dL_law_1616 : decode cL_law 1616 = .ok (.iconst 1, 1) := by decide +kernel
theorem dL_law_1617 : decode cL_law 1617 = .ok (.iadd, 1) := by decide +kernel
theorem dL_law_1618 : decode cL_law 1618 = .ok (.iaload, 1) := by decide +kernel
theorem dL_law_1619 : decode cL_law 1619 = .ok (.aload_n 0, 1) := by decide +kernel
theorem dL_law_1620 : decode cL_law 1620 = .ok (.iload_n 3, 1) := by decide +kernel
theorem dL_law_1621 : decode cL_law 1621 = .ok (.iconst 2, 1) := by decide +kernel
theorem dL_law_1622 : decode cL_law 1622 = .ok (.iadd, 1) := by decide +kernel
theorem dL_law_1623 : decode cL_law 1623 = .ok (.iaload, 1) := by decide +kernel
theorem dL_law_1624 : decode cL_law 1624 = .ok (.aload_n 0, 1) := by decide +kernel
theorem dL_law_1625 : decode cL_law 1625 = .ok (.iload_n 3, 1) := by decide +kernel
theorem dL_law_1626 : decode cL_law 1626 = .ok (.iconst 3, 1) := by decide +kernel
theorem dL_law_1627 : decode cL_law 1627 = .ok (.iadd, 1) := by decide +kernel
theorem dL_law_1628 : decode cL_law 1628 = .ok (.iaload, 1) := by decide +kernel
theorem dL_law_1629 : decode cL_law 1629 = .ok (.invokevirtual 141, 3) := by decide +kernel
theorem dL_law_1632 : decode cL_law 1632 = .ok (.aload_n 2, 1) := by decide +kernel
theorem dL_law_1633 : decode cL_law 1633 = .ok (.aload_n 0, 1) := by decide +kernel
theorem dL_law_1634 : decode cL_law 1634 = .ok (.iload_n 3, 1) := by decide +kernel
theorem dL_law_1635 : decode cL_law 1635 = .ok (.iconst 1, 1) := by decide +kernel
theorem dL_law_1636 : decode cL_law 1636 = .ok (.iadd, 1) := by decide +kernel
theorem dL_law_1637 : decode cL_law 1637 = .ok (.iaload, 1) := by decide +kernel
theorem dL_law_1638 : decode cL_law 1638 = .ok (.aload_n 0, 1) := by decide +kernel
theorem dL_law_1639 : decode cL_law 1639 = .ok (.iload_n 3, 1) := by decide +kernel
theorem dL_law_1640 : decode cL_law 1640 = .ok (.iconst 2, 1) := by decide +kernel
theorem dL_law_1641 : decode cL_law 1641 = .ok (.iadd, 1) := by decide +kernel
theorem dL_law_1642 : decode cL_law 1642 = .ok (.iaload, 1) := by decide +kernel
theorem dL_law_1643 : decode cL_law 1643 = .ok (.aload_n 0, 1) := by decide +kernel
theorem dL_law_1644 : decode cL_law 1644 = .ok (.iload_n 3, 1) := by decide +kernel
theorem dL_law_1645 : decode cL_law 1645 = .ok (.iconst 3, 1) := by decide +kernel
theorem dL_law_1646 : decode cL_law 1646 = .ok (.iadd, 1) := by decide +kernel
theorem dL_law_1647 : decode cL_law 1647 = .ok (.iaload, 1) := by decide +kernel
theorem dL_law_1648 : decode cL_law 1648 = .ok (.invokevirtual 144, 3) := by decide +kernel
theorem dL_law_1651 : decode cL_law 1651 = .ok (.if_icmp .eq 388, 3) := by decide +kernel
theorem dL_law_1654 : decode cL_law 1654 = .ok (.iconst 0, 1) := by decide +kernel
theorem dL_law_1655 : decode cL_law 1655 = .ok (.ireturn, 1) := by decide +kernel
theorem dL_law_1656 : decode cL_law 1656 = .ok (.aload_n 1, 1) := by decide +kernel
theorem dL_law_1657 : decode cL_law 1657 = .ok (.aload_n 0, 1) := by decide +kernel
theorem dL_law_1658 : decode cL_law 1658 = .ok (.iload_n 3, 1) := by decide +kernel
theorem dL_law_1659 : decode cL_law 1659 = .ok (.iconst 1, 1) := by decide +kernel
theorem dL_law_1660 : decode cL_law 1660 = .ok (.iadd, 1) := by decide +kernel
theorem dL_law_1661 : decode cL_law 1661 = .ok (.iaload, 1) := by decide +kernel
theorem dL_law_1662 : decode cL_law 1662 = .ok (.aload_n 0, 1) := by decide +kernel
theorem dL_law_1663 : decode cL_law 1663 = .ok (.iload_n 3, 1) := by decide +kernel
theorem dL_law_1664 : decode cL_law 1664 = .ok (.iconst 2, 1) := by decide +kernel
theorem dL_law_1665 : decode cL_law 1665 = .ok (.iadd, 1) := by decide +kernel
theorem dL_law_1666 : decode cL_law 1666 = .ok (.iaload, 1) := by decide +kernel
theorem dL_law_1667 : decode cL_law 1667 = .ok (.aload_n 0, 1) := by decide +kernel
theorem dL_law_1668 : decode cL_law 1668 = .ok (.iload_n 3, 1) := by decide +kernel
theorem dL_law_1669 : decode cL_law 1669 = .ok (.iconst 3, 1) := by decide +kernel
theorem dL_law_1670 : decode cL_law 1670 = .ok (.iadd, 1) := by decide +kernel
theorem dL_law_1671 : decode cL_law 1671 = .ok (.iaload, 1) := by decide +kernel
theorem dL_law_1672 : decode cL_law 1672 = .ok (.aload_n 0, 1) := by decide +kernel
theorem dL_law_1673 : decode cL_law 1673 = .ok (.iload_n 3, 1) := by decide +kernel
theorem dL_law_1674 : decode cL_law 1674 = .ok (.iconst 4, 1) := by decide +kernel
theorem dL_law_1675 : decode cL_law 1675 = .ok (.iadd, 1) := by decide +kernel
theorem dL_law_1676 : decode cL_law 1676 = .ok (.iaload, 1) := by decide +kernel
theorem dL_law_1677 : decode cL_law 1677 = .ok (.invokevirtual 145, 3) := by decide +kernel
theorem dL_law_1680 : decode cL_law 1680 = .ok (.aload_n 2, 1) := by decide +kernel
theorem dL_law_1681 : decode cL_law 1681 = .ok (.aload_n 0, 1) := by decide +kernel
theorem dL_law_1682 : decode cL_law 1682 = .ok (.iload_n 3, 1) := by decide +kernel
theorem dL_law_1683 : decode cL_law 1683 = .ok (.iconst 1, 1) := by decide +kernel
theorem dL_law_1684 : decode cL_law 1684 = .ok (.iadd, 1) := by decide +kernel
theorem dL_law_1685 : decode cL_law 1685 = .ok (.iaload, 1) := by decide +kernel
theorem dL_law_1686 : decode cL_law 1686 = .ok (.aload_n 0, 1) := by decide +kernel
theorem dL_law_1687 : decode cL_law 1687 = .ok (.iload_n 3, 1) := by decide +kernel
theorem dL_law_1688 : decode cL_law 1688 = .ok (.iconst 2, 1) := by decide +kernel
theorem dL_law_1689 : decode cL_law 1689 = .ok (.iadd, 1) := by decide +kernel
theorem dL_law_1690 : decode cL_law 1690 = .ok (.iaload, 1) := by decide +kernel
theorem dL_law_1691 : decode cL_law 1691 = .ok (.aload_n 0, 1) := by decide +kernel
theorem dL_law_1692 : decode cL_law 1692 = .ok (.iload_n 3, 1) := by decide +kernel
theorem dL_law_1693 : decode cL_law 1693 = .ok (.iconst 3, 1) := by decide +kernel
theorem dL_law_1694 : decode cL_law 1694 = .ok (.iadd, 1) := by decide +kernel
theorem dL_law_1695 : decode cL_law 1695 = .ok (.iaload, 1) := by decide +kernel
theorem dL_law_1696 : decode cL_law 1696 = .ok (.aload_n 0, 1) := by decide +kernel
theorem dL_law_1697 : decode cL_law 1697 = .ok (.iload_n 3, 1) := by decide +kernel
theorem dL_law_1698 : decode cL_law 1698 = .ok (.iconst 4, 1) := by decide +kernel
theorem dL_law_1699 : decode cL_law 1699 = .ok (.iadd, 1) := by decide +kernel
theorem dL_law_1700 : decode cL_law 1700 = .ok (.iaload, 1) := by decide +kernel
theorem dL_law_1701 : decode cL_law 1701 = .ok (.invokevirtual 148, 3) := by decide +kernel
theorem dL_law_1704 : decode cL_law 1704 = .ok (.if_icmp .eq 335, 3) := by decide +kernel
theorem dL_law_1707 : decode cL_law 1707 = .ok (.iconst 0, 1) := by decide +kernel
theorem dL_law_1708 : decode cL_law 1708 = .ok (.ireturn, 1) := by decide +kernel
theorem dL_law_1709 : decode cL_law 1709 = .ok (.aload_n 1, 1) := by decide +kernel
theorem dL_law_1710 : decode cL_law 1710 = .ok (.aload_n 0, 1) := by decide +kernel
theorem dL_law_1711 : decode cL_law 1711 = .ok (.iload_n 3, 1) := by decide +kernel
theorem dL_law_1712 : decode cL_law 1712 = .ok (.iconst 1, 1) := by decide +kernel
theorem dL_law_1713 : decode cL_law 1713 = .ok (.iadd, 1) := by decide +kernel
theorem dL_law_1714 : decode cL_law 1714 = .ok (.iaload, 1) := by decide +kernel
theorem dL_law_1715 : decode cL_law 1715 = .ok (.aload_n 0, 1) := by decide +kernel
theorem dL_law_1716 : decode cL_law 1716 = .ok (.iload_n 3, 1) := by decide +kernel
theorem dL_law_1717 : decode cL_law 1717 = .ok (.iconst 2, 1) := by decide +kernel
theorem dL_law_1718 : decode cL_law 1718 = .ok (.iadd, 1) := by decide +kernel
theorem dL_law_1719 : decode cL_law 1719 = .ok (.iaload, 1) := by decide +kernel
theorem dL_law_1720 : decode cL_law 1720 = .ok (.aload_n 0, 1) := by decide +kernel
theorem dL_law_1721 : decode cL_law 1721 = .ok (.iload_n 3, 1) := by decide +kernel
theorem dL_law_1722 : decode cL_law 1722 = .ok (.iconst 3, 1) := by decide +kernel
theorem dL_law_1723 : decode cL_law 1723 = .ok (.iadd, 1) := by decide +kernel
theorem dL_law_1724 : decode cL_law 1724 = .ok (.iaload, 1) := by decide +kernel
theorem dL_law_1725 : decode cL_law 1725 = .ok (.invokevirtual 149, 3) := by decide +kernel
theorem dL_law_1728 : decode cL_law 1728 = .ok (.aload_n 2, 1) := by decide +kernel
theorem dL_law_1729 : decode cL_law 1729 = .ok (.aload_n 0, 1) := by decide +kernel
theorem dL_law_1730 : decode cL_law 1730 = .ok (.iload_n 3, 1) := by decide +kernel
theorem dL_law_1731 : decode cL_law 1731 = .ok (.iconst 1, 1) := by decide +kernel
theorem dL_law_1732 : decode cL_law 1732 = .ok (.iadd, 1) := by decide +kernel
theorem dL_law_1733 : decode cL_law 1733 = .ok (.iaload, 1) := by decide +kernel
theorem dL_law_1734 : decode cL_law 1734 = .ok (.aload_n 0, 1) := by decide +kernel
theorem dL_law_1735 : decode cL_law 1735 = .ok (.iload_n 3, 1) := by decide +kernel
theorem dL_law_1736 : decode cL_law 1736 = .ok (.iconst 2, 1) := by decide +kernel
theorem dL_law_1737 : decode cL_law 1737 = .ok (.iadd, 1) := by decide +kernel
theorem dL_law_1738 : decode cL_law 1738 = .ok (.iaload, 1) := by decide +kernel
theorem dL_law_1739 : decode cL_law 1739 = .ok (.aload_n 0, 1) := by decide +kernel
theorem dL_law_1740 : decode cL_law 1740 = .ok (.iload_n 3, 1) := by decide +kernel
theorem dL_law_1741 : decode cL_law 1741 = .ok (.iconst 3, 1) := by decide +kernel
theorem dL_law_1742 : decode cL_law 1742 = .ok (.iadd, 1) := by decide +kernel
theorem dL_law_1743 : decode cL_law 1743 = .ok (.iaload, 1) := by decide +kernel
theorem dL_law_1744 : decode cL_law 1744 = .ok (.invokevirtual 152, 3) := by decide +kernel
theorem dL_law_1747 : decode cL_law 1747 = .ok (.if_icmp .eq 292, 3) := by decide +kernel
theorem dL_law_1750 : decode cL_law 1750 = .ok (.iconst 0, 1) := by decide +kernel
theorem dL_law_1751 : decode cL_law 1751 = .ok (.ireturn, 1) := by decide +kernel
theorem dL_law_1752 : decode cL_law 1752 = .ok (.aload_n 1, 1) := by decide +kernel
theorem dL_law_1753 : decode cL_law 1753 = .ok (.aload_n 0, 1) := by decide +kernel
theorem dL_law_1754 : decode cL_law 1754 = .ok (.iload_n 3, 1) := by decide +kernel
theorem dL_law_1755 : decode cL_law 1755 = .ok (.iconst 1, 1) := by decide +kernel
theorem dL_law_1756 : decode cL_law 1756 = .ok (.iadd, 1) := by decide +kernel
theorem dL_law_1757 : decode cL_law 1757 = .ok (.iaload, 1) := by decide +kernel
theorem dL_law_1758 : decode cL_law 1758 = .ok (.aload_n 0, 1) := by decide +kernel
theorem dL_law_1759 : decode cL_law 1759 = .ok (.iload_n 3, 1) := by decide +kernel
theorem dL_law_1760 : decode cL_law 1760 = .ok (.iconst 2, 1) := by decide +kernel
theorem dL_law_1761 : decode cL_law 1761 = .ok (.iadd, 1) := by decide +kernel
theorem dL_law_1762 : decode cL_law 1762 = .ok (.iaload, 1) := by decide +kernel
theorem dL_law_1763 : decode cL_law 1763 = .ok (.aload_n 0, 1) := by decide +kernel
theorem dL_law_1764 : decode cL_law 1764 = .ok (.iload_n 3, 1) := by decide +kernel
theorem dL_law_1765 : decode cL_law 1765 = .ok (.iconst 3, 1) := by decide +kernel
theorem dL_law_1766 : decode cL_law 1766 = .ok (.iadd, 1) := by decide +kernel
theorem dL_law_1767 : decode cL_law 1767 = .ok (.iaload, 1) := by decide +kernel
theorem dL_law_1768 : decode cL_law 1768 = .ok (.invokevirtual 153, 3) := by decide +kernel
theorem dL_law_1771 : decode cL_law 1771 = .ok (.aload_n 2, 1) := by decide +kernel
theorem dL_law_1772 : decode cL_law 1772 = .ok (.aload_n 0, 1) := by decide +kernel
theorem dL_law_1773 : decode cL_law 1773 = .ok (.iload_n 3, 1) := by decide +kernel
theorem dL_law_1774 : decode cL_law 1774 = .ok (.iconst 1, 1) := by decide +kernel
theorem dL_law_1775 : decode cL_law 1775 = .ok (.iadd, 1) := by decide +kernel
theorem dL_law_1776 : decode cL_law 1776 = .ok (.iaload, 1) := by decide +kernel
theorem dL_law_1777 : decode cL_law 1777 = .ok (.aload_n 0, 1) := by decide +kernel
theorem dL_law_1778 : decode cL_law 1778 = .ok (.iload_n 3, 1) := by decide +kernel
theorem dL_law_1779 : decode cL_law 1779 = .ok (.iconst 2, 1) := by decide +kernel
theorem dL_law_1780 : decode cL_law 1780 = .ok (.iadd, 1) := by decide +kernel
theorem dL_law_1781 : decode cL_law 1781 = .ok (.iaload, 1) := by decide +kernel
theorem dL_law_1782 : decode cL_law 1782 = .ok (.aload_n 0, 1) := by decide +kernel
theorem dL_law_1783 : decode cL_law 1783 = .ok (.iload_n 3, 1) := by decide +kernel
theorem dL_law_1784 : decode cL_law 1784 = .ok (.iconst 3, 1) := by decide +kernel
theorem dL_law_1785 : decode cL_law 1785 = .ok (.iadd, 1) := by decide +kernel
theorem dL_law_1786 : decode cL_law 1786 = .ok (.iaload, 1) := by decide +kernel
theorem dL_law_1787 : decode cL_law 1787 = .ok (.invokevirtual 156, 3) := by decide +kernel
theorem dL_law_1790 : decode cL_law 1790 = .ok (.if_icmp .eq 249, 3) := by decide +kernel
theorem dL_law_1793 : decode cL_law 1793 = .ok (.iconst 0, 1) := by decide +kernel
theorem dL_law_1794 : decode cL_law 1794 = .ok (.ireturn, 1) := by decide +kernel
theorem dL_law_1795 : decode cL_law 1795 = .ok (.aload_n 1, 1) := by decide +kernel
theorem dL_law_1796 : decode cL_law 1796 = .ok (.aload_n 0, 1) := by decide +kernel
theorem dL_law_1797 : decode cL_law 1797 = .ok (.iload_n 3, 1) := by decide +kernel
theorem dL_law_1798 : decode cL_law 1798 = .ok (.iconst 1, 1) := by decide +kernel
theorem dL_law_1799 : decode cL_law 1799 = .ok (.iadd, 1) := by decide +kernel
theorem dL_law_1800 : decode cL_law 1800 = .ok (.iaload, 1) := by decide +kernel
theorem dL_law_1801 : decode cL_law 1801 = .ok (.aload_n 0, 1) := by decide +kernel
theorem dL_law_1802 : decode cL_law 1802 = .ok (.iload_n 3, 1) := by decide +kernel
theorem dL_law_1803 : decode cL_law 1803 = .ok (.iconst 2, 1) := by decide +kernel
theorem dL_law_1804 : decode cL_law 1804 = .ok (.iadd, 1) := by decide +kernel
theorem dL_law_1805 : decode cL_law 1805 = .ok (.iaload, 1) := by decide +kernel
theorem dL_law_1806 : decode cL_law 1806 = .ok (.aload_n 0, 1) := by decide +kernel
theorem dL_law_1807 : decode cL_law 1807 = .ok (.iload_n 3, 1) := by decide +kernel
theorem dL_law_1808 : decode cL_law 1808 = .ok (.iconst 3, 1) := by decide +kernel
theorem dL_law_1809 : decode cL_law 1809 = .ok (.iadd, 1) := by decide +kernel
theorem dL_law_1810 : decode cL_law 1810 = .ok (.iaload, 1) := by decide +kernel
theorem dL_law_1811 : decode cL_law 1811 = .ok (.aload_n 0, 1) := by decide +kernel
theorem dL_law_1812 : decode cL_law 1812 = .ok (.iload_n 3, 1) := by decide +kernel
theorem dL_law_1813 : decode cL_law 1813 = .ok (.iconst 4, 1) := by decide +kernel
theorem dL_law_1814 : decode cL_law 1814 = .ok (.iadd, 1) := by decide +kernel
theorem dL_law_1815 : decode cL_law 1815 = .ok (.iaload, 1) := by decide +kernel
theorem dL_law_1816 : decode cL_law 1816 = .ok (.invokevirtual 157, 3) := by decide +kernel
theorem dL_law_1819 : decode cL_law 1819 = .ok (.aload_n 2, 1) := by decide +kernel
theorem dL_law_1820 : decode cL_law 1820 = .ok (.aload_n 0, 1) := by decide +kernel
theorem dL_law_1821 : decode cL_law 1821 = .ok (.iload_n 3, 1) := by decide +kernel
theorem dL_law_1822 : decode cL_law 1822 = .ok (.iconst 1, 1) := by decide +kernel
theorem dL_law_1823 : decode cL_law 1823 = .ok (.iadd, 1) := by decide +kernel
theorem dL_law_1824 : decode cL_law 1824 = .ok (.iaload, 1) := by decide +kernel
theorem dL_law_1825 : decode cL_law 1825 = .ok (.aload_n 0, 1) := by decide +kernel
theorem dL_law_1826 : decode cL_law 1826 = .ok (.iload_n 3, 1) := by decide +kernel
theorem dL_law_1827 : decode cL_law 1827 = .ok (.iconst 2, 1) := by decide +kernel
theorem dL_law_1828 : decode cL_law 1828 = .ok (.iadd, 1) := by decide +kernel
theorem dL_law_1829 : decode cL_law 1829 = .ok (.iaload, 1) := by decide +kernel
theorem dL_law_1830 : decode cL_law 1830 = .ok (.aload_n 0, 1) := by decide +kernel
theorem dL_law_1831 : decode cL_law 1831 = .ok (.iload_n 3, 1) := by decide +kernel
theorem dL_law_1832 : decode cL_law 1832 = .ok (.iconst 3, 1) := by decide +kernel
theorem dL_law_1833 : decode cL_law 1833 = .ok (.iadd, 1) := by decide +kernel
theorem dL_law_1834 : decode cL_law 1834 = .ok (.iaload, 1) := by decide +kernel
theorem dL_law_1835 : decode cL_law 1835 = .ok (.aload_n 0, 1) := by decide +kernel
theorem dL_law_1836 : decode cL_law 1836 = .ok (.iload_n 3, 1) := by decide +kernel
theorem dL_law_1837 : decode cL_law 1837 = .ok (.iconst 4, 1) := by decide +kernel
theorem dL_law_1838 : decode cL_law 1838 = .ok (.iadd, 1) := by decide +kernel
theorem dL_law_1839 : decode cL_law 1839 = .ok (.iaload, 1) := by decide +kernel
theorem dL_law_1840 : decode cL_law 1840 = .ok (.invokevirtual 160, 3) := by decide +kernel
theorem dL_law_1843 : decode cL_law 1843 = .ok (.if_icmp .eq 196, 3) := by decide +kernel
theorem dL_law_1846 : decode cL_law 1846 = .ok (.iconst 0, 1) := by decide +kernel
theorem dL_law_1847 : decode cL_law 1847 = .ok (.ireturn, 1) := by decide +kernel
theorem dL_law_1848 : decode cL_law 1848 = .ok (.aload_n 1, 1) := by decide +kernel
theorem dL_law_1849 : decode cL_law 1849 = .ok (.aload_n 0, 1) := by decide +kernel
theorem dL_law_1850 : decode cL_law 1850 = .ok (.iload_n 3, 1) := by decide +kernel
theorem dL_law_1851 : decode cL_law 1851 = .ok (.iconst 1, 1) := by decide +kernel
theorem dL_law_1852 : decode cL_law 1852 = .ok (.iadd, 1) := by decide +kernel
theorem dL_law_1853 : decode cL_law 1853 = .ok (.iaload, 1) := by decide +kernel
theorem dL_law_1854 : decode cL_law 1854 = .ok (.aload_n 0, 1) := by decide +kernel
theorem dL_law_1855 : decode cL_law 1855 = .ok (.iload_n 3, 1) := by decide +kernel
theorem dL_law_1856 : decode cL_law 1856 = .ok (.iconst 2, 1) := by decide +kernel
theorem dL_law_1857 : decode cL_law 1857 = .ok (.iadd, 1) := by decide +kernel
theorem dL_law_1858 : decode cL_law 1858 = .ok (.iaload, 1) := by decide +kernel
theorem dL_law_1859 : decode cL_law 1859 = .ok (.aload_n 0, 1) := by decide +kernel
theorem dL_law_1860 : decode cL_law 1860 = .ok (.iload_n 3, 1) := by decide +kernel
theorem dL_law_1861 : decode cL_law 1861 = .ok (.iconst 3, 1) := by decide +kernel
theorem dL_law_1862 : decode cL_law 1862 = .ok (.iadd, 1) := by decide +kernel
theorem dL_law_1863 : decode cL_law 1863 = .ok (.iaload, 1) := by decide +kernel
theorem dL_law_1864 : decode cL_law 1864 = .ok (.ifCond .eq 7, 3) := by decide +kernel
theorem dL_law_1867 : decode cL_law 1867 = .ok (.iconst 1, 1) := by decide +kernel
theorem dL_law_1868 : decode cL_law 1868 = .ok (.goto 4, 3) := by decide +kernel
theorem dL_law_1871 : decode cL_law 1871 = .ok (.iconst 0, 1) := by decide +kernel
theorem dL_law_1872 : decode cL_law 1872 = .ok (.invokevirtual 161, 3) := by decide +kernel
theorem dL_law_1875 : decode cL_law 1875 = .ok (.aload_n 2, 1) := by decide +kernel
theorem dL_law_1876 : decode cL_law 1876 = .ok (.aload_n 0, 1) := by decide +kernel
theorem dL_law_1877 : decode cL_law 1877 = .ok (.iload_n 3, 1) := by decide +kernel
theorem dL_law_1878 : decode cL_law 1878 = .ok (.iconst 1, 1) := by decide +kernel
theorem dL_law_1879 : decode cL_law 1879 = .ok (.iadd, 1) := by decide +kernel
theorem dL_law_1880 : decode cL_law 1880 = .ok (.iaload, 1) := by decide +kernel
theorem dL_law_1881 : decode cL_law 1881 = .ok (.aload_n 0, 1) := by decide +kernel
theorem dL_law_1882 : decode cL_law 1882 = .ok (.iload_n 3, 1) := by decide +kernel
theorem dL_law_1883 : decode cL_law 1883 = .ok (.iconst 2, 1) := by decide +kernel
theorem dL_law_1884 : decode cL_law 1884 = .ok (.iadd, 1) := by decide +kernel
theorem dL_law_1885 : decode cL_law 1885 = .ok (.iaload, 1) := by decide +kernel
theorem dL_law_1886 : decode cL_law 1886 = .ok (.aload_n 0, 1) := by decide +kernel
theorem dL_law_1887 : decode cL_law 1887 = .ok (.iload_n 3, 1) := by decide +kernel
theorem dL_law_1888 : decode cL_law 1888 = .ok (.iconst 3, 1) := by decide +kernel
theorem dL_law_1889 : decode cL_law 1889 = .ok (.iadd, 1) := by decide +kernel
theorem dL_law_1890 : decode cL_law 1890 = .ok (.iaload, 1) := by decide +kernel
theorem dL_law_1891 : decode cL_law 1891 = .ok (.ifCond .eq 7, 3) := by decide +kernel
theorem dL_law_1894 : decode cL_law 1894 = .ok (.iconst 1, 1) := by decide +kernel
theorem dL_law_1895 : decode cL_law 1895 = .ok (.goto 4, 3) := by decide +kernel
theorem dL_law_1898 : decode cL_law 1898 = .ok (.iconst 0, 1) := by decide +kernel
theorem dL_law_1899 : decode cL_law 1899 = .ok (.invokevirtual 165, 3) := by decide +kernel
theorem dL_law_1902 : decode cL_law 1902 = .ok (.if_icmp .eq 137, 3) := by decide +kernel
theorem dL_law_1905 : decode cL_law 1905 = .ok (.iconst 0, 1) := by decide +kernel
theorem dL_law_1906 : decode cL_law 1906 = .ok (.ireturn, 1) := by decide +kernel
theorem dL_law_1907 : decode cL_law 1907 = .ok (.aload_n 1, 1) := by decide +kernel
theorem dL_law_1908 : decode cL_law 1908 = .ok (.aload_n 0, 1) := by decide +kernel
theorem dL_law_1909 : decode cL_law 1909 = .ok (.iload_n 3, 1) := by decide +kernel
theorem dL_law_1910 : decode cL_law 1910 = .ok (.iconst 1, 1) := by decide +kernel
theorem dL_law_1911 : decode cL_law 1911 = .ok (.iadd, 1) := by decide +kernel
theorem dL_law_1912 : decode cL_law 1912 = .ok (.iaload, 1) := by decide +kernel
theorem dL_law_1913 : decode cL_law 1913 = .ok (.aload_n 0, 1) := by decide +kernel
theorem dL_law_1914 : decode cL_law 1914 = .ok (.iload_n 3, 1) := by decide +kernel
theorem dL_law_1915 : decode cL_law 1915 = .ok (.iconst 2, 1) := by decide +kernel
theorem dL_law_1916 : decode cL_law 1916 = .ok (.iadd, 1) := by decide +kernel
theorem dL_law_1917 : decode cL_law 1917 = .ok (.iaload, 1) := by decide +kernel
theorem dL_law_1918 : decode cL_law 1918 = .ok (.aload_n 0, 1) := by decide +kernel
theorem dL_law_1919 : decode cL_law 1919 = .ok (.iload_n 3, 1) := by decide +kernel
theorem dL_law_1920 : decode cL_law 1920 = .ok (.iconst 3, 1) := by decide +kernel
theorem dL_law_1921 : decode cL_law 1921 = .ok (.iadd, 1) := by decide +kernel
theorem dL_law_1922 : decode cL_law 1922 = .ok (.iaload, 1) := by decide +kernel
theorem dL_law_1923 : decode cL_law 1923 = .ok (.aload_n 0, 1) := by decide +kernel
theorem dL_law_1924 : decode cL_law 1924 = .ok (.iload_n 3, 1) := by decide +kernel
theorem dL_law_1925 : decode cL_law 1925 = .ok (.iconst 4, 1) := by decide +kernel
theorem dL_law_1926 : decode cL_law 1926 = .ok (.iadd, 1) := by decide +kernel
theorem dL_law_1927 : decode cL_law 1927 = .ok (.iaload, 1) := by decide +kernel
theorem dL_law_1928 : decode cL_law 1928 = .ok (.aload_n 0, 1) := by decide +kernel
theorem dL_law_1929 : decode cL_law 1929 = .ok (.iload_n 3, 1) := by decide +kernel
theorem dL_law_1930 : decode cL_law 1930 = .ok (.iconst 5, 1) := by decide +kernel
theorem dL_law_1931 : decode cL_law 1931 = .ok (.iadd, 1) := by decide +kernel
theorem dL_law_1932 : decode cL_law 1932 = .ok (.iaload, 1) := by decide +kernel
theorem dL_law_1933 : decode cL_law 1933 = .ok (.invokevirtual 166, 3) := by decide +kernel
theorem dL_law_1936 : decode cL_law 1936 = .ok (.aload_n 2, 1) := by decide +kernel
theorem dL_law_1937 : decode cL_law 1937 = .ok (.aload_n 0, 1) := by decide +kernel
theorem dL_law_1938 : decode cL_law 1938 = .ok (.iload_n 3, 1) := by decide +kernel
theorem dL_law_1939 : decode cL_law 1939 = .ok (.iconst 1, 1) := by decide +kernel
theorem dL_law_1940 : decode cL_law 1940 = .ok (.iadd, 1) := by decide +kernel
theorem dL_law_1941 : decode cL_law 1941 = .ok (.iaload, 1) := by decide +kernel
theorem dL_law_1942 : decode cL_law 1942 = .ok (.aload_n 0, 1) := by decide +kernel
theorem dL_law_1943 : decode cL_law 1943 = .ok (.iload_n 3, 1) := by decide +kernel
theorem dL_law_1944 : decode cL_law 1944 = .ok (.iconst 2, 1) := by decide +kernel
theorem dL_law_1945 : decode cL_law 1945 = .ok (.iadd, 1) := by decide +kernel
theorem dL_law_1946 : decode cL_law 1946 = .ok (.iaload, 1) := by decide +kernel
theorem dL_law_1947 : decode cL_law 1947 = .ok (.aload_n 0, 1) := by decide +kernel
theorem dL_law_1948 : decode cL_law 1948 = .ok (.iload_n 3, 1) := by decide +kernel
theorem dL_law_1949 : decode cL_law 1949 = .ok (.iconst 3, 1) := by decide +kernel
theorem dL_law_1950 : decode cL_law 1950 = .ok (.iadd, 1) := by decide +kernel
theorem dL_law_1951 : decode cL_law 1951 = .ok (.iaload, 1) := by decide +kernel
theorem dL_law_1952 : decode cL_law 1952 = .ok (.aload_n 0, 1) := by decide +kernel
theorem dL_law_1953 : decode cL_law 1953 = .ok (.iload_n 3, 1) := by decide +kernel
theorem dL_law_1954 : decode cL_law 1954 = .ok (.iconst 4, 1) := by decide +kernel
theorem dL_law_1955 : decode cL_law 1955 = .ok (.iadd, 1) := by decide +kernel
theorem dL_law_1956 : decode cL_law 1956 = .ok (.iaload, 1) := by decide +kernel
theorem dL_law_1957 : decode cL_law 1957 = .ok (.aload_n 0, 1) := by decide +kernel
theorem dL_law_1958 : decode cL_law 1958 = .ok (.iload_n 3, 1) := by decide +kernel
theorem dL_law_1959 : decode cL_law 1959 = .ok (.iconst 5, 1) := by decide +kernel
theorem dL_law_1960 : decode cL_law 1960 = .ok (.iadd, 1) := by decide +kernel
theorem dL_law_1961 : decode cL_law 1961 = .ok (.iaload, 1) := by decide +kernel
theorem dL_law_1962 : decode cL_law 1962 = .ok (.invokevirtual 169, 3) := by decide +kernel
theorem dL_law_1965 : decode cL_law 1965 = .ok (.if_icmp .eq 74, 3) := by decide +kernel
theorem dL_law_1968 : decode cL_law 1968 = .ok (.iconst 0, 1) := by decide +kernel
theorem dL_law_1969 : decode cL_law 1969 = .ok (.ireturn, 1) := by decide +kernel
theorem dL_law_1970 : decode cL_law 1970 = .ok (.aload_n 1, 1) := by decide +kernel
theorem dL_law_1971 : decode cL_law 1971 = .ok (.aload_n 0, 1) := by decide +kernel
theorem dL_law_1972 : decode cL_law 1972 = .ok (.iload_n 3, 1) := by decide +kernel
theorem dL_law_1973 : decode cL_law 1973 = .ok (.iconst 1, 1) := by decide +kernel
theorem dL_law_1974 : decode cL_law 1974 = .ok (.iadd, 1) := by decide +kernel
theorem dL_law_1975 : decode cL_law 1975 = .ok (.iaload, 1) := by decide +kernel
theorem dL_law_1976 : decode cL_law 1976 = .ok (.invokevirtual 170, 3) := by decide +kernel
theorem dL_law_1979 : decode cL_law 1979 = .ok (.aload_n 2, 1) := by decide +kernel
theorem dL_law_1980 : decode cL_law 1980 = .ok (.aload_n 0, 1) := by decide +kernel
theorem dL_law_1981 : decode cL_law 1981 = .ok (.iload_n 3, 1) := by decide +kernel
theorem dL_law_1982 : decode cL_law 1982 = .ok (.iconst 1, 1) := by decide +kernel
theorem dL_law_1983 : decode cL_law 1983 = .ok (.iadd, 1) := by decide +kernel
theorem dL_law_1984 : decode cL_law 1984 = .ok (.iaload, 1) := by decide +kernel
theorem dL_law_1985 : decode cL_law 1985 = .ok (.invokevirtual 173, 3) := by decide +kernel
theorem dL_law_1988 : decode cL_law 1988 = .ok (.if_icmp .eq 51, 3) := by decide +kernel
theorem dL_law_1991 : decode cL_law 1991 = .ok (.iconst 0, 1) := by decide +kernel
theorem dL_law_1992 : decode cL_law 1992 = .ok (.ireturn, 1) := by decide +kernel
theorem dL_law_1993 : decode cL_law 1993 = .ok (.aload_n 1, 1) := by decide +kernel
theorem dL_law_1994 : decode cL_law 1994 = .ok (.aload_n 0, 1) := by decide +kernel
theorem dL_law_1995 : decode cL_law 1995 = .ok (.iload_n 3, 1) := by decide +kernel
theorem dL_law_1996 : decode cL_law 1996 = .ok (.iconst 1, 1) := by decide +kernel
theorem dL_law_1997 : decode cL_law 1997 = .ok (.iadd, 1) := by decide +kernel
theorem dL_law_1998 : decode cL_law 1998 = .ok (.iaload, 1) := by decide +kernel
theorem dL_law_1999 : decode cL_law 1999 = .ok (.invokevirtual 174, 3) := by decide +kernel
theorem dL_law_2002 : decode cL_law 2002 = .ok (.aload_n 2, 1) := by decide +kernel
theorem dL_law_2003 : decode cL_law 2003 = .ok (.aload_n 0, 1) := by decide +kernel
theorem dL_law_2004 : decode cL_law 2004 = .ok (.iload_n 3, 1) := by decide +kernel
theorem dL_law_2005 : decode cL_law 2005 = .ok (.iconst 1, 1) := by decide +kernel
theorem dL_law_2006 : decode cL_law 2006 = .ok (.iadd, 1) := by decide +kernel
theorem dL_law_2007 : decode cL_law 2007 = .ok (.iaload, 1) := by decide +kernel
theorem dL_law_2008 : decode cL_law 2008 = .ok (.invokevirtual 177, 3) := by decide +kernel
theorem dL_law_2011 : decode cL_law 2011 = .ok (.if_icmp .eq 28, 3) := by decide +kernel
theorem dL_law_2014 : decode cL_law 2014 = .ok (.iconst 0, 1) := by decide +kernel
theorem dL_law_2015 : decode cL_law 2015 = .ok (.ireturn, 1) := by decide +kernel
theorem dL_law_2016 : decode cL_law 2016 = .ok (.aload_n 1, 1) := by decide +kernel
theorem dL_law_2017 : decode cL_law 2017 = .ok (.aload_n 0, 1) := by decide +kernel
theorem dL_law_2018 : decode cL_law 2018 = .ok (.iload_n 3, 1) := by decide +kernel
theorem dL_law_2019 : decode cL_law 2019 = .ok (.iconst 1, 1) := by decide +kernel
theorem dL_law_2020 : decode cL_law 2020 = .ok (.iadd, 1) := by decide +kernel
theorem dL_law_2021 : decode cL_law 2021 = .ok (.iaload, 1) := by decide +kernel
theorem dL_law_2022 : decode cL_law 2022 = .ok (.invokevirtual 178, 3) := by decide +kernel
theorem dL_law_2025 : decode cL_law 2025 = .ok (.aload_n 2, 1) := by decide +kernel
theorem dL_law_2026 : decode cL_law 2026 = .ok (.aload_n 0, 1) := by decide +kernel
theorem dL_law_2027 : decode cL_law 2027 = .ok (.iload_n 3, 1) := by decide +kernel
theorem dL_law_2028 : decode cL_law 2028 = .ok (.iconst 1, 1) := by decide +kernel
theorem dL_law_2029 : decode cL_law 2029 = .ok (.iadd, 1) := by decide +kernel
theorem dL_law_2030 : decode cL_law 2030 = .ok (.iaload, 1) := by decide +kernel
theorem dL_law_2031 : decode cL_law 2031 = .ok (.invokevirtual 181, 3) := by decide +kernel
theorem dL_law_2034 : decode cL_law 2034 = .ok (.if_icmp .eq 5, 3) := by decide +kernel
theorem dL_law_2037 : decode cL_law 2037 = .ok (.iconst 0, 1) := by decide +kernel
theorem dL_law_2038 : decode cL_law 2038 = .ok (.ireturn, 1) := by decide +kernel
theorem dL_law_2039 : decode cL_law 2039 = .ok (.iinc 3 8, 3) := by decide +kernel
theorem dL_law_2042 : decode cL_law 2042 = .ok (.goto (-2024), 3) := by decide +kernel
theorem dL_law_2045 : decode cL_law 2045 = .ok (.iconst 1, 1) := by decide +kernel
theorem dL_law_2046 : decode cL_law 2046 = .ok (.ireturn, 1) := by decide +kernel
set_option maxRecDepth 100000 in
def g_L_law_2039 (xs : Nat → Int32) (Ln : Nat) (k18 : Option Nat → Option Nat → Int32 → MM → Option (Int32 × MM)) (x1 : Option Nat) (x2 : Option Nat) (x3 : Int32) (m : MM) : Option (Int32 × MM) :=
  k18 x1 x2 (x3 + 8) m
set_option maxHeartbeats 8000000 in
set_option maxRecDepth 100000 in
theorem s_L_law_2039 {Γ : GX} {E : EX} (xs : Nat → Int32) (Ln : Nat) {b ce sl : Nat} (C : Cx Γ E cL_law RL 4) (hr : Γ.meth.sig.returnType = ret) (hrm : Γ.rm = room_1) (hA : Γ.args = #[Value.ref b]) (hX : va_X b Ln xs Γ.s Γ.s.heap) (hbl : b < Γ.s.heap.size) (hbA : ¬ AA E b) (hB : E.base = Γ.s.heap.size) (hce : ce + 58 ≤ room_1.cells) (hsl : sl + 1570 ≤ room_1.slots) (k18 : Option Nat → Option Nat → Int32 → MM → Option (Int32 × MM)) (h18 : ∀ (x1 : Option Nat) (x2 : Option Nat) (x3 : Int32) (m : MM), Sm (QL Γ) Γ E 4 (ce + 58) (sl + 1570) 18 [(0, va_rf (some b)), (1, va_rf x1), (2, va_rf x2), (3, .int x3)] [] m (k18 x1 x2 x3 m)) (x1 : Option Nat) (x2 : Option Nat) (x3 : Int32) (m : MM) : Sm (QL Γ) Γ E 4 (ce + 58) (sl + 1570) 2039 [(0, va_rf (some b)), (1, va_rf x1), (2, va_rf x2), (3, .int x3)] [] m (g_L_law_2039 xs Ln k18 x1 x2 x3 m) := by
  unfold g_L_law_2039
  refine z_iinc (v := 8) (L2 := [(3, .int (x3 + 8)), (0, va_rf (some b)), (1, va_rf x1), (2, va_rf x2)]) C dL_law_2039 3 rfl (by decide) (by decide) (by simp [cat_rf, cat_i, cat_l, cat_a]) ?_
  refine z_goto (tgt := 18) C dL_law_2042 (by decide) ?_
  exact z_sub [1, 2, 3, 0] rfl (h18 x1 x2 (x3 + 8) m)
set_option maxRecDepth 100000 in
def g_L_law_204 (xs : Nat → Int32) (Ln : Nat) (k18 : Option Nat → Option Nat → Int32 → MM → Option (Int32 × MM)) (x1 : Option Nat) (x2 : Option Nat) (x3 : Int32) (m : MM) : Option (Int32 × MM) :=
  chk (inb (x3 + 1) Ln = true) (chk (inb (x3 + 2) Ln = true) (chk (inb (x3 + 3) Ln = true) (chk (inb (x3 + 4) Ln = true) (chk (inb (x3 + 5) Ln = true) (ck m x1 10 (fun a1 => cal (f_X9_feed a1 (xs (Int32.toNatClampNeg (x3 + 1))) (xs (Int32.toNatClampNeg (x3 + 2))) (xs (Int32.toNatClampNeg (x3 + 3))) (xs (Int32.toNatClampNeg (x3 + 4))) (xs (Int32.toNatClampNeg (x3 + 5))) m) (fun r1 m1 => chk (inb (x3 + 1) Ln = true) (chk (inb (x3 + 2) Ln = true) (chk (inb (x3 + 3) Ln = true) (chk (inb (x3 + 4) Ln = true) (chk (inb (x3 + 5) Ln = true) (ck m1 x2 11 (fun a2 => cal (f_X10_feed a2 (xs (Int32.toNatClampNeg (x3 + 1))) (xs (Int32.toNatClampNeg (x3 + 2))) (xs (Int32.toNatClampNeg (x3 + 3))) (xs (Int32.toNatClampNeg (x3 + 4))) (xs (Int32.toNatClampNeg (x3 + 5))) m1) (fun r2 m2 => if r1 = r2 then (g_L_law_2039 xs Ln k18 x1 x2 x3 m2) else (none)))))))))))))))
set_option maxHeartbeats 8000000 in
set_option maxRecDepth 100000 in
theorem s_L_law_204 {Γ : GX} {E : EX} (xs : Nat → Int32) (Ln : Nat) {b ce sl : Nat} (C : Cx Γ E cL_law RL 4) (hr : Γ.meth.sig.returnType = ret) (hrm : Γ.rm = room_1) (hA : Γ.args = #[Value.ref b]) (hX : va_X b Ln xs Γ.s Γ.s.heap) (hbl : b < Γ.s.heap.size) (hbA : ¬ AA E b) (hB : E.base = Γ.s.heap.size) (hce : ce + 58 ≤ room_1.cells) (hsl : sl + 1570 ≤ room_1.slots) (k18 : Option Nat → Option Nat → Int32 → MM → Option (Int32 × MM)) (h18 : ∀ (x1 : Option Nat) (x2 : Option Nat) (x3 : Int32) (m : MM), Sm (QL Γ) Γ E 4 (ce + 58) (sl + 1570) 18 [(0, va_rf (some b)), (1, va_rf x1), (2, va_rf x2), (3, .int x3)] [] m (k18 x1 x2 x3 m)) (x1 : Option Nat) (x2 : Option Nat) (x3 : Int32) (m : MM) : Sm (QL Γ) Γ E 4 ce sl 204 [(0, va_rf (some b)), (1, va_rf x1), (2, va_rf x2), (3, .int x3)] [] m (g_L_law_204 xs Ln k18 x1 x2 x3 m) := by
  unfold g_L_law_204
  refine z_aload_n C dL_law_204 rfl 1 rfl ?_
  refine z_aload_n C dL_law_205 rfl 0 rfl ?_
  refine z_iload_n C dL_law_206 rfl 3 rfl ?_
  refine z_iconst (v := 1) C dL_law_207 (by decide) ?_
  refine z_iadd C dL_law_208 ?_
  refine z_chk (fun hj1 => ?_)
  refine z_scr C hX hbl hbA hj1 dL_law_209 ?_
  refine z_aload_n C dL_law_210 rfl 0 rfl ?_
  refine z_iload_n C dL_law_211 rfl 3 rfl ?_
  refine z_iconst (v := 2) C dL_law_212 (by decide) ?_
  refine z_iadd C dL_law_213 ?_
  refine z_chk (fun hj2 => ?_)
  refine z_scr C hX hbl hbA hj2 dL_law_214 ?_
  refine z_aload_n C dL_law_215 rfl 0 rfl ?_
  refine z_iload_n C dL_law_216 rfl 3 rfl ?_
  refine z_iconst (v := 3) C dL_law_217 (by decide) ?_
  refine z_iadd C dL_law_218 ?_
  refine z_chk (fun hj3 => ?_)
  refine z_scr C hX hbl hbA hj3 dL_law_219 ?_
  refine z_aload_n C dL_law_220 rfl 0 rfl ?_
  refine z_iload_n C dL_law_221 rfl 3 rfl ?_
  refine z_iconst (v := 4) C dL_law_222 (by decide) ?_
  refine z_iadd C dL_law_223 ?_
  refine z_chk (fun hj4 => ?_)
  refine z_scr C hX hbl hbA hj4 dL_law_224 ?_
  refine z_aload_n C dL_law_225 rfl 0 rfl ?_
  refine z_iload_n C dL_law_226 rfl 3 rfl ?_
  refine z_iconst (v := 5) C dL_law_227 (by decide) ?_
  refine z_iadd C dL_law_228 ?_
  refine z_chk (fun hj5 => ?_)
  refine z_scr C hX hbl hbA hj5 dL_law_229 ?_
  refine z_ck (fun a1 hr1 hk1 => ?_)
  refine z_cVI [.int (xs (Int32.toNatClampNeg (x3 + 1))), .int (xs (Int32.toNatClampNeg (x3 + 2))), .int (xs (Int32.toNatClampNeg (x3 + 3))), .int (xs (Int32.toNatClampNeg (x3 + 4))), .int (xs (Int32.toNatClampNeg (x3 + 5)))] [] C mv_RL_13 (fun r0 m0 h0 => M_X9_feed _ _ _ _ _ _ _ _ _ _ _ h0) rfl rfl ⟨by rw [hrm]; exact Nat.le_of_ble_eq_true rfl, by rw [hrm]; exact Nat.le_of_ble_eq_true rfl⟩ ⟨by rw [hrm]; show _ ≤ room_1.cells; omega, by rw [hrm]; show _ ≤ room_1.slots; omega⟩ hr1 hk1 rfl rfl rfl (Nat.le_of_ble_eq_true rfl) dL_law_230 (fun r1 m1 => ?_)
  refine z_aload_n C dL_law_233 rfl 2 rfl ?_
  refine z_aload_n C dL_law_234 rfl 0 rfl ?_
  refine z_iload_n C dL_law_235 rfl 3 rfl ?_
  refine z_iconst (v := 1) C dL_law_236 (by decide) ?_
  refine z_iadd C dL_law_237 ?_
  refine z_chk (fun hj6 => ?_)
  refine z_scr C hX hbl hbA hj6 dL_law_238 ?_
  refine z_aload_n C dL_law_239 rfl 0 rfl ?_
  refine z_iload_n C dL_law_240 rfl 3 rfl ?_
  refine z_iconst (v := 2) C dL_law_241 (by decide) ?_
  refine z_iadd C dL_law_242 ?_
  refine z_chk (fun hj7 => ?_)
  refine z_scr C hX hbl hbA hj7 dL_law_243 ?_
  refine z_aload_n C dL_law_244 rfl 0 rfl ?_
  refine z_iload_n C dL_law_245 rfl 3 rfl ?_
  refine z_iconst (v := 3) C dL_law_246 (by decide) ?_
  refine z_iadd C dL_law_247 ?_
  refine z_chk (fun hj8 => ?_)
  refine z_scr C hX hbl hbA hj8 dL_law_248 ?_
  refine z_aload_n C dL_law_249 rfl 0 rfl ?_
  refine z_iload_n C dL_law_250 rfl 3 rfl ?_
  refine z_iconst (v := 4) C dL_law_251 (by decide) ?_
  refine z_iadd C dL_law_252 ?_
  refine z_chk (fun hj9 => ?_)
  refine z_scr C hX hbl hbA hj9 dL_law_253 ?_
  refine z_aload_n C dL_law_254 rfl 0 rfl ?_
  refine z_iload_n C dL_law_255 rfl 3 rfl ?_
  refine z_iconst (v := 5) C dL_law_256 (by decide) ?_
  refine z_iadd C dL_law_257 ?_
  refine z_chk (fun hj10 => ?_)
  refine z_scr C hX hbl hbA hj10 dL_law_258 ?_
  refine z_ck (fun a2 hr2 hk2 => ?_)
  refine z_cVI [.int (xs (Int32.toNatClampNeg (x3 + 1))), .int (xs (Int32.toNatClampNeg (x3 + 2))), .int (xs (Int32.toNatClampNeg (x3 + 3))), .int (xs (Int32.toNatClampNeg (x3 + 4))), .int (xs (Int32.toNatClampNeg (x3 + 5)))] [.int r1] C mv_RL_17 (fun r0 m0 h0 => M_X10_feed _ _ _ _ _ _ _ _ _ _ _ h0) rfl rfl ⟨by rw [hrm]; exact Nat.le_of_ble_eq_true rfl, by rw [hrm]; exact Nat.le_of_ble_eq_true rfl⟩ ⟨by rw [hrm]; show _ ≤ room_1.cells; omega, by rw [hrm]; show _ ≤ room_1.slots; omega⟩ hr2 hk2 rfl rfl rfl (Nat.le_of_ble_eq_true rfl) dL_law_259 (fun r2 m2 => ?_)
  refine z_icmp_eq (tgt := 2039) C dL_law_262 (by decide) (fun c1 => ?_) (fun c1 => ?_)
  · refine z_wid (k := ce + 58) (n := sl + 1570) (by omega) (by omega) ?_
    exact z_sub [0, 1, 2, 3] rfl (s_L_law_2039 xs Ln C hr hrm hA hX hbl hbA hB hce hsl k18 h18 x1 x2 x3 m2)
  · refine z_iconst (v := 0) C dL_law_265 (by decide) ?_
    exact z_none
set_option maxRecDepth 100000 in
def g_L_law_267 (xs : Nat → Int32) (Ln : Nat) (k18 : Option Nat → Option Nat → Int32 → MM → Option (Int32 × MM)) (x1 : Option Nat) (x2 : Option Nat) (x3 : Int32) (m : MM) : Option (Int32 × MM) :=
  chk (inb (x3 + 1) Ln = true) (ck m x1 10 (fun a3 => cal (f_X9_end a3 (xs (Int32.toNatClampNeg (x3 + 1))) m) (fun r3 m3 => chk (inb (x3 + 1) Ln = true) (ck m3 x2 11 (fun a4 => cal (f_X10_end a4 (xs (Int32.toNatClampNeg (x3 + 1))) m3) (fun r4 m4 => if r3 = r4 then (g_L_law_2039 xs Ln k18 x1 x2 x3 m4) else (none)))))))
set_option maxHeartbeats 8000000 in
set_option maxRecDepth 100000 in
theorem s_L_law_267 {Γ : GX} {E : EX} (xs : Nat → Int32) (Ln : Nat) {b ce sl : Nat} (C : Cx Γ E cL_law RL 4) (hr : Γ.meth.sig.returnType = ret) (hrm : Γ.rm = room_1) (hA : Γ.args = #[Value.ref b]) (hX : va_X b Ln xs Γ.s Γ.s.heap) (hbl : b < Γ.s.heap.size) (hbA : ¬ AA E b) (hB : E.base = Γ.s.heap.size) (hce : ce + 58 ≤ room_1.cells) (hsl : sl + 1570 ≤ room_1.slots) (k18 : Option Nat → Option Nat → Int32 → MM → Option (Int32 × MM)) (h18 : ∀ (x1 : Option Nat) (x2 : Option Nat) (x3 : Int32) (m : MM), Sm (QL Γ) Γ E 4 (ce + 58) (sl + 1570) 18 [(0, va_rf (some b)), (1, va_rf x1), (2, va_rf x2), (3, .int x3)] [] m (k18 x1 x2 x3 m)) (x1 : Option Nat) (x2 : Option Nat) (x3 : Int32) (m : MM) : Sm (QL Γ) Γ E 4 ce sl 267 [(0, va_rf (some b)), (1, va_rf x1), (2, va_rf x2), (3, .int x3)] [] m (g_L_law_267 xs Ln k18 x1 x2 x3 m) := by
  unfold g_L_law_267
  refine z_aload_n C dL_law_267 rfl 1 rfl ?_
  refine z_aload_n C dL_law_268 rfl 0 rfl ?_
  refine z_iload_n C dL_law_269 rfl 3 rfl ?_
  refine z_iconst (v := 1) C dL_law_270 (by decide) ?_
  refine z_iadd C dL_law_271 ?_
  refine z_chk (fun hj11 => ?_)
  refine z_scr C hX hbl hbA hj11 dL_law_272 ?_
  refine z_ck (fun a3 hr3 hk3 => ?_)
  refine z_cVI [.int (xs (Int32.toNatClampNeg (x3 + 1)))] [] C mv_RL_18 (fun r0 m0 h0 => M_X9_end _ _ _ _ _ _ _ h0) rfl rfl ⟨by rw [hrm]; exact Nat.le_of_ble_eq_true rfl, by rw [hrm]; exact Nat.le_of_ble_eq_true rfl⟩ ⟨by rw [hrm]; show _ ≤ room_1.cells; omega, by rw [hrm]; show _ ≤ room_1.slots; omega⟩ hr3 hk3 rfl rfl rfl (Nat.le_of_ble_eq_true rfl) dL_law_273 (fun r3 m3 => ?_)
  refine z_aload_n C dL_law_276 rfl 2 rfl ?_
  refine z_aload_n C dL_law_277 rfl 0 rfl ?_
  refine z_iload_n C dL_law_278 rfl 3 rfl ?_
  refine z_iconst (v := 1) C dL_law_279 (by decide) ?_
  refine z_iadd C dL_law_280 ?_
  refine z_chk (fun hj12 => ?_)
  refine z_scr C hX hbl hbA hj12 dL_law_281 ?_
  refine z_ck (fun a4 hr4 hk4 => ?_)
  refine z_cVI [.int (xs (Int32.toNatClampNeg (x3 + 1)))] [.int r3] C mv_RL_22 (fun r0 m0 h0 => M_X10_end _ _ _ _ _ _ _ h0) rfl rfl ⟨by rw [hrm]; exact Nat.le_of_ble_eq_true rfl, by rw [hrm]; exact Nat.le_of_ble_eq_true rfl⟩ ⟨by rw [hrm]; show _ ≤ room_1.cells; omega, by rw [hrm]; show _ ≤ room_1.slots; omega⟩ hr4 hk4 rfl rfl rfl (Nat.le_of_ble_eq_true rfl) dL_law_282 (fun r4 m4 => ?_)
  refine z_icmp_eq (tgt := 2039) C dL_law_285 (by decide) (fun c2 => ?_) (fun c2 => ?_)
  · refine z_wid (k := ce + 58) (n := sl + 1570) (by omega) (by omega) ?_
    exact z_sub [0, 1, 2, 3] rfl (s_L_law_2039 xs Ln C hr hrm hA hX hbl hbA hB hce hsl k18 h18 x1 x2 x3 m4)
  · refine z_iconst (v := 0) C dL_law_288 (by decide) ?_
    exact z_none
set_option maxRecDepth 100000 in
def g_L_law_290 (xs : Nat → Int32) (Ln : Nat) (k18 : Option Nat → Option Nat → Int32 → MM → Option (Int32 × MM)) (x1 : Option Nat) (x2 : Option Nat) (x3 : Int32) (m : MM) : Option (Int32 × MM) :=
  chk (inb (x3 + 1) Ln = true) (ck m x1 10 (fun a5 => cal (f_X9_town a5 (xs (Int32.toNatClampNeg (x3 + 1))) m) (fun r5 m5 => chk (inb (x3 + 1) Ln = true) (ck m5 x2 11 (fun a6 => cal (f_X10_town a6 (xs (Int32.toNatClampNeg (x3 + 1))) m5) (fun r6 m6 => if r5 = r6 then (g_L_law_2039 xs Ln k18 x1 x2 x3 m6) else (none)))))))
set_option maxHeartbeats 8000000 in
set_option maxRecDepth 100000 in
theorem s_L_law_290 {Γ : GX} {E : EX} (xs : Nat → Int32) (Ln : Nat) {b ce sl : Nat} (C : Cx Γ E cL_law RL 4) (hr : Γ.meth.sig.returnType = ret) (hrm : Γ.rm = room_1) (hA : Γ.args = #[Value.ref b]) (hX : va_X b Ln xs Γ.s Γ.s.heap) (hbl : b < Γ.s.heap.size) (hbA : ¬ AA E b) (hB : E.base = Γ.s.heap.size) (hce : ce + 58 ≤ room_1.cells) (hsl : sl + 1570 ≤ room_1.slots) (k18 : Option Nat → Option Nat → Int32 → MM → Option (Int32 × MM)) (h18 : ∀ (x1 : Option Nat) (x2 : Option Nat) (x3 : Int32) (m : MM), Sm (QL Γ) Γ E 4 (ce + 58) (sl + 1570) 18 [(0, va_rf (some b)), (1, va_rf x1), (2, va_rf x2), (3, .int x3)] [] m (k18 x1 x2 x3 m)) (x1 : Option Nat) (x2 : Option Nat) (x3 : Int32) (m : MM) : Sm (QL Γ) Γ E 4 ce sl 290 [(0, va_rf (some b)), (1, va_rf x1), (2, va_rf x2), (3, .int x3)] [] m (g_L_law_290 xs Ln k18 x1 x2 x3 m) := by
  unfold g_L_law_290
  refine z_aload_n C dL_law_290 rfl 1 rfl ?_
  refine z_aload_n C dL_law_291 rfl 0 rfl ?_
  refine z_iload_n C dL_law_292 rfl 3 rfl ?_
  refine z_iconst (v := 1) C dL_law_293 (by decide) ?_
  refine z_iadd C dL_law_294 ?_
  refine z_chk (fun hj13 => ?_)
  refine z_scr C hX hbl hbA hj13 dL_law_295 ?_
  refine z_ck (fun a5 hr5 hk5 => ?_)
  refine z_cVI [.int (xs (Int32.toNatClampNeg (x3 + 1)))] [] C mv_RL_23 (fun r0 m0 h0 => M_X9_town _ _ _ _ _ _ _ h0) rfl rfl ⟨by rw [hrm]; exact Nat.le_of_ble_eq_true rfl, by rw [hrm]; exact Nat.le_of_ble_eq_true rfl⟩ ⟨by rw [hrm]; show _ ≤ room_1.cells; omega, by rw [hrm]; show _ ≤ room_1.slots; omega⟩ hr5 hk5 rfl rfl rfl (Nat.le_of_ble_eq_true rfl) dL_law_296 (fun r5 m5 => ?_)
  refine z_aload_n C dL_law_299 rfl 2 rfl ?_
  refine z_aload_n C dL_law_300 rfl 0 rfl ?_
  refine z_iload_n C dL_law_301 rfl 3 rfl ?_
  refine z_iconst (v := 1) C dL_law_302 (by decide) ?_
  refine z_iadd C dL_law_303 ?_
  refine z_chk (fun hj14 => ?_)
  refine z_scr C hX hbl hbA hj14 dL_law_304 ?_
  refine z_ck (fun a6 hr6 hk6 => ?_)
  refine z_cVI [.int (xs (Int32.toNatClampNeg (x3 + 1)))] [.int r5] C mv_RL_26 (fun r0 m0 h0 => M_X10_town _ _ _ _ _ _ _ h0) rfl rfl ⟨by rw [hrm]; exact Nat.le_of_ble_eq_true rfl, by rw [hrm]; exact Nat.le_of_ble_eq_true rfl⟩ ⟨by rw [hrm]; show _ ≤ room_1.cells; omega, by rw [hrm]; show _ ≤ room_1.slots; omega⟩ hr6 hk6 rfl rfl rfl (Nat.le_of_ble_eq_true rfl) dL_law_305 (fun r6 m6 => ?_)
  refine z_icmp_eq (tgt := 2039) C dL_law_308 (by decide) (fun c3 => ?_) (fun c3 => ?_)
  · refine z_wid (k := ce + 58) (n := sl + 1570) (by omega) (by omega) ?_
    exact z_sub [0, 1, 2, 3] rfl (s_L_law_2039 xs Ln C hr hrm hA hX hbl hbA hB hce hsl k18 h18 x1 x2 x3 m6)
  · refine z_iconst (v := 0) C dL_law_311 (by decide) ?_
    exact z_none
set_option maxRecDepth 100000 in
def g_L_law_313 (xs : Nat → Int32) (Ln : Nat) (k18 : Option Nat → Option Nat → Int32 → MM → Option (Int32 × MM)) (x1 : Option Nat) (x2 : Option Nat) (x3 : Int32) (m : MM) : Option (Int32 × MM) :=
  chk (inb (x3 + 1) Ln = true) (ck m x1 10 (fun a7 => cal (f_X9_law a7 (xs (Int32.toNatClampNeg (x3 + 1))) m) (fun r7 m7 => chk (inb (x3 + 1) Ln = true) (ck m7 x2 11 (fun a8 => cal (f_X10_law a8 (xs (Int32.toNatClampNeg (x3 + 1))) m7) (fun r8 m8 => if r7 = r8 then (g_L_law_2039 xs Ln k18 x1 x2 x3 m8) else (none)))))))
set_option maxHeartbeats 8000000 in
set_option maxRecDepth 100000 in
theorem s_L_law_313 {Γ : GX} {E : EX} (xs : Nat → Int32) (Ln : Nat) {b ce sl : Nat} (C : Cx Γ E cL_law RL 4) (hr : Γ.meth.sig.returnType = ret) (hrm : Γ.rm = room_1) (hA : Γ.args = #[Value.ref b]) (hX : va_X b Ln xs Γ.s Γ.s.heap) (hbl : b < Γ.s.heap.size) (hbA : ¬ AA E b) (hB : E.base = Γ.s.heap.size) (hce : ce + 58 ≤ room_1.cells) (hsl : sl + 1570 ≤ room_1.slots) (k18 : Option Nat → Option Nat → Int32 → MM → Option (Int32 × MM)) (h18 : ∀ (x1 : Option Nat) (x2 : Option Nat) (x3 : Int32) (m : MM), Sm (QL Γ) Γ E 4 (ce + 58) (sl + 1570) 18 [(0, va_rf (some b)), (1, va_rf x1), (2, va_rf x2), (3, .int x3)] [] m (k18 x1 x2 x3 m)) (x1 : Option Nat) (x2 : Option Nat) (x3 : Int32) (m : MM) : Sm (QL Γ) Γ E 4 ce sl 313 [(0, va_rf (some b)), (1, va_rf x1), (2, va_rf x2), (3, .int x3)] [] m (g_L_law_313 xs Ln k18 x1 x2 x3 m) := by
  unfold g_L_law_313
  refine z_aload_n C dL_law_313 rfl 1 rfl ?_
  refine z_aload_n C dL_law_314 rfl 0 rfl ?_
  refine z_iload_n C dL_law_315 rfl 3 rfl ?_
  refine z_iconst (v := 1) C dL_law_316 (by decide) ?_
  refine z_iadd C dL_law_317 ?_
  refine z_chk (fun hj15 => ?_)
  refine z_scr C hX hbl hbA hj15 dL_law_318 ?_
  refine z_ck (fun a7 hr7 hk7 => ?_)
  refine z_cVI [.int (xs (Int32.toNatClampNeg (x3 + 1)))] [] C mv_RL_27 (fun r0 m0 h0 => M_X9_law _ _ _ _ _ _ _ h0) rfl rfl ⟨by rw [hrm]; exact Nat.le_of_ble_eq_true rfl, by rw [hrm]; exact Nat.le_of_ble_eq_true rfl⟩ ⟨by rw [hrm]; show _ ≤ room_1.cells; omega, by rw [hrm]; show _ ≤ room_1.slots; omega⟩ hr7 hk7 rfl rfl rfl (Nat.le_of_ble_eq_true rfl) dL_law_319 (fun r7 m7 => ?_)
  refine z_aload_n C dL_law_322 rfl 2 rfl ?_
  refine z_aload_n C dL_law_323 rfl 0 rfl ?_
  refine z_iload_n C dL_law_324 rfl 3 rfl ?_
  refine z_iconst (v := 1) C dL_law_325 (by decide) ?_
  refine z_iadd C dL_law_326 ?_
  refine z_chk (fun hj16 => ?_)
  refine z_scr C hX hbl hbA hj16 dL_law_327 ?_
  refine z_ck (fun a8 hr8 hk8 => ?_)
  refine z_cVI [.int (xs (Int32.toNatClampNeg (x3 + 1)))] [.int r7] C mv_RL_30 (fun r0 m0 h0 => M_X10_law _ _ _ _ _ _ _ h0) rfl rfl ⟨by rw [hrm]; exact Nat.le_of_ble_eq_true rfl, by rw [hrm]; exact Nat.le_of_ble_eq_true rfl⟩ ⟨by rw [hrm]; show _ ≤ room_1.cells; omega, by rw [hrm]; show _ ≤ room_1.slots; omega⟩ hr8 hk8 rfl rfl rfl (Nat.le_of_ble_eq_true rfl) dL_law_328 (fun r8 m8 => ?_)
  refine z_icmp_eq (tgt := 2039) C dL_law_331 (by decide) (fun c4 => ?_) (fun c4 => ?_)
  · refine z_wid (k := ce + 58) (n := sl + 1570) (by omega) (by omega) ?_
    exact z_sub [0, 1, 2, 3] rfl (s_L_law_2039 xs Ln C hr hrm hA hX hbl hbA hB hce hsl k18 h18 x1 x2 x3 m8)
  · refine z_iconst (v := 0) C dL_law_334 (by decide) ?_
    exact z_none
set_option maxRecDepth 100000 in
def g_L_law_336 (xs : Nat → Int32) (Ln : Nat) (k18 : Option Nat → Option Nat → Int32 → MM → Option (Int32 × MM)) (x1 : Option Nat) (x2 : Option Nat) (x3 : Int32) (m : MM) : Option (Int32 × MM) :=
  chk (inb (x3 + 1) Ln = true) (ck m x1 10 (fun a9 => cal (f_X9_fault a9 (xs (Int32.toNatClampNeg (x3 + 1))) m) (fun r9 m9 => chk (inb (x3 + 1) Ln = true) (ck m9 x2 11 (fun a10 => cal (f_X10_fault a10 (xs (Int32.toNatClampNeg (x3 + 1))) m9) (fun r10 m10 => if r9 = r10 then (g_L_law_2039 xs Ln k18 x1 x2 x3 m10) else (none)))))))
set_option maxHeartbeats 8000000 in
set_option maxRecDepth 100000 in
theorem s_L_law_336 {Γ : GX} {E : EX} (xs : Nat → Int32) (Ln : Nat) {b ce sl : Nat} (C : Cx Γ E cL_law RL 4) (hr : Γ.meth.sig.returnType = ret) (hrm : Γ.rm = room_1) (hA : Γ.args = #[Value.ref b]) (hX : va_X b Ln xs Γ.s Γ.s.heap) (hbl : b < Γ.s.heap.size) (hbA : ¬ AA E b) (hB : E.base = Γ.s.heap.size) (hce : ce + 58 ≤ room_1.cells) (hsl : sl + 1570 ≤ room_1.slots) (k18 : Option Nat → Option Nat → Int32 → MM → Option (Int32 × MM)) (h18 : ∀ (x1 : Option Nat) (x2 : Option Nat) (x3 : Int32) (m : MM), Sm (QL Γ) Γ E 4 (ce + 58) (sl + 1570) 18 [(0, va_rf (some b)), (1, va_rf x1), (2, va_rf x2), (3, .int x3)] [] m (k18 x1 x2 x3 m)) (x1 : Option Nat) (x2 : Option Nat) (x3 : Int32) (m : MM) : Sm (QL Γ) Γ E 4 ce sl 336 [(0, va_rf (some b)), (1, va_rf x1), (2, va_rf x2), (3, .int x3)] [] m (g_L_law_336 xs Ln k18 x1 x2 x3 m) := by
  unfold g_L_law_336
  refine z_aload_n C dL_law_336 rfl 1 rfl ?_
  refine z_aload_n C dL_law_337 rfl 0 rfl ?_
  refine z_iload_n C dL_law_338 rfl 3 rfl ?_
  refine z_iconst (v := 1) C dL_law_339 (by decide) ?_
  refine z_iadd C dL_law_340 ?_
  refine z_chk (fun hj17 => ?_)
  refine z_scr C hX hbl hbA hj17 dL_law_341 ?_
  refine z_ck (fun a9 hr9 hk9 => ?_)
  refine z_cVI [.int (xs (Int32.toNatClampNeg (x3 + 1)))] [] C mv_RL_31 (fun r0 m0 h0 => M_X9_fault _ _ _ _ _ _ _ h0) rfl rfl ⟨by rw [hrm]; exact Nat.le_of_ble_eq_true rfl, by rw [hrm]; exact Nat.le_of_ble_eq_true rfl⟩ ⟨by rw [hrm]; show _ ≤ room_1.cells; omega, by rw [hrm]; show _ ≤ room_1.slots; omega⟩ hr9 hk9 rfl rfl rfl (Nat.le_of_ble_eq_true rfl) dL_law_342 (fun r9 m9 => ?_)
  refine z_aload_n C dL_law_345 rfl 2 rfl ?_
  refine z_aload_n C dL_law_346 rfl 0 rfl ?_
  refine z_iload_n C dL_law_347 rfl 3 rfl ?_
  refine z_iconst (v := 1) C dL_law_348 (by decide) ?_
  refine z_iadd C dL_law_349 ?_
  refine z_chk (fun hj18 => ?_)
  refine z_scr C hX hbl hbA hj18 dL_law_350 ?_
  refine z_ck (fun a10 hr10 hk10 => ?_)
  refine z_cVI [.int (xs (Int32.toNatClampNeg (x3 + 1)))] [.int r9] C mv_RL_34 (fun r0 m0 h0 => M_X10_fault _ _ _ _ _ _ _ h0) rfl rfl ⟨by rw [hrm]; exact Nat.le_of_ble_eq_true rfl, by rw [hrm]; exact Nat.le_of_ble_eq_true rfl⟩ ⟨by rw [hrm]; show _ ≤ room_1.cells; omega, by rw [hrm]; show _ ≤ room_1.slots; omega⟩ hr10 hk10 rfl rfl rfl (Nat.le_of_ble_eq_true rfl) dL_law_351 (fun r10 m10 => ?_)
  refine z_icmp_eq (tgt := 2039) C dL_law_354 (by decide) (fun c5 => ?_) (fun c5 => ?_)
  · refine z_wid (k := ce + 58) (n := sl + 1570) (by omega) (by omega) ?_
    exact z_sub [0, 1, 2, 3] rfl (s_L_law_2039 xs Ln C hr hrm hA hX hbl hbA hB hce hsl k18 h18 x1 x2 x3 m10)
  · refine z_iconst (v := 0) C dL_law_357 (by decide) ?_
    exact z_none
set_option maxRecDepth 100000 in
def g_L_law_359 (xs : Nat → Int32) (Ln : Nat) (k18 : Option Nat → Option Nat → Int32 → MM → Option (Int32 × MM)) (x1 : Option Nat) (x2 : Option Nat) (x3 : Int32) (m : MM) : Option (Int32 × MM) :=
  chk (inb (x3 + 1) Ln = true) (chk (inb (x3 + 2) Ln = true) (ck m x1 10 (fun a11 => cal (f_X9_about a11 (xs (Int32.toNatClampNeg (x3 + 1))) (xs (Int32.toNatClampNeg (x3 + 2))) m) (fun r11 m11 => chk (inb (x3 + 1) Ln = true) (chk (inb (x3 + 2) Ln = true) (ck m11 x2 11 (fun a12 => cal (f_X10_about a12 (xs (Int32.toNatClampNeg (x3 + 1))) (xs (Int32.toNatClampNeg (x3 + 2))) m11) (fun r12 m12 => if r11 = r12 then (g_L_law_2039 xs Ln k18 x1 x2 x3 m12) else (none)))))))))
set_option maxHeartbeats 8000000 in
set_option maxRecDepth 100000 in
theorem s_L_law_359 {Γ : GX} {E : EX} (xs : Nat → Int32) (Ln : Nat) {b ce sl : Nat} (C : Cx Γ E cL_law RL 4) (hr : Γ.meth.sig.returnType = ret) (hrm : Γ.rm = room_1) (hA : Γ.args = #[Value.ref b]) (hX : va_X b Ln xs Γ.s Γ.s.heap) (hbl : b < Γ.s.heap.size) (hbA : ¬ AA E b) (hB : E.base = Γ.s.heap.size) (hce : ce + 58 ≤ room_1.cells) (hsl : sl + 1570 ≤ room_1.slots) (k18 : Option Nat → Option Nat → Int32 → MM → Option (Int32 × MM)) (h18 : ∀ (x1 : Option Nat) (x2 : Option Nat) (x3 : Int32) (m : MM), Sm (QL Γ) Γ E 4 (ce + 58) (sl + 1570) 18 [(0, va_rf (some b)), (1, va_rf x1), (2, va_rf x2), (3, .int x3)] [] m (k18 x1 x2 x3 m)) (x1 : Option Nat) (x2 : Option Nat) (x3 : Int32) (m : MM) : Sm (QL Γ) Γ E 4 ce sl 359 [(0, va_rf (some b)), (1, va_rf x1), (2, va_rf x2), (3, .int x3)] [] m (g_L_law_359 xs Ln k18 x1 x2 x3 m) := by
  unfold g_L_law_359
  refine z_aload_n C dL_law_359 rfl 1 rfl ?_
  refine z_aload_n C dL_law_360 rfl 0 rfl ?_
  refine z_iload_n C dL_law_361 rfl 3 rfl ?_
  refine z_iconst (v := 1) C dL_law_362 (by decide) ?_
  refine z_iadd C dL_law_363 ?_
  refine z_chk (fun hj19 => ?_)
  refine z_scr C hX hbl hbA hj19 dL_law_364 ?_
  refine z_aload_n C dL_law_365 rfl 0 rfl ?_
  refine z_iload_n C dL_law_366 rfl 3 rfl ?_
  refine z_iconst (v := 2) C dL_law_367 (by decide) ?_
  refine z_iadd C dL_law_368 ?_
  refine z_chk (fun hj20 => ?_)
  refine z_scr C hX hbl hbA hj20 dL_law_369 ?_
  refine z_ck (fun a11 hr11 hk11 => ?_)
  refine z_cVI [.int (xs (Int32.toNatClampNeg (x3 + 1))), .int (xs (Int32.toNatClampNeg (x3 + 2)))] [] C mv_RL_35 (fun r0 m0 h0 => M_X9_about _ _ _ _ _ _ _ _ h0) rfl rfl ⟨by rw [hrm]; exact Nat.le_of_ble_eq_true rfl, by rw [hrm]; exact Nat.le_of_ble_eq_true rfl⟩ ⟨by rw [hrm]; show _ ≤ room_1.cells; omega, by rw [hrm]; show _ ≤ room_1.slots; omega⟩ hr11 hk11 rfl rfl rfl (Nat.le_of_ble_eq_true rfl) dL_law_370 (fun r11 m11 => ?_)
  refine z_aload_n C dL_law_373 rfl 2 rfl ?_
  refine z_aload_n C dL_law_374 rfl 0 rfl ?_
  refine z_iload_n C dL_law_375 rfl 3 rfl ?_
  refine z_iconst (v := 1) C dL_law_376 (by decide) ?_
  refine z_iadd C dL_law_377 ?_
  refine z_chk (fun hj21 => ?_)
  refine z_scr C hX hbl hbA hj21 dL_law_378 ?_
  refine z_aload_n C dL_law_379 rfl 0 rfl ?_
  refine z_iload_n C dL_law_380 rfl 3 rfl ?_
  refine z_iconst (v := 2) C dL_law_381 (by decide) ?_
  refine z_iadd C dL_law_382 ?_
  refine z_chk (fun hj22 => ?_)
  refine z_scr C hX hbl hbA hj22 dL_law_383 ?_
  refine z_ck (fun a12 hr12 hk12 => ?_)
  refine z_cVI [.int (xs (Int32.toNatClampNeg (x3 + 1))), .int (xs (Int32.toNatClampNeg (x3 + 2)))] [.int r11] C mv_RL_39 (fun r0 m0 h0 => M_X10_about _ _ _ _ _ _ _ _ h0) rfl rfl ⟨by rw [hrm]; exact Nat.le_of_ble_eq_true rfl, by rw [hrm]; exact Nat.le_of_ble_eq_true rfl⟩ ⟨by rw [hrm]; show _ ≤ room_1.cells; omega, by rw [hrm]; show _ ≤ room_1.slots; omega⟩ hr12 hk12 rfl rfl rfl (Nat.le_of_ble_eq_true rfl) dL_law_384 (fun r12 m12 => ?_)
  refine z_icmp_eq (tgt := 2039) C dL_law_387 (by decide) (fun c6 => ?_) (fun c6 => ?_)
  · refine z_wid (k := ce + 58) (n := sl + 1570) (by omega) (by omega) ?_
    exact z_sub [0, 1, 2, 3] rfl (s_L_law_2039 xs Ln C hr hrm hA hX hbl hbA hB hce hsl k18 h18 x1 x2 x3 m12)
  · refine z_iconst (v := 0) C dL_law_390 (by decide) ?_
    exact z_none
set_option maxRecDepth 100000 in
def g_L_law_392 (xs : Nat → Int32) (Ln : Nat) (k18 : Option Nat → Option Nat → Int32 → MM → Option (Int32 × MM)) (x1 : Option Nat) (x2 : Option Nat) (x3 : Int32) (m : MM) : Option (Int32 × MM) :=
  chk (inb (x3 + 1) Ln = true) (chk (inb (x3 + 2) Ln = true) (chk (inb (x3 + 3) Ln = true) (ck m x1 10 (fun a13 => cal (f_X9_thing a13 (xs (Int32.toNatClampNeg (x3 + 1))) (xs (Int32.toNatClampNeg (x3 + 2))) (xs (Int32.toNatClampNeg (x3 + 3))) m) (fun r13 m13 => chk (inb (x3 + 1) Ln = true) (chk (inb (x3 + 2) Ln = true) (chk (inb (x3 + 3) Ln = true) (ck m13 x2 11 (fun a14 => cal (f_X10_thing a14 (xs (Int32.toNatClampNeg (x3 + 1))) (xs (Int32.toNatClampNeg (x3 + 2))) (xs (Int32.toNatClampNeg (x3 + 3))) m13) (fun r14 m14 => if r13 = r14 then (g_L_law_2039 xs Ln k18 x1 x2 x3 m14) else (none)))))))))))
set_option maxHeartbeats 8000000 in
set_option maxRecDepth 100000 in
theorem s_L_law_392 {Γ : GX} {E : EX} (xs : Nat → Int32) (Ln : Nat) {b ce sl : Nat} (C : Cx Γ E cL_law RL 4) (hr : Γ.meth.sig.returnType = ret) (hrm : Γ.rm = room_1) (hA : Γ.args = #[Value.ref b]) (hX : va_X b Ln xs Γ.s Γ.s.heap) (hbl : b < Γ.s.heap.size) (hbA : ¬ AA E b) (hB : E.base = Γ.s.heap.size) (hce : ce + 58 ≤ room_1.cells) (hsl : sl + 1570 ≤ room_1.slots) (k18 : Option Nat → Option Nat → Int32 → MM → Option (Int32 × MM)) (h18 : ∀ (x1 : Option Nat) (x2 : Option Nat) (x3 : Int32) (m : MM), Sm (QL Γ) Γ E 4 (ce + 58) (sl + 1570) 18 [(0, va_rf (some b)), (1, va_rf x1), (2, va_rf x2), (3, .int x3)] [] m (k18 x1 x2 x3 m)) (x1 : Option Nat) (x2 : Option Nat) (x3 : Int32) (m : MM) : Sm (QL Γ) Γ E 4 ce sl 392 [(0, va_rf (some b)), (1, va_rf x1), (2, va_rf x2), (3, .int x3)] [] m (g_L_law_392 xs Ln k18 x1 x2 x3 m) := by
  unfold g_L_law_392
  refine z_aload_n C dL_law_392 rfl 1 rfl ?_
  refine z_aload_n C dL_law_393 rfl 0 rfl ?_
  refine z_iload_n C dL_law_394 rfl 3 rfl ?_
  refine z_iconst (v := 1) C dL_law_395 (by decide) ?_
  refine z_iadd C dL_law_396 ?_
  refine z_chk (fun hj23 => ?_)
  refine z_scr C hX hbl hbA hj23 dL_law_397 ?_
  refine z_aload_n C dL_law_398 rfl 0 rfl ?_
  refine z_iload_n C dL_law_399 rfl 3 rfl ?_
  refine z_iconst (v := 2) C dL_law_400 (by decide) ?_
  refine z_iadd C dL_law_401 ?_
  refine z_chk (fun hj24 => ?_)
  refine z_scr C hX hbl hbA hj24 dL_law_402 ?_
  refine z_aload_n C dL_law_403 rfl 0 rfl ?_
  refine z_iload_n C dL_law_404 rfl 3 rfl ?_
  refine z_iconst (v := 3) C dL_law_405 (by decide) ?_
  refine z_iadd C dL_law_406 ?_
  refine z_chk (fun hj25 => ?_)
  refine z_scr C hX hbl hbA hj25 dL_law_407 ?_
  refine z_ck (fun a13 hr13 hk13 => ?_)
  refine z_cVI [.int (xs (Int32.toNatClampNeg (x3 + 1))), .int (xs (Int32.toNatClampNeg (x3 + 2))), .int (xs (Int32.toNatClampNeg (x3 + 3)))] [] C mv_RL_40 (fun r0 m0 h0 => M_X9_thing _ _ _ _ _ _ _ _ _ h0) rfl rfl ⟨by rw [hrm]; exact Nat.le_of_ble_eq_true rfl, by rw [hrm]; exact Nat.le_of_ble_eq_true rfl⟩ ⟨by rw [hrm]; show _ ≤ room_1.cells; omega, by rw [hrm]; show _ ≤ room_1.slots; omega⟩ hr13 hk13 rfl rfl rfl (Nat.le_of_ble_eq_true rfl) dL_law_408 (fun r13 m13 => ?_)
  refine z_aload_n C dL_law_411 rfl 2 rfl ?_
  refine z_aload_n C dL_law_412 rfl 0 rfl ?_
  refine z_iload_n C dL_law_413 rfl 3 rfl ?_
  refine z_iconst (v := 1) C dL_law_414 (by decide) ?_
  refine z_iadd C dL_law_415 ?_
  refine z_chk (fun hj26 => ?_)
  refine z_scr C hX hbl hbA hj26 dL_law_416 ?_
  refine z_aload_n C dL_law_417 rfl 0 rfl ?_
  refine z_iload_n C dL_law_418 rfl 3 rfl ?_
  refine z_iconst (v := 2) C dL_law_419 (by decide) ?_
  refine z_iadd C dL_law_420 ?_
  refine z_chk (fun hj27 => ?_)
  refine z_scr C hX hbl hbA hj27 dL_law_421 ?_
  refine z_aload_n C dL_law_422 rfl 0 rfl ?_
  refine z_iload_n C dL_law_423 rfl 3 rfl ?_
  refine z_iconst (v := 3) C dL_law_424 (by decide) ?_
  refine z_iadd C dL_law_425 ?_
  refine z_chk (fun hj28 => ?_)
  refine z_scr C hX hbl hbA hj28 dL_law_426 ?_
  refine z_ck (fun a14 hr14 hk14 => ?_)
  refine z_cVI [.int (xs (Int32.toNatClampNeg (x3 + 1))), .int (xs (Int32.toNatClampNeg (x3 + 2))), .int (xs (Int32.toNatClampNeg (x3 + 3)))] [.int r13] C mv_RL_44 (fun r0 m0 h0 => M_X10_thing _ _ _ _ _ _ _ _ _ h0) rfl rfl ⟨by rw [hrm]; exact Nat.le_of_ble_eq_true rfl, by rw [hrm]; exact Nat.le_of_ble_eq_true rfl⟩ ⟨by rw [hrm]; show _ ≤ room_1.cells; omega, by rw [hrm]; show _ ≤ room_1.slots; omega⟩ hr14 hk14 rfl rfl rfl (Nat.le_of_ble_eq_true rfl) dL_law_427 (fun r14 m14 => ?_)
  refine z_icmp_eq (tgt := 2039) C dL_law_430 (by decide) (fun c7 => ?_) (fun c7 => ?_)
  · refine z_wid (k := ce + 58) (n := sl + 1570) (by omega) (by omega) ?_
    exact z_sub [0, 1, 2, 3] rfl (s_L_law_2039 xs Ln C hr hrm hA hX hbl hbA hB hce hsl k18 h18 x1 x2 x3 m14)
  · refine z_iconst (v := 0) C dL_law_433 (by decide) ?_
    exact z_none
set_option maxRecDepth 100000 in
def g_L_law_435 (xs : Nat → Int32) (Ln : Nat) (k18 : Option Nat → Option Nat → Int32 → MM → Option (Int32 × MM)) (x1 : Option Nat) (x2 : Option Nat) (x3 : Int32) (m : MM) : Option (Int32 × MM) :=
  chk (inb (x3 + 1) Ln = true) (chk (inb (x3 + 2) Ln = true) (ck m x1 10 (fun a15 => cal (f_X9_ruled a15 (xs (Int32.toNatClampNeg (x3 + 1))) (xs (Int32.toNatClampNeg (x3 + 2))) m) (fun r15 m15 => chk (inb (x3 + 1) Ln = true) (chk (inb (x3 + 2) Ln = true) (ck m15 x2 11 (fun a16 => cal (f_X10_ruled a16 (xs (Int32.toNatClampNeg (x3 + 1))) (xs (Int32.toNatClampNeg (x3 + 2))) m15) (fun r16 m16 => if r15 = r16 then (g_L_law_2039 xs Ln k18 x1 x2 x3 m16) else (none)))))))))
set_option maxHeartbeats 8000000 in
set_option maxRecDepth 100000 in
theorem s_L_law_435 {Γ : GX} {E : EX} (xs : Nat → Int32) (Ln : Nat) {b ce sl : Nat} (C : Cx Γ E cL_law RL 4) (hr : Γ.meth.sig.returnType = ret) (hrm : Γ.rm = room_1) (hA : Γ.args = #[Value.ref b]) (hX : va_X b Ln xs Γ.s Γ.s.heap) (hbl : b < Γ.s.heap.size) (hbA : ¬ AA E b) (hB : E.base = Γ.s.heap.size) (hce : ce + 58 ≤ room_1.cells) (hsl : sl + 1570 ≤ room_1.slots) (k18 : Option Nat → Option Nat → Int32 → MM → Option (Int32 × MM)) (h18 : ∀ (x1 : Option Nat) (x2 : Option Nat) (x3 : Int32) (m : MM), Sm (QL Γ) Γ E 4 (ce + 58) (sl + 1570) 18 [(0, va_rf (some b)), (1, va_rf x1), (2, va_rf x2), (3, .int x3)] [] m (k18 x1 x2 x3 m)) (x1 : Option Nat) (x2 : Option Nat) (x3 : Int32) (m : MM) : Sm (QL Γ) Γ E 4 ce sl 435 [(0, va_rf (some b)), (1, va_rf x1), (2, va_rf x2), (3, .int x3)] [] m (g_L_law_435 xs Ln k18 x1 x2 x3 m) := by
  unfold g_L_law_435
  refine z_aload_n C dL_law_435 rfl 1 rfl ?_
  refine z_aload_n C dL_law_436 rfl 0 rfl ?_
  refine z_iload_n C dL_law_437 rfl 3 rfl ?_
  refine z_iconst (v := 1) C dL_law_438 (by decide) ?_
  refine z_iadd C dL_law_439 ?_
  refine z_chk (fun hj29 => ?_)
  refine z_scr C hX hbl hbA hj29 dL_law_440 ?_
  refine z_aload_n C dL_law_441 rfl 0 rfl ?_
  refine z_iload_n C dL_law_442 rfl 3 rfl ?_
  refine z_iconst (v := 2) C dL_law_443 (by decide) ?_
  refine z_iadd C dL_law_444 ?_
  refine z_chk (fun hj30 => ?_)
  refine z_scr C hX hbl hbA hj30 dL_law_445 ?_
  refine z_ck (fun a15 hr15 hk15 => ?_)
  refine z_cVI [.int (xs (Int32.toNatClampNeg (x3 + 1))), .int (xs (Int32.toNatClampNeg (x3 + 2)))] [] C mv_RL_45 (fun r0 m0 h0 => M_X9_ruled _ _ _ _ _ _ _ _ h0) rfl rfl ⟨by rw [hrm]; exact Nat.le_of_ble_eq_true rfl, by rw [hrm]; exact Nat.le_of_ble_eq_true rfl⟩ ⟨by rw [hrm]; show _ ≤ room_1.cells; omega, by rw [hrm]; show _ ≤ room_1.slots; omega⟩ hr15 hk15 rfl rfl rfl (Nat.le_of_ble_eq_true rfl) dL_law_446 (fun r15 m15 => ?_)
  refine z_aload_n C dL_law_449 rfl 2 rfl ?_
  refine z_aload_n C dL_law_450 rfl 0 rfl ?_
  refine z_iload_n C dL_law_451 rfl 3 rfl ?_
  refine z_iconst (v := 1) C dL_law_452 (by decide) ?_
  refine z_iadd C dL_law_453 ?_
  refine z_chk (fun hj31 => ?_)
  refine z_scr C hX hbl hbA hj31 dL_law_454 ?_
  refine z_aload_n C dL_law_455 rfl 0 rfl ?_
  refine z_iload_n C dL_law_456 rfl 3 rfl ?_
  refine z_iconst (v := 2) C dL_law_457 (by decide) ?_
  refine z_iadd C dL_law_458 ?_
  refine z_chk (fun hj32 => ?_)
  refine z_scr C hX hbl hbA hj32 dL_law_459 ?_
  refine z_ck (fun a16 hr16 hk16 => ?_)
  refine z_cVI [.int (xs (Int32.toNatClampNeg (x3 + 1))), .int (xs (Int32.toNatClampNeg (x3 + 2)))] [.int r15] C mv_RL_48 (fun r0 m0 h0 => M_X10_ruled _ _ _ _ _ _ _ _ h0) rfl rfl ⟨by rw [hrm]; exact Nat.le_of_ble_eq_true rfl, by rw [hrm]; exact Nat.le_of_ble_eq_true rfl⟩ ⟨by rw [hrm]; show _ ≤ room_1.cells; omega, by rw [hrm]; show _ ≤ room_1.slots; omega⟩ hr16 hk16 rfl rfl rfl (Nat.le_of_ble_eq_true rfl) dL_law_460 (fun r16 m16 => ?_)
  refine z_icmp_eq (tgt := 2039) C dL_law_463 (by decide) (fun c8 => ?_) (fun c8 => ?_)
  · refine z_wid (k := ce + 58) (n := sl + 1570) (by omega) (by omega) ?_
    exact z_sub [0, 1, 2, 3] rfl (s_L_law_2039 xs Ln C hr hrm hA hX hbl hbA hB hce hsl k18 h18 x1 x2 x3 m16)
  · refine z_iconst (v := 0) C dL_law_466 (by decide) ?_
    exact z_none
set_option maxRecDepth 100000 in
def g_L_law_468 (xs : Nat → Int32) (Ln : Nat) (k18 : Option Nat → Option Nat → Int32 → MM → Option (Int32 × MM)) (x1 : Option Nat) (x2 : Option Nat) (x3 : Int32) (m : MM) : Option (Int32 × MM) :=
  chk (inb (x3 + 1) Ln = true) (chk (inb (x3 + 2) Ln = true) (chk (inb (x3 + 3) Ln = true) (chk (inb (x3 + 4) Ln = true) (chk (inb (x3 + 5) Ln = true) (chk (inb (x3 + 6) Ln = true) (chk (inb (x3 + 7) Ln = true) (ck m x1 10 (fun a17 => cal (f_X9_add a17 (xs (Int32.toNatClampNeg (x3 + 1))) (xs (Int32.toNatClampNeg (x3 + 2))) (xs (Int32.toNatClampNeg (x3 + 3))) (xs (Int32.toNatClampNeg (x3 + 4))) (xs (Int32.toNatClampNeg (x3 + 5))) (xs (Int32.toNatClampNeg (x3 + 6))) (xs (Int32.toNatClampNeg (x3 + 7))) m) (fun r17 m17 => chk (inb (x3 + 1) Ln = true) (chk (inb (x3 + 2) Ln = true) (chk (inb (x3 + 3) Ln = true) (chk (inb (x3 + 4) Ln = true) (chk (inb (x3 + 5) Ln = true) (chk (inb (x3 + 6) Ln = true) (chk (inb (x3 + 7) Ln = true) (ck m17 x2 11 (fun a18 => cal (f_X10_add a18 (xs (Int32.toNatClampNeg (x3 + 1))) (xs (Int32.toNatClampNeg (x3 + 2))) (xs (Int32.toNatClampNeg (x3 + 3))) (xs (Int32.toNatClampNeg (x3 + 4))) (xs (Int32.toNatClampNeg (x3 + 5))) (xs (Int32.toNatClampNeg (x3 + 6))) (xs (Int32.toNatClampNeg (x3 + 7))) m17) (fun r18 m18 => if r17 = r18 then (g_L_law_2039 xs Ln k18 x1 x2 x3 m18) else (none)))))))))))))))))))
set_option maxHeartbeats 8000000 in
set_option maxRecDepth 100000 in
theorem s_L_law_468 {Γ : GX} {E : EX} (xs : Nat → Int32) (Ln : Nat) {b ce sl : Nat} (C : Cx Γ E cL_law RL 4) (hr : Γ.meth.sig.returnType = ret) (hrm : Γ.rm = room_1) (hA : Γ.args = #[Value.ref b]) (hX : va_X b Ln xs Γ.s Γ.s.heap) (hbl : b < Γ.s.heap.size) (hbA : ¬ AA E b) (hB : E.base = Γ.s.heap.size) (hce : ce + 58 ≤ room_1.cells) (hsl : sl + 1570 ≤ room_1.slots) (k18 : Option Nat → Option Nat → Int32 → MM → Option (Int32 × MM)) (h18 : ∀ (x1 : Option Nat) (x2 : Option Nat) (x3 : Int32) (m : MM), Sm (QL Γ) Γ E 4 (ce + 58) (sl + 1570) 18 [(0, va_rf (some b)), (1, va_rf x1), (2, va_rf x2), (3, .int x3)] [] m (k18 x1 x2 x3 m)) (x1 : Option Nat) (x2 : Option Nat) (x3 : Int32) (m : MM) : Sm (QL Γ) Γ E 4 ce sl 468 [(0, va_rf (some b)), (1, va_rf x1), (2, va_rf x2), (3, .int x3)] [] m (g_L_law_468 xs Ln k18 x1 x2 x3 m) := by
  unfold g_L_law_468
  refine z_aload_n C dL_law_468 rfl 1 rfl ?_
  refine z_aload_n C dL_law_469 rfl 0 rfl ?_
  refine z_iload_n C dL_law_470 rfl 3 rfl ?_
  refine z_iconst (v := 1) C dL_law_471 (by decide) ?_
  refine z_iadd C dL_law_472 ?_
  refine z_chk (fun hj33 => ?_)
  refine z_scr C hX hbl hbA hj33 dL_law_473 ?_
  refine z_aload_n C dL_law_474 rfl 0 rfl ?_
  refine z_iload_n C dL_law_475 rfl 3 rfl ?_
  refine z_iconst (v := 2) C dL_law_476 (by decide) ?_
  refine z_iadd C dL_law_477 ?_
  refine z_chk (fun hj34 => ?_)
  refine z_scr C hX hbl hbA hj34 dL_law_478 ?_
  refine z_aload_n C dL_law_479 rfl 0 rfl ?_
  refine z_iload_n C dL_law_480 rfl 3 rfl ?_
  refine z_iconst (v := 3) C dL_law_481 (by decide) ?_
  refine z_iadd C dL_law_482 ?_
  refine z_chk (fun hj35 => ?_)
  refine z_scr C hX hbl hbA hj35 dL_law_483 ?_
  refine z_aload_n C dL_law_484 rfl 0 rfl ?_
  refine z_iload_n C dL_law_485 rfl 3 rfl ?_
  refine z_iconst (v := 4) C dL_law_486 (by decide) ?_
  refine z_iadd C dL_law_487 ?_
  refine z_chk (fun hj36 => ?_)
  refine z_scr C hX hbl hbA hj36 dL_law_488 ?_
  refine z_aload_n C dL_law_489 rfl 0 rfl ?_
  refine z_iload_n C dL_law_490 rfl 3 rfl ?_
  refine z_iconst (v := 5) C dL_law_491 (by decide) ?_
  refine z_iadd C dL_law_492 ?_
  refine z_chk (fun hj37 => ?_)
  refine z_scr C hX hbl hbA hj37 dL_law_493 ?_
  refine z_aload_n C dL_law_494 rfl 0 rfl ?_
  refine z_iload_n C dL_law_495 rfl 3 rfl ?_
  refine z_bipush (v := 6) C dL_law_496 (by decide) ?_
  refine z_iadd C dL_law_498 ?_
  refine z_chk (fun hj38 => ?_)
  refine z_scr C hX hbl hbA hj38 dL_law_499 ?_
  refine z_aload_n C dL_law_500 rfl 0 rfl ?_
  refine z_iload_n C dL_law_501 rfl 3 rfl ?_
  refine z_bipush (v := 7) C dL_law_502 (by decide) ?_
  refine z_iadd C dL_law_504 ?_
  refine z_chk (fun hj39 => ?_)
  refine z_scr C hX hbl hbA hj39 dL_law_505 ?_
  refine z_ck (fun a17 hr17 hk17 => ?_)
  refine z_cVI [.int (xs (Int32.toNatClampNeg (x3 + 1))), .int (xs (Int32.toNatClampNeg (x3 + 2))), .int (xs (Int32.toNatClampNeg (x3 + 3))), .int (xs (Int32.toNatClampNeg (x3 + 4))), .int (xs (Int32.toNatClampNeg (x3 + 5))), .int (xs (Int32.toNatClampNeg (x3 + 6))), .int (xs (Int32.toNatClampNeg (x3 + 7)))] [] C mv_RL_49 (fun r0 m0 h0 => M_X9_add _ _ _ _ _ _ _ _ _ _ _ _ _ h0) rfl rfl ⟨by rw [hrm]; exact Nat.le_of_ble_eq_true rfl, by rw [hrm]; exact Nat.le_of_ble_eq_true rfl⟩ ⟨by rw [hrm]; show _ ≤ room_1.cells; omega, by rw [hrm]; show _ ≤ room_1.slots; omega⟩ hr17 hk17 rfl rfl rfl (Nat.le_of_ble_eq_true rfl) dL_law_506 (fun r17 m17 => ?_)
  refine z_aload_n C dL_law_509 rfl 2 rfl ?_
  refine z_aload_n C dL_law_510 rfl 0 rfl ?_
  refine z_iload_n C dL_law_511 rfl 3 rfl ?_
  refine z_iconst (v := 1) C dL_law_512 (by decide) ?_
  refine z_iadd C dL_law_513 ?_
  refine z_chk (fun hj40 => ?_)
  refine z_scr C hX hbl hbA hj40 dL_law_514 ?_
  refine z_aload_n C dL_law_515 rfl 0 rfl ?_
  refine z_iload_n C dL_law_516 rfl 3 rfl ?_
  refine z_iconst (v := 2) C dL_law_517 (by decide) ?_
  refine z_iadd C dL_law_518 ?_
  refine z_chk (fun hj41 => ?_)
  refine z_scr C hX hbl hbA hj41 dL_law_519 ?_
  refine z_aload_n C dL_law_520 rfl 0 rfl ?_
  refine z_iload_n C dL_law_521 rfl 3 rfl ?_
  refine z_iconst (v := 3) C dL_law_522 (by decide) ?_
  refine z_iadd C dL_law_523 ?_
  refine z_chk (fun hj42 => ?_)
  refine z_scr C hX hbl hbA hj42 dL_law_524 ?_
  refine z_aload_n C dL_law_525 rfl 0 rfl ?_
  refine z_iload_n C dL_law_526 rfl 3 rfl ?_
  refine z_iconst (v := 4) C dL_law_527 (by decide) ?_
  refine z_iadd C dL_law_528 ?_
  refine z_chk (fun hj43 => ?_)
  refine z_scr C hX hbl hbA hj43 dL_law_529 ?_
  refine z_aload_n C dL_law_530 rfl 0 rfl ?_
  refine z_iload_n C dL_law_531 rfl 3 rfl ?_
  refine z_iconst (v := 5) C dL_law_532 (by decide) ?_
  refine z_iadd C dL_law_533 ?_
  refine z_chk (fun hj44 => ?_)
  refine z_scr C hX hbl hbA hj44 dL_law_534 ?_
  refine z_aload_n C dL_law_535 rfl 0 rfl ?_
  refine z_iload_n C dL_law_536 rfl 3 rfl ?_
  refine z_bipush (v := 6) C dL_law_537 (by decide) ?_
  refine z_iadd C dL_law_539 ?_
  refine z_chk (fun hj45 => ?_)
  refine z_scr C hX hbl hbA hj45 dL_law_540 ?_
  refine z_aload_n C dL_law_541 rfl 0 rfl ?_
  refine z_iload_n C dL_law_542 rfl 3 rfl ?_
  refine z_bipush (v := 7) C dL_law_543 (by decide) ?_
  refine z_iadd C dL_law_545 ?_
  refine z_chk (fun hj46 => ?_)
  refine z_scr C hX hbl hbA hj46 dL_law_546 ?_
  refine z_ck (fun a18 hr18 hk18 => ?_)
  refine z_cVI [.int (xs (Int32.toNatClampNeg (x3 + 1))), .int (xs (Int32.toNatClampNeg (x3 + 2))), .int (xs (Int32.toNatClampNeg (x3 + 3))), .int (xs (Int32.toNatClampNeg (x3 + 4))), .int (xs (Int32.toNatClampNeg (x3 + 5))), .int (xs (Int32.toNatClampNeg (x3 + 6))), .int (xs (Int32.toNatClampNeg (x3 + 7)))] [.int r17] C mv_RL_53 (fun r0 m0 h0 => M_X10_add _ _ _ _ _ _ _ _ _ _ _ _ _ h0) rfl rfl ⟨by rw [hrm]; exact Nat.le_of_ble_eq_true rfl, by rw [hrm]; exact Nat.le_of_ble_eq_true rfl⟩ ⟨by rw [hrm]; show _ ≤ room_1.cells; omega, by rw [hrm]; show _ ≤ room_1.slots; omega⟩ hr18 hk18 rfl rfl rfl (Nat.le_of_ble_eq_true rfl) dL_law_547 (fun r18 m18 => ?_)
  refine z_icmp_eq (tgt := 2039) C dL_law_550 (by decide) (fun c9 => ?_) (fun c9 => ?_)
  · refine z_wid (k := ce + 58) (n := sl + 1570) (by omega) (by omega) ?_
    exact z_sub [0, 1, 2, 3] rfl (s_L_law_2039 xs Ln C hr hrm hA hX hbl hbA hB hce hsl k18 h18 x1 x2 x3 m18)
  · refine z_iconst (v := 0) C dL_law_553 (by decide) ?_
    exact z_none
set_option maxRecDepth 100000 in
def g_L_law_555 (xs : Nat → Int32) (Ln : Nat) (k18 : Option Nat → Option Nat → Int32 → MM → Option (Int32 × MM)) (x1 : Option Nat) (x2 : Option Nat) (x3 : Int32) (m : MM) : Option (Int32 × MM) :=
  chk (inb (x3 + 1) Ln = true) (chk (inb (x3 + 2) Ln = true) (chk (inb (x3 + 3) Ln = true) (ck m x1 10 (fun a19 => cal (f_X9_gone a19 (xs (Int32.toNatClampNeg (x3 + 1))) (xs (Int32.toNatClampNeg (x3 + 2))) (xs (Int32.toNatClampNeg (x3 + 3))) m) (fun r19 m19 => chk (inb (x3 + 1) Ln = true) (chk (inb (x3 + 2) Ln = true) (chk (inb (x3 + 3) Ln = true) (ck m19 x2 11 (fun a20 => cal (f_X10_gone a20 (xs (Int32.toNatClampNeg (x3 + 1))) (xs (Int32.toNatClampNeg (x3 + 2))) (xs (Int32.toNatClampNeg (x3 + 3))) m19) (fun r20 m20 => if r19 = r20 then (g_L_law_2039 xs Ln k18 x1 x2 x3 m20) else (none)))))))))))
set_option maxHeartbeats 8000000 in
set_option maxRecDepth 100000 in
theorem s_L_law_555 {Γ : GX} {E : EX} (xs : Nat → Int32) (Ln : Nat) {b ce sl : Nat} (C : Cx Γ E cL_law RL 4) (hr : Γ.meth.sig.returnType = ret) (hrm : Γ.rm = room_1) (hA : Γ.args = #[Value.ref b]) (hX : va_X b Ln xs Γ.s Γ.s.heap) (hbl : b < Γ.s.heap.size) (hbA : ¬ AA E b) (hB : E.base = Γ.s.heap.size) (hce : ce + 58 ≤ room_1.cells) (hsl : sl + 1570 ≤ room_1.slots) (k18 : Option Nat → Option Nat → Int32 → MM → Option (Int32 × MM)) (h18 : ∀ (x1 : Option Nat) (x2 : Option Nat) (x3 : Int32) (m : MM), Sm (QL Γ) Γ E 4 (ce + 58) (sl + 1570) 18 [(0, va_rf (some b)), (1, va_rf x1), (2, va_rf x2), (3, .int x3)] [] m (k18 x1 x2 x3 m)) (x1 : Option Nat) (x2 : Option Nat) (x3 : Int32) (m : MM) : Sm (QL Γ) Γ E 4 ce sl 555 [(0, va_rf (some b)), (1, va_rf x1), (2, va_rf x2), (3, .int x3)] [] m (g_L_law_555 xs Ln k18 x1 x2 x3 m) := by
  unfold g_L_law_555
  refine z_aload_n C dL_law_555 rfl 1 rfl ?_
  refine z_aload_n C dL_law_556 rfl 0 rfl ?_
  refine z_iload_n C dL_law_557 rfl 3 rfl ?_
  refine z_iconst (v := 1) C dL_law_558 (by decide) ?_
  refine z_iadd C dL_law_559 ?_
  refine z_chk (fun hj47 => ?_)
  refine z_scr C hX hbl hbA hj47 dL_law_560 ?_
  refine z_aload_n C dL_law_561 rfl 0 rfl ?_
  refine z_iload_n C dL_law_562 rfl 3 rfl ?_
  refine z_iconst (v := 2) C dL_law_563 (by decide) ?_
  refine z_iadd C dL_law_564 ?_
  refine z_chk (fun hj48 => ?_)
  refine z_scr C hX hbl hbA hj48 dL_law_565 ?_
  refine z_aload_n C dL_law_566 rfl 0 rfl ?_
  refine z_iload_n C dL_law_567 rfl 3 rfl ?_
  refine z_iconst (v := 3) C dL_law_568 (by decide) ?_
  refine z_iadd C dL_law_569 ?_
  refine z_chk (fun hj49 => ?_)
  refine z_scr C hX hbl hbA hj49 dL_law_570 ?_
  refine z_ck (fun a19 hr19 hk19 => ?_)
  refine z_cVI [.int (xs (Int32.toNatClampNeg (x3 + 1))), .int (xs (Int32.toNatClampNeg (x3 + 2))), .int (xs (Int32.toNatClampNeg (x3 + 3)))] [] C mv_RL_54 (fun r0 m0 h0 => M_X9_gone _ _ _ _ _ _ _ _ _ h0) rfl rfl ⟨by rw [hrm]; exact Nat.le_of_ble_eq_true rfl, by rw [hrm]; exact Nat.le_of_ble_eq_true rfl⟩ ⟨by rw [hrm]; show _ ≤ room_1.cells; omega, by rw [hrm]; show _ ≤ room_1.slots; omega⟩ hr19 hk19 rfl rfl rfl (Nat.le_of_ble_eq_true rfl) dL_law_571 (fun r19 m19 => ?_)
  refine z_aload_n C dL_law_574 rfl 2 rfl ?_
  refine z_aload_n C dL_law_575 rfl 0 rfl ?_
  refine z_iload_n C dL_law_576 rfl 3 rfl ?_
  refine z_iconst (v := 1) C dL_law_577 (by decide) ?_
  refine z_iadd C dL_law_578 ?_
  refine z_chk (fun hj50 => ?_)
  refine z_scr C hX hbl hbA hj50 dL_law_579 ?_
  refine z_aload_n C dL_law_580 rfl 0 rfl ?_
  refine z_iload_n C dL_law_581 rfl 3 rfl ?_
  refine z_iconst (v := 2) C dL_law_582 (by decide) ?_
  refine z_iadd C dL_law_583 ?_
  refine z_chk (fun hj51 => ?_)
  refine z_scr C hX hbl hbA hj51 dL_law_584 ?_
  refine z_aload_n C dL_law_585 rfl 0 rfl ?_
  refine z_iload_n C dL_law_586 rfl 3 rfl ?_
  refine z_iconst (v := 3) C dL_law_587 (by decide) ?_
  refine z_iadd C dL_law_588 ?_
  refine z_chk (fun hj52 => ?_)
  refine z_scr C hX hbl hbA hj52 dL_law_589 ?_
  refine z_ck (fun a20 hr20 hk20 => ?_)
  refine z_cVI [.int (xs (Int32.toNatClampNeg (x3 + 1))), .int (xs (Int32.toNatClampNeg (x3 + 2))), .int (xs (Int32.toNatClampNeg (x3 + 3)))] [.int r19] C mv_RL_58 (fun r0 m0 h0 => M_X10_gone _ _ _ _ _ _ _ _ _ h0) rfl rfl ⟨by rw [hrm]; exact Nat.le_of_ble_eq_true rfl, by rw [hrm]; exact Nat.le_of_ble_eq_true rfl⟩ ⟨by rw [hrm]; show _ ≤ room_1.cells; omega, by rw [hrm]; show _ ≤ room_1.slots; omega⟩ hr20 hk20 rfl rfl rfl (Nat.le_of_ble_eq_true rfl) dL_law_590 (fun r20 m20 => ?_)
  refine z_icmp_eq (tgt := 2039) C dL_law_593 (by decide) (fun c10 => ?_) (fun c10 => ?_)
  · refine z_wid (k := ce + 58) (n := sl + 1570) (by omega) (by omega) ?_
    exact z_sub [0, 1, 2, 3] rfl (s_L_law_2039 xs Ln C hr hrm hA hX hbl hbA hB hce hsl k18 h18 x1 x2 x3 m20)
  · refine z_iconst (v := 0) C dL_law_596 (by decide) ?_
    exact z_none
set_option maxRecDepth 100000 in
def g_L_law_598 (xs : Nat → Int32) (Ln : Nat) (k18 : Option Nat → Option Nat → Int32 → MM → Option (Int32 × MM)) (x1 : Option Nat) (x2 : Option Nat) (x3 : Int32) (m : MM) : Option (Int32 × MM) :=
  chk (inb (x3 + 1) Ln = true) (chk (inb (x3 + 2) Ln = true) (chk (inb (x3 + 3) Ln = true) (ck m x1 10 (fun a21 => cal (f_X9_apart a21 (xs (Int32.toNatClampNeg (x3 + 1))) (xs (Int32.toNatClampNeg (x3 + 2))) (xs (Int32.toNatClampNeg (x3 + 3))) m) (fun r21 m21 => chk (inb (x3 + 1) Ln = true) (chk (inb (x3 + 2) Ln = true) (chk (inb (x3 + 3) Ln = true) (ck m21 x2 11 (fun a22 => cal (f_X10_apart a22 (xs (Int32.toNatClampNeg (x3 + 1))) (xs (Int32.toNatClampNeg (x3 + 2))) (xs (Int32.toNatClampNeg (x3 + 3))) m21) (fun r22 m22 => if r21 = r22 then (g_L_law_2039 xs Ln k18 x1 x2 x3 m22) else (none)))))))))))
set_option maxHeartbeats 8000000 in
set_option maxRecDepth 100000 in
theorem s_L_law_598 {Γ : GX} {E : EX} (xs : Nat → Int32) (Ln : Nat) {b ce sl : Nat} (C : Cx Γ E cL_law RL 4) (hr : Γ.meth.sig.returnType = ret) (hrm : Γ.rm = room_1) (hA : Γ.args = #[Value.ref b]) (hX : va_X b Ln xs Γ.s Γ.s.heap) (hbl : b < Γ.s.heap.size) (hbA : ¬ AA E b) (hB : E.base = Γ.s.heap.size) (hce : ce + 58 ≤ room_1.cells) (hsl : sl + 1570 ≤ room_1.slots) (k18 : Option Nat → Option Nat → Int32 → MM → Option (Int32 × MM)) (h18 : ∀ (x1 : Option Nat) (x2 : Option Nat) (x3 : Int32) (m : MM), Sm (QL Γ) Γ E 4 (ce + 58) (sl + 1570) 18 [(0, va_rf (some b)), (1, va_rf x1), (2, va_rf x2), (3, .int x3)] [] m (k18 x1 x2 x3 m)) (x1 : Option Nat) (x2 : Option Nat) (x3 : Int32) (m : MM) : Sm (QL Γ) Γ E 4 ce sl 598 [(0, va_rf (some b)), (1, va_rf x1), (2, va_rf x2), (3, .int x3)] [] m (g_L_law_598 xs Ln k18 x1 x2 x3 m) := by
  unfold g_L_law_598
  refine z_aload_n C dL_law_598 rfl 1 rfl ?_
  refine z_aload_n C dL_law_599 rfl 0 rfl ?_
  refine z_iload_n C dL_law_600 rfl 3 rfl ?_
  refine z_iconst (v := 1) C dL_law_601 (by decide) ?_
  refine z_iadd C dL_law_602 ?_
  refine z_chk (fun hj53 => ?_)
  refine z_scr C hX hbl hbA hj53 dL_law_603 ?_
  refine z_aload_n C dL_law_604 rfl 0 rfl ?_
  refine z_iload_n C dL_law_605 rfl 3 rfl ?_
  refine z_iconst (v := 2) C dL_law_606 (by decide) ?_
  refine z_iadd C dL_law_607 ?_
  refine z_chk (fun hj54 => ?_)
  refine z_scr C hX hbl hbA hj54 dL_law_608 ?_
  refine z_aload_n C dL_law_609 rfl 0 rfl ?_
  refine z_iload_n C dL_law_610 rfl 3 rfl ?_
  refine z_iconst (v := 3) C dL_law_611 (by decide) ?_
  refine z_iadd C dL_law_612 ?_
  refine z_chk (fun hj55 => ?_)
  refine z_scr C hX hbl hbA hj55 dL_law_613 ?_
  refine z_ck (fun a21 hr21 hk21 => ?_)
  refine z_cVI [.int (xs (Int32.toNatClampNeg (x3 + 1))), .int (xs (Int32.toNatClampNeg (x3 + 2))), .int (xs (Int32.toNatClampNeg (x3 + 3)))] [] C mv_RL_59 (fun r0 m0 h0 => M_X9_apart _ _ _ _ _ _ _ _ _ h0) rfl rfl ⟨by rw [hrm]; exact Nat.le_of_ble_eq_true rfl, by rw [hrm]; exact Nat.le_of_ble_eq_true rfl⟩ ⟨by rw [hrm]; show _ ≤ room_1.cells; omega, by rw [hrm]; show _ ≤ room_1.slots; omega⟩ hr21 hk21 rfl rfl rfl (Nat.le_of_ble_eq_true rfl) dL_law_614 (fun r21 m21 => ?_)
  refine z_aload_n C dL_law_617 rfl 2 rfl ?_
  refine z_aload_n C dL_law_618 rfl 0 rfl ?_
  refine z_iload_n C dL_law_619 rfl 3 rfl ?_
  refine z_iconst (v := 1) C dL_law_620 (by decide) ?_
  refine z_iadd C dL_law_621 ?_
  refine z_chk (fun hj56 => ?_)
  refine z_scr C hX hbl hbA hj56 dL_law_622 ?_
  refine z_aload_n C dL_law_623 rfl 0 rfl ?_
  refine z_iload_n C dL_law_624 rfl 3 rfl ?_
  refine z_iconst (v := 2) C dL_law_625 (by decide) ?_
  refine z_iadd C dL_law_626 ?_
  refine z_chk (fun hj57 => ?_)
  refine z_scr C hX hbl hbA hj57 dL_law_627 ?_
  refine z_aload_n C dL_law_628 rfl 0 rfl ?_
  refine z_iload_n C dL_law_629 rfl 3 rfl ?_
  refine z_iconst (v := 3) C dL_law_630 (by decide) ?_
  refine z_iadd C dL_law_631 ?_
  refine z_chk (fun hj58 => ?_)
  refine z_scr C hX hbl hbA hj58 dL_law_632 ?_
  refine z_ck (fun a22 hr22 hk22 => ?_)
  refine z_cVI [.int (xs (Int32.toNatClampNeg (x3 + 1))), .int (xs (Int32.toNatClampNeg (x3 + 2))), .int (xs (Int32.toNatClampNeg (x3 + 3)))] [.int r21] C mv_RL_62 (fun r0 m0 h0 => M_X10_apart _ _ _ _ _ _ _ _ _ h0) rfl rfl ⟨by rw [hrm]; exact Nat.le_of_ble_eq_true rfl, by rw [hrm]; exact Nat.le_of_ble_eq_true rfl⟩ ⟨by rw [hrm]; show _ ≤ room_1.cells; omega, by rw [hrm]; show _ ≤ room_1.slots; omega⟩ hr22 hk22 rfl rfl rfl (Nat.le_of_ble_eq_true rfl) dL_law_633 (fun r22 m22 => ?_)
  refine z_icmp_eq (tgt := 2039) C dL_law_636 (by decide) (fun c11 => ?_) (fun c11 => ?_)
  · refine z_wid (k := ce + 58) (n := sl + 1570) (by omega) (by omega) ?_
    exact z_sub [0, 1, 2, 3] rfl (s_L_law_2039 xs Ln C hr hrm hA hX hbl hbA hB hce hsl k18 h18 x1 x2 x3 m22)
  · refine z_iconst (v := 0) C dL_law_639 (by decide) ?_
    exact z_none
set_option maxRecDepth 100000 in
def g_L_law_641 (xs : Nat → Int32) (Ln : Nat) (k18 : Option Nat → Option Nat → Int32 → MM → Option (Int32 × MM)) (x1 : Option Nat) (x2 : Option Nat) (x3 : Int32) (m : MM) : Option (Int32 × MM) :=
  chk (inb (x3 + 1) Ln = true) (chk (inb (x3 + 2) Ln = true) (chk (inb (x3 + 3) Ln = true) (chk (inb (x3 + 4) Ln = true) (ck m x1 10 (fun a23 => cal (f_X9_between a23 (xs (Int32.toNatClampNeg (x3 + 1))) (xs (Int32.toNatClampNeg (x3 + 2))) (xs (Int32.toNatClampNeg (x3 + 3))) (xs (Int32.toNatClampNeg (x3 + 4))) m) (fun r23 m23 => chk (inb (x3 + 1) Ln = true) (chk (inb (x3 + 2) Ln = true) (chk (inb (x3 + 3) Ln = true) (chk (inb (x3 + 4) Ln = true) (ck m23 x2 11 (fun a24 => cal (f_X10_between a24 (xs (Int32.toNatClampNeg (x3 + 1))) (xs (Int32.toNatClampNeg (x3 + 2))) (xs (Int32.toNatClampNeg (x3 + 3))) (xs (Int32.toNatClampNeg (x3 + 4))) m23) (fun r24 m24 => if r23 = r24 then (g_L_law_2039 xs Ln k18 x1 x2 x3 m24) else (none)))))))))))))
set_option maxHeartbeats 8000000 in
set_option maxRecDepth 100000 in
theorem s_L_law_641 {Γ : GX} {E : EX} (xs : Nat → Int32) (Ln : Nat) {b ce sl : Nat} (C : Cx Γ E cL_law RL 4) (hr : Γ.meth.sig.returnType = ret) (hrm : Γ.rm = room_1) (hA : Γ.args = #[Value.ref b]) (hX : va_X b Ln xs Γ.s Γ.s.heap) (hbl : b < Γ.s.heap.size) (hbA : ¬ AA E b) (hB : E.base = Γ.s.heap.size) (hce : ce + 58 ≤ room_1.cells) (hsl : sl + 1570 ≤ room_1.slots) (k18 : Option Nat → Option Nat → Int32 → MM → Option (Int32 × MM)) (h18 : ∀ (x1 : Option Nat) (x2 : Option Nat) (x3 : Int32) (m : MM), Sm (QL Γ) Γ E 4 (ce + 58) (sl + 1570) 18 [(0, va_rf (some b)), (1, va_rf x1), (2, va_rf x2), (3, .int x3)] [] m (k18 x1 x2 x3 m)) (x1 : Option Nat) (x2 : Option Nat) (x3 : Int32) (m : MM) : Sm (QL Γ) Γ E 4 ce sl 641 [(0, va_rf (some b)), (1, va_rf x1), (2, va_rf x2), (3, .int x3)] [] m (g_L_law_641 xs Ln k18 x1 x2 x3 m) := by
  unfold g_L_law_641
  refine z_aload_n C dL_law_641 rfl 1 rfl ?_
  refine z_aload_n C dL_law_642 rfl 0 rfl ?_
  refine z_iload_n C dL_law_643 rfl 3 rfl ?_
  refine z_iconst (v := 1) C dL_law_644 (by decide) ?_
  refine z_iadd C dL_law_645 ?_
  refine z_chk (fun hj59 => ?_)
  refine z_scr C hX hbl hbA hj59 dL_law_646 ?_
  refine z_aload_n C dL_law_647 rfl 0 rfl ?_
  refine z_iload_n C dL_law_648 rfl 3 rfl ?_
  refine z_iconst (v := 2) C dL_law_649 (by decide) ?_
  refine z_iadd C dL_law_650 ?_
  refine z_chk (fun hj60 => ?_)
  refine z_scr C hX hbl hbA hj60 dL_law_651 ?_
  refine z_aload_n C dL_law_652 rfl 0 rfl ?_
  refine z_iload_n C dL_law_653 rfl 3 rfl ?_
  refine z_iconst (v := 3) C dL_law_654 (by decide) ?_
  refine z_iadd C dL_law_655 ?_
  refine z_chk (fun hj61 => ?_)
  refine z_scr C hX hbl hbA hj61 dL_law_656 ?_
  refine z_aload_n C dL_law_657 rfl 0 rfl ?_
  refine z_iload_n C dL_law_658 rfl 3 rfl ?_
  refine z_iconst (v := 4) C dL_law_659 (by decide) ?_
  refine z_iadd C dL_law_660 ?_
  refine z_chk (fun hj62 => ?_)
  refine z_scr C hX hbl hbA hj62 dL_law_661 ?_
  refine z_ck (fun a23 hr23 hk23 => ?_)
  refine z_cVI [.int (xs (Int32.toNatClampNeg (x3 + 1))), .int (xs (Int32.toNatClampNeg (x3 + 2))), .int (xs (Int32.toNatClampNeg (x3 + 3))), .int (xs (Int32.toNatClampNeg (x3 + 4)))] [] C mv_RL_63 (fun r0 m0 h0 => M_X9_between _ _ _ _ _ _ _ _ _ _ h0) rfl rfl ⟨by rw [hrm]; exact Nat.le_of_ble_eq_true rfl, by rw [hrm]; exact Nat.le_of_ble_eq_true rfl⟩ ⟨by rw [hrm]; show _ ≤ room_1.cells; omega, by rw [hrm]; show _ ≤ room_1.slots; omega⟩ hr23 hk23 rfl rfl rfl (Nat.le_of_ble_eq_true rfl) dL_law_662 (fun r23 m23 => ?_)
  refine z_aload_n C dL_law_665 rfl 2 rfl ?_
  refine z_aload_n C dL_law_666 rfl 0 rfl ?_
  refine z_iload_n C dL_law_667 rfl 3 rfl ?_
  refine z_iconst (v := 1) C dL_law_668 (by decide) ?_
  refine z_iadd C dL_law_669 ?_
  refine z_chk (fun hj63 => ?_)
  refine z_scr C hX hbl hbA hj63 dL_law_670 ?_
  refine z_aload_n C dL_law_671 rfl 0 rfl ?_
  refine z_iload_n C dL_law_672 rfl 3 rfl ?_
  refine z_iconst (v := 2) C dL_law_673 (by decide) ?_
  refine z_iadd C dL_law_674 ?_
  refine z_chk (fun hj64 => ?_)
  refine z_scr C hX hbl hbA hj64 dL_law_675 ?_
  refine z_aload_n C dL_law_676 rfl 0 rfl ?_
  refine z_iload_n C dL_law_677 rfl 3 rfl ?_
  refine z_iconst (v := 3) C dL_law_678 (by decide) ?_
  refine z_iadd C dL_law_679 ?_
  refine z_chk (fun hj65 => ?_)
  refine z_scr C hX hbl hbA hj65 dL_law_680 ?_
  refine z_aload_n C dL_law_681 rfl 0 rfl ?_
  refine z_iload_n C dL_law_682 rfl 3 rfl ?_
  refine z_iconst (v := 4) C dL_law_683 (by decide) ?_
  refine z_iadd C dL_law_684 ?_
  refine z_chk (fun hj66 => ?_)
  refine z_scr C hX hbl hbA hj66 dL_law_685 ?_
  refine z_ck (fun a24 hr24 hk24 => ?_)
  refine z_cVI [.int (xs (Int32.toNatClampNeg (x3 + 1))), .int (xs (Int32.toNatClampNeg (x3 + 2))), .int (xs (Int32.toNatClampNeg (x3 + 3))), .int (xs (Int32.toNatClampNeg (x3 + 4)))] [.int r23] C mv_RL_67 (fun r0 m0 h0 => M_X10_between _ _ _ _ _ _ _ _ _ _ h0) rfl rfl ⟨by rw [hrm]; exact Nat.le_of_ble_eq_true rfl, by rw [hrm]; exact Nat.le_of_ble_eq_true rfl⟩ ⟨by rw [hrm]; show _ ≤ room_1.cells; omega, by rw [hrm]; show _ ≤ room_1.slots; omega⟩ hr24 hk24 rfl rfl rfl (Nat.le_of_ble_eq_true rfl) dL_law_686 (fun r24 m24 => ?_)
  refine z_icmp_eq (tgt := 2039) C dL_law_689 (by decide) (fun c12 => ?_) (fun c12 => ?_)
  · refine z_wid (k := ce + 58) (n := sl + 1570) (by omega) (by omega) ?_
    exact z_sub [0, 1, 2, 3] rfl (s_L_law_2039 xs Ln C hr hrm hA hX hbl hbA hB hce hsl k18 h18 x1 x2 x3 m24)
  · refine z_iconst (v := 0) C dL_law_692 (by decide) ?_
    exact z_none
set_option maxRecDepth 100000 in
def g_L_law_694 (xs : Nat → Int32) (Ln : Nat) (k18 : Option Nat → Option Nat → Int32 → MM → Option (Int32 × MM)) (x1 : Option Nat) (x2 : Option Nat) (x3 : Int32) (m : MM) : Option (Int32 × MM) :=
  chk (inb (x3 + 1) Ln = true) (chk (inb (x3 + 2) Ln = true) (chk (inb (x3 + 3) Ln = true) (ck m x1 10 (fun a25 => cal (f_X9_grown a25 (xs (Int32.toNatClampNeg (x3 + 1))) (xs (Int32.toNatClampNeg (x3 + 2))) (xs (Int32.toNatClampNeg (x3 + 3))) m) (fun r25 m25 => chk (inb (x3 + 1) Ln = true) (chk (inb (x3 + 2) Ln = true) (chk (inb (x3 + 3) Ln = true) (ck m25 x2 11 (fun a26 => cal (f_X10_grown a26 (xs (Int32.toNatClampNeg (x3 + 1))) (xs (Int32.toNatClampNeg (x3 + 2))) (xs (Int32.toNatClampNeg (x3 + 3))) m25) (fun r26 m26 => if r25 = r26 then (g_L_law_2039 xs Ln k18 x1 x2 x3 m26) else (none)))))))))))
set_option maxHeartbeats 8000000 in
set_option maxRecDepth 100000 in
theorem s_L_law_694 {Γ : GX} {E : EX} (xs : Nat → Int32) (Ln : Nat) {b ce sl : Nat} (C : Cx Γ E cL_law RL 4) (hr : Γ.meth.sig.returnType = ret) (hrm : Γ.rm = room_1) (hA : Γ.args = #[Value.ref b]) (hX : va_X b Ln xs Γ.s Γ.s.heap) (hbl : b < Γ.s.heap.size) (hbA : ¬ AA E b) (hB : E.base = Γ.s.heap.size) (hce : ce + 58 ≤ room_1.cells) (hsl : sl + 1570 ≤ room_1.slots) (k18 : Option Nat → Option Nat → Int32 → MM → Option (Int32 × MM)) (h18 : ∀ (x1 : Option Nat) (x2 : Option Nat) (x3 : Int32) (m : MM), Sm (QL Γ) Γ E 4 (ce + 58) (sl + 1570) 18 [(0, va_rf (some b)), (1, va_rf x1), (2, va_rf x2), (3, .int x3)] [] m (k18 x1 x2 x3 m)) (x1 : Option Nat) (x2 : Option Nat) (x3 : Int32) (m : MM) : Sm (QL Γ) Γ E 4 ce sl 694 [(0, va_rf (some b)), (1, va_rf x1), (2, va_rf x2), (3, .int x3)] [] m (g_L_law_694 xs Ln k18 x1 x2 x3 m) := by
  unfold g_L_law_694
  refine z_aload_n C dL_law_694 rfl 1 rfl ?_
  refine z_aload_n C dL_law_695 rfl 0 rfl ?_
  refine z_iload_n C dL_law_696 rfl 3 rfl ?_
  refine z_iconst (v := 1) C dL_law_697 (by decide) ?_
  refine z_iadd C dL_law_698 ?_
  refine z_chk (fun hj67 => ?_)
  refine z_scr C hX hbl hbA hj67 dL_law_699 ?_
  refine z_aload_n C dL_law_700 rfl 0 rfl ?_
  refine z_iload_n C dL_law_701 rfl 3 rfl ?_
  refine z_iconst (v := 2) C dL_law_702 (by decide) ?_
  refine z_iadd C dL_law_703 ?_
  refine z_chk (fun hj68 => ?_)
  refine z_scr C hX hbl hbA hj68 dL_law_704 ?_
  refine z_aload_n C dL_law_705 rfl 0 rfl ?_
  refine z_iload_n C dL_law_706 rfl 3 rfl ?_
  refine z_iconst (v := 3) C dL_law_707 (by decide) ?_
  refine z_iadd C dL_law_708 ?_
  refine z_chk (fun hj69 => ?_)
  refine z_scr C hX hbl hbA hj69 dL_law_709 ?_
  refine z_ck (fun a25 hr25 hk25 => ?_)
  refine z_cVI [.int (xs (Int32.toNatClampNeg (x3 + 1))), .int (xs (Int32.toNatClampNeg (x3 + 2))), .int (xs (Int32.toNatClampNeg (x3 + 3)))] [] C mv_RL_68 (fun r0 m0 h0 => M_X9_grown _ _ _ _ _ _ _ _ _ h0) rfl rfl ⟨by rw [hrm]; exact Nat.le_of_ble_eq_true rfl, by rw [hrm]; exact Nat.le_of_ble_eq_true rfl⟩ ⟨by rw [hrm]; show _ ≤ room_1.cells; omega, by rw [hrm]; show _ ≤ room_1.slots; omega⟩ hr25 hk25 rfl rfl rfl (Nat.le_of_ble_eq_true rfl) dL_law_710 (fun r25 m25 => ?_)
  refine z_aload_n C dL_law_713 rfl 2 rfl ?_
  refine z_aload_n C dL_law_714 rfl 0 rfl ?_
  refine z_iload_n C dL_law_715 rfl 3 rfl ?_
  refine z_iconst (v := 1) C dL_law_716 (by decide) ?_
  refine z_iadd C dL_law_717 ?_
  refine z_chk (fun hj70 => ?_)
  refine z_scr C hX hbl hbA hj70 dL_law_718 ?_
  refine z_aload_n C dL_law_719 rfl 0 rfl ?_
  refine z_iload_n C dL_law_720 rfl 3 rfl ?_
  refine z_iconst (v := 2) C dL_law_721 (by decide) ?_
  refine z_iadd C dL_law_722 ?_
  refine z_chk (fun hj71 => ?_)
  refine z_scr C hX hbl hbA hj71 dL_law_723 ?_
  refine z_aload_n C dL_law_724 rfl 0 rfl ?_
  refine z_iload_n C dL_law_725 rfl 3 rfl ?_
  refine z_iconst (v := 3) C dL_law_726 (by decide) ?_
  refine z_iadd C dL_law_727 ?_
  refine z_chk (fun hj72 => ?_)
  refine z_scr C hX hbl hbA hj72 dL_law_728 ?_
  refine z_ck (fun a26 hr26 hk26 => ?_)
  refine z_cVI [.int (xs (Int32.toNatClampNeg (x3 + 1))), .int (xs (Int32.toNatClampNeg (x3 + 2))), .int (xs (Int32.toNatClampNeg (x3 + 3)))] [.int r25] C mv_RL_71 (fun r0 m0 h0 => M_X10_grown _ _ _ _ _ _ _ _ _ h0) rfl rfl ⟨by rw [hrm]; exact Nat.le_of_ble_eq_true rfl, by rw [hrm]; exact Nat.le_of_ble_eq_true rfl⟩ ⟨by rw [hrm]; show _ ≤ room_1.cells; omega, by rw [hrm]; show _ ≤ room_1.slots; omega⟩ hr26 hk26 rfl rfl rfl (Nat.le_of_ble_eq_true rfl) dL_law_729 (fun r26 m26 => ?_)
  refine z_icmp_eq (tgt := 2039) C dL_law_732 (by decide) (fun c13 => ?_) (fun c13 => ?_)
  · refine z_wid (k := ce + 58) (n := sl + 1570) (by omega) (by omega) ?_
    exact z_sub [0, 1, 2, 3] rfl (s_L_law_2039 xs Ln C hr hrm hA hX hbl hbA hB hce hsl k18 h18 x1 x2 x3 m26)
  · refine z_iconst (v := 0) C dL_law_735 (by decide) ?_
    exact z_none
set_option maxRecDepth 100000 in
def g_L_law_737 (xs : Nat → Int32) (Ln : Nat) (k18 : Option Nat → Option Nat → Int32 → MM → Option (Int32 × MM)) (x1 : Option Nat) (x2 : Option Nat) (x3 : Int32) (m : MM) : Option (Int32 × MM) :=
  chk (inb (x3 + 1) Ln = true) (chk (inb (x3 + 2) Ln = true) (chk (inb (x3 + 3) Ln = true) (ck m x1 10 (fun a27 => cal (f_X9_bars a27 (xs (Int32.toNatClampNeg (x3 + 1))) (xs (Int32.toNatClampNeg (x3 + 2))) (xs (Int32.toNatClampNeg (x3 + 3))) m) (fun r27 m27 => chk (inb (x3 + 1) Ln = true) (chk (inb (x3 + 2) Ln = true) (chk (inb (x3 + 3) Ln = true) (ck m27 x2 11 (fun a28 => cal (f_X10_bars a28 (xs (Int32.toNatClampNeg (x3 + 1))) (xs (Int32.toNatClampNeg (x3 + 2))) (xs (Int32.toNatClampNeg (x3 + 3))) m27) (fun r28 m28 => if r27 = r28 then (g_L_law_2039 xs Ln k18 x1 x2 x3 m28) else (none)))))))))))
set_option maxHeartbeats 8000000 in
set_option maxRecDepth 100000 in
theorem s_L_law_737 {Γ : GX} {E : EX} (xs : Nat → Int32) (Ln : Nat) {b ce sl : Nat} (C : Cx Γ E cL_law RL 4) (hr : Γ.meth.sig.returnType = ret) (hrm : Γ.rm = room_1) (hA : Γ.args = #[Value.ref b]) (hX : va_X b Ln xs Γ.s Γ.s.heap) (hbl : b < Γ.s.heap.size) (hbA : ¬ AA E b) (hB : E.base = Γ.s.heap.size) (hce : ce + 58 ≤ room_1.cells) (hsl : sl + 1570 ≤ room_1.slots) (k18 : Option Nat → Option Nat → Int32 → MM → Option (Int32 × MM)) (h18 : ∀ (x1 : Option Nat) (x2 : Option Nat) (x3 : Int32) (m : MM), Sm (QL Γ) Γ E 4 (ce + 58) (sl + 1570) 18 [(0, va_rf (some b)), (1, va_rf x1), (2, va_rf x2), (3, .int x3)] [] m (k18 x1 x2 x3 m)) (x1 : Option Nat) (x2 : Option Nat) (x3 : Int32) (m : MM) : Sm (QL Γ) Γ E 4 ce sl 737 [(0, va_rf (some b)), (1, va_rf x1), (2, va_rf x2), (3, .int x3)] [] m (g_L_law_737 xs Ln k18 x1 x2 x3 m) := by
  unfold g_L_law_737
  refine z_aload_n C dL_law_737 rfl 1 rfl ?_
  refine z_aload_n C dL_law_738 rfl 0 rfl ?_
  refine z_iload_n C dL_law_739 rfl 3 rfl ?_
  refine z_iconst (v := 1) C dL_law_740 (by decide) ?_
  refine z_iadd C dL_law_741 ?_
  refine z_chk (fun hj73 => ?_)
  refine z_scr C hX hbl hbA hj73 dL_law_742 ?_
  refine z_aload_n C dL_law_743 rfl 0 rfl ?_
  refine z_iload_n C dL_law_744 rfl 3 rfl ?_
  refine z_iconst (v := 2) C dL_law_745 (by decide) ?_
  refine z_iadd C dL_law_746 ?_
  refine z_chk (fun hj74 => ?_)
  refine z_scr C hX hbl hbA hj74 dL_law_747 ?_
  refine z_aload_n C dL_law_748 rfl 0 rfl ?_
  refine z_iload_n C dL_law_749 rfl 3 rfl ?_
  refine z_iconst (v := 3) C dL_law_750 (by decide) ?_
  refine z_iadd C dL_law_751 ?_
  refine z_chk (fun hj75 => ?_)
  refine z_scr C hX hbl hbA hj75 dL_law_752 ?_
  refine z_ck (fun a27 hr27 hk27 => ?_)
  refine z_cVI [.int (xs (Int32.toNatClampNeg (x3 + 1))), .int (xs (Int32.toNatClampNeg (x3 + 2))), .int (xs (Int32.toNatClampNeg (x3 + 3)))] [] C mv_RL_72 (fun r0 m0 h0 => M_X9_bars _ _ _ _ _ _ _ _ _ h0) rfl rfl ⟨by rw [hrm]; exact Nat.le_of_ble_eq_true rfl, by rw [hrm]; exact Nat.le_of_ble_eq_true rfl⟩ ⟨by rw [hrm]; show _ ≤ room_1.cells; omega, by rw [hrm]; show _ ≤ room_1.slots; omega⟩ hr27 hk27 rfl rfl rfl (Nat.le_of_ble_eq_true rfl) dL_law_753 (fun r27 m27 => ?_)
  refine z_aload_n C dL_law_756 rfl 2 rfl ?_
  refine z_aload_n C dL_law_757 rfl 0 rfl ?_
  refine z_iload_n C dL_law_758 rfl 3 rfl ?_
  refine z_iconst (v := 1) C dL_law_759 (by decide) ?_
  refine z_iadd C dL_law_760 ?_
  refine z_chk (fun hj76 => ?_)
  refine z_scr C hX hbl hbA hj76 dL_law_761 ?_
  refine z_aload_n C dL_law_762 rfl 0 rfl ?_
  refine z_iload_n C dL_law_763 rfl 3 rfl ?_
  refine z_iconst (v := 2) C dL_law_764 (by decide) ?_
  refine z_iadd C dL_law_765 ?_
  refine z_chk (fun hj77 => ?_)
  refine z_scr C hX hbl hbA hj77 dL_law_766 ?_
  refine z_aload_n C dL_law_767 rfl 0 rfl ?_
  refine z_iload_n C dL_law_768 rfl 3 rfl ?_
  refine z_iconst (v := 3) C dL_law_769 (by decide) ?_
  refine z_iadd C dL_law_770 ?_
  refine z_chk (fun hj78 => ?_)
  refine z_scr C hX hbl hbA hj78 dL_law_771 ?_
  refine z_ck (fun a28 hr28 hk28 => ?_)
  refine z_cVI [.int (xs (Int32.toNatClampNeg (x3 + 1))), .int (xs (Int32.toNatClampNeg (x3 + 2))), .int (xs (Int32.toNatClampNeg (x3 + 3)))] [.int r27] C mv_RL_75 (fun r0 m0 h0 => M_X10_bars _ _ _ _ _ _ _ _ _ h0) rfl rfl ⟨by rw [hrm]; exact Nat.le_of_ble_eq_true rfl, by rw [hrm]; exact Nat.le_of_ble_eq_true rfl⟩ ⟨by rw [hrm]; show _ ≤ room_1.cells; omega, by rw [hrm]; show _ ≤ room_1.slots; omega⟩ hr28 hk28 rfl rfl rfl (Nat.le_of_ble_eq_true rfl) dL_law_772 (fun r28 m28 => ?_)
  refine z_icmp_eq (tgt := 2039) C dL_law_775 (by decide) (fun c14 => ?_) (fun c14 => ?_)
  · refine z_wid (k := ce + 58) (n := sl + 1570) (by omega) (by omega) ?_
    exact z_sub [0, 1, 2, 3] rfl (s_L_law_2039 xs Ln C hr hrm hA hX hbl hbA hB hce hsl k18 h18 x1 x2 x3 m28)
  · refine z_iconst (v := 0) C dL_law_778 (by decide) ?_
    exact z_none
set_option maxRecDepth 100000 in
def g_L_law_780 (xs : Nat → Int32) (Ln : Nat) (k18 : Option Nat → Option Nat → Int32 → MM → Option (Int32 × MM)) (x1 : Option Nat) (x2 : Option Nat) (x3 : Int32) (m : MM) : Option (Int32 × MM) :=
  chk (inb (x3 + 1) Ln = true) (chk (inb (x3 + 2) Ln = true) (chk (inb (x3 + 3) Ln = true) (chk (inb (x3 + 4) Ln = true) (chk (inb (x3 + 5) Ln = true) (ck m x1 10 (fun a29 => cal (f_X9_bar a29 (xs (Int32.toNatClampNeg (x3 + 1))) (xs (Int32.toNatClampNeg (x3 + 2))) (xs (Int32.toNatClampNeg (x3 + 3))) (xs (Int32.toNatClampNeg (x3 + 4))) (xs (Int32.toNatClampNeg (x3 + 5))) m) (fun r29 m29 => chk (inb (x3 + 1) Ln = true) (chk (inb (x3 + 2) Ln = true) (chk (inb (x3 + 3) Ln = true) (chk (inb (x3 + 4) Ln = true) (chk (inb (x3 + 5) Ln = true) (ck m29 x2 11 (fun a30 => cal (f_X10_bar a30 (xs (Int32.toNatClampNeg (x3 + 1))) (xs (Int32.toNatClampNeg (x3 + 2))) (xs (Int32.toNatClampNeg (x3 + 3))) (xs (Int32.toNatClampNeg (x3 + 4))) (xs (Int32.toNatClampNeg (x3 + 5))) m29) (fun r30 m30 => if r29 = r30 then (g_L_law_2039 xs Ln k18 x1 x2 x3 m30) else (none)))))))))))))))
set_option maxHeartbeats 8000000 in
set_option maxRecDepth 100000 in
theorem s_L_law_780 {Γ : GX} {E : EX} (xs : Nat → Int32) (Ln : Nat) {b ce sl : Nat} (C : Cx Γ E cL_law RL 4) (hr : Γ.meth.sig.returnType = ret) (hrm : Γ.rm = room_1) (hA : Γ.args = #[Value.ref b]) (hX : va_X b Ln xs Γ.s Γ.s.heap) (hbl : b < Γ.s.heap.size) (hbA : ¬ AA E b) (hB : E.base = Γ.s.heap.size) (hce : ce + 58 ≤ room_1.cells) (hsl : sl + 1570 ≤ room_1.slots) (k18 : Option Nat → Option Nat → Int32 → MM → Option (Int32 × MM)) (h18 : ∀ (x1 : Option Nat) (x2 : Option Nat) (x3 : Int32) (m : MM), Sm (QL Γ) Γ E 4 (ce + 58) (sl + 1570) 18 [(0, va_rf (some b)), (1, va_rf x1), (2, va_rf x2), (3, .int x3)] [] m (k18 x1 x2 x3 m)) (x1 : Option Nat) (x2 : Option Nat) (x3 : Int32) (m : MM) : Sm (QL Γ) Γ E 4 ce sl 780 [(0, va_rf (some b)), (1, va_rf x1), (2, va_rf x2), (3, .int x3)] [] m (g_L_law_780 xs Ln k18 x1 x2 x3 m) := by
  unfold g_L_law_780
  refine z_aload_n C dL_law_780 rfl 1 rfl ?_
  refine z_aload_n C dL_law_781 rfl 0 rfl ?_
  refine z_iload_n C dL_law_782 rfl 3 rfl ?_
  refine z_iconst (v := 1) C dL_law_783 (by decide) ?_
  refine z_iadd C dL_law_784 ?_
  refine z_chk (fun hj79 => ?_)
  refine z_scr C hX hbl hbA hj79 dL_law_785 ?_
  refine z_aload_n C dL_law_786 rfl 0 rfl ?_
  refine z_iload_n C dL_law_787 rfl 3 rfl ?_
  refine z_iconst (v := 2) C dL_law_788 (by decide) ?_
  refine z_iadd C dL_law_789 ?_
  refine z_chk (fun hj80 => ?_)
  refine z_scr C hX hbl hbA hj80 dL_law_790 ?_
  refine z_aload_n C dL_law_791 rfl 0 rfl ?_
  refine z_iload_n C dL_law_792 rfl 3 rfl ?_
  refine z_iconst (v := 3) C dL_law_793 (by decide) ?_
  refine z_iadd C dL_law_794 ?_
  refine z_chk (fun hj81 => ?_)
  refine z_scr C hX hbl hbA hj81 dL_law_795 ?_
  refine z_aload_n C dL_law_796 rfl 0 rfl ?_
  refine z_iload_n C dL_law_797 rfl 3 rfl ?_
  refine z_iconst (v := 4) C dL_law_798 (by decide) ?_
  refine z_iadd C dL_law_799 ?_
  refine z_chk (fun hj82 => ?_)
  refine z_scr C hX hbl hbA hj82 dL_law_800 ?_
  refine z_aload_n C dL_law_801 rfl 0 rfl ?_
  refine z_iload_n C dL_law_802 rfl 3 rfl ?_
  refine z_iconst (v := 5) C dL_law_803 (by decide) ?_
  refine z_iadd C dL_law_804 ?_
  refine z_chk (fun hj83 => ?_)
  refine z_scr C hX hbl hbA hj83 dL_law_805 ?_
  refine z_ck (fun a29 hr29 hk29 => ?_)
  refine z_cVI [.int (xs (Int32.toNatClampNeg (x3 + 1))), .int (xs (Int32.toNatClampNeg (x3 + 2))), .int (xs (Int32.toNatClampNeg (x3 + 3))), .int (xs (Int32.toNatClampNeg (x3 + 4))), .int (xs (Int32.toNatClampNeg (x3 + 5)))] [] C mv_RL_76 (fun r0 m0 h0 => M_X9_bar _ _ _ _ _ _ _ _ _ _ _ h0) rfl rfl ⟨by rw [hrm]; exact Nat.le_of_ble_eq_true rfl, by rw [hrm]; exact Nat.le_of_ble_eq_true rfl⟩ ⟨by rw [hrm]; show _ ≤ room_1.cells; omega, by rw [hrm]; show _ ≤ room_1.slots; omega⟩ hr29 hk29 rfl rfl rfl (Nat.le_of_ble_eq_true rfl) dL_law_806 (fun r29 m29 => ?_)
  refine z_aload_n C dL_law_809 rfl 2 rfl ?_
  refine z_aload_n C dL_law_810 rfl 0 rfl ?_
  refine z_iload_n C dL_law_811 rfl 3 rfl ?_
  refine z_iconst (v := 1) C dL_law_812 (by decide) ?_
  refine z_iadd C dL_law_813 ?_
  refine z_chk (fun hj84 => ?_)
  refine z_scr C hX hbl hbA hj84 dL_law_814 ?_
  refine z_aload_n C dL_law_815 rfl 0 rfl ?_
  refine z_iload_n C dL_law_816 rfl 3 rfl ?_
  refine z_iconst (v := 2) C dL_law_817 (by decide) ?_
  refine z_iadd C dL_law_818 ?_
  refine z_chk (fun hj85 => ?_)
  refine z_scr C hX hbl hbA hj85 dL_law_819 ?_
  refine z_aload_n C dL_law_820 rfl 0 rfl ?_
  refine z_iload_n C dL_law_821 rfl 3 rfl ?_
  refine z_iconst (v := 3) C dL_law_822 (by decide) ?_
  refine z_iadd C dL_law_823 ?_
  refine z_chk (fun hj86 => ?_)
  refine z_scr C hX hbl hbA hj86 dL_law_824 ?_
  refine z_aload_n C dL_law_825 rfl 0 rfl ?_
  refine z_iload_n C dL_law_826 rfl 3 rfl ?_
  refine z_iconst (v := 4) C dL_law_827 (by decide) ?_
  refine z_iadd C dL_law_828 ?_
  refine z_chk (fun hj87 => ?_)
  refine z_scr C hX hbl hbA hj87 dL_law_829 ?_
  refine z_aload_n C dL_law_830 rfl 0 rfl ?_
  refine z_iload_n C dL_law_831 rfl 3 rfl ?_
  refine z_iconst (v := 5) C dL_law_832 (by decide) ?_
  refine z_iadd C dL_law_833 ?_
  refine z_chk (fun hj88 => ?_)
  refine z_scr C hX hbl hbA hj88 dL_law_834 ?_
  refine z_ck (fun a30 hr30 hk30 => ?_)
  refine z_cVI [.int (xs (Int32.toNatClampNeg (x3 + 1))), .int (xs (Int32.toNatClampNeg (x3 + 2))), .int (xs (Int32.toNatClampNeg (x3 + 3))), .int (xs (Int32.toNatClampNeg (x3 + 4))), .int (xs (Int32.toNatClampNeg (x3 + 5)))] [.int r29] C mv_RL_79 (fun r0 m0 h0 => M_X10_bar _ _ _ _ _ _ _ _ _ _ _ h0) rfl rfl ⟨by rw [hrm]; exact Nat.le_of_ble_eq_true rfl, by rw [hrm]; exact Nat.le_of_ble_eq_true rfl⟩ ⟨by rw [hrm]; show _ ≤ room_1.cells; omega, by rw [hrm]; show _ ≤ room_1.slots; omega⟩ hr30 hk30 rfl rfl rfl (Nat.le_of_ble_eq_true rfl) dL_law_835 (fun r30 m30 => ?_)
  refine z_icmp_eq (tgt := 2039) C dL_law_838 (by decide) (fun c15 => ?_) (fun c15 => ?_)
  · refine z_wid (k := ce + 58) (n := sl + 1570) (by omega) (by omega) ?_
    exact z_sub [0, 1, 2, 3] rfl (s_L_law_2039 xs Ln C hr hrm hA hX hbl hbA hB hce hsl k18 h18 x1 x2 x3 m30)
  · refine z_iconst (v := 0) C dL_law_841 (by decide) ?_
    exact z_none
set_option maxRecDepth 100000 in
def g_L_law_843 (xs : Nat → Int32) (Ln : Nat) (k18 : Option Nat → Option Nat → Int32 → MM → Option (Int32 × MM)) (x1 : Option Nat) (x2 : Option Nat) (x3 : Int32) (m : MM) : Option (Int32 × MM) :=
  chk (inb (x3 + 1) Ln = true) (chk (inb (x3 + 2) Ln = true) (chk (inb (x3 + 3) Ln = true) (ck m x1 10 (fun a31 => cal (f_X9_goes a31 (xs (Int32.toNatClampNeg (x3 + 1))) (xs (Int32.toNatClampNeg (x3 + 2))) (xs (Int32.toNatClampNeg (x3 + 3))) m) (fun r31 m31 => chk (inb (x3 + 1) Ln = true) (chk (inb (x3 + 2) Ln = true) (chk (inb (x3 + 3) Ln = true) (ck m31 x2 11 (fun a32 => cal (f_X10_goes a32 (xs (Int32.toNatClampNeg (x3 + 1))) (xs (Int32.toNatClampNeg (x3 + 2))) (xs (Int32.toNatClampNeg (x3 + 3))) m31) (fun r32 m32 => if r31 = r32 then (g_L_law_2039 xs Ln k18 x1 x2 x3 m32) else (none)))))))))))
set_option maxHeartbeats 8000000 in
set_option maxRecDepth 100000 in
theorem s_L_law_843 {Γ : GX} {E : EX} (xs : Nat → Int32) (Ln : Nat) {b ce sl : Nat} (C : Cx Γ E cL_law RL 4) (hr : Γ.meth.sig.returnType = ret) (hrm : Γ.rm = room_1) (hA : Γ.args = #[Value.ref b]) (hX : va_X b Ln xs Γ.s Γ.s.heap) (hbl : b < Γ.s.heap.size) (hbA : ¬ AA E b) (hB : E.base = Γ.s.heap.size) (hce : ce + 58 ≤ room_1.cells) (hsl : sl + 1570 ≤ room_1.slots) (k18 : Option Nat → Option Nat → Int32 → MM → Option (Int32 × MM)) (h18 : ∀ (x1 : Option Nat) (x2 : Option Nat) (x3 : Int32) (m : MM), Sm (QL Γ) Γ E 4 (ce + 58) (sl + 1570) 18 [(0, va_rf (some b)), (1, va_rf x1), (2, va_rf x2), (3, .int x3)] [] m (k18 x1 x2 x3 m)) (x1 : Option Nat) (x2 : Option Nat) (x3 : Int32) (m : MM) : Sm (QL Γ) Γ E 4 ce sl 843 [(0, va_rf (some b)), (1, va_rf x1), (2, va_rf x2), (3, .int x3)] [] m (g_L_law_843 xs Ln k18 x1 x2 x3 m) := by
  unfold g_L_law_843
  refine z_aload_n C dL_law_843 rfl 1 rfl ?_
  refine z_aload_n C dL_law_844 rfl 0 rfl ?_
  refine z_iload_n C dL_law_845 rfl 3 rfl ?_
  refine z_iconst (v := 1) C dL_law_846 (by decide) ?_
  refine z_iadd C dL_law_847 ?_
  refine z_chk (fun hj89 => ?_)
  refine z_scr C hX hbl hbA hj89 dL_law_848 ?_
  refine z_aload_n C dL_law_849 rfl 0 rfl ?_
  refine z_iload_n C dL_law_850 rfl 3 rfl ?_
  refine z_iconst (v := 2) C dL_law_851 (by decide) ?_
  refine z_iadd C dL_law_852 ?_
  refine z_chk (fun hj90 => ?_)
  refine z_scr C hX hbl hbA hj90 dL_law_853 ?_
  refine z_aload_n C dL_law_854 rfl 0 rfl ?_
  refine z_iload_n C dL_law_855 rfl 3 rfl ?_
  refine z_iconst (v := 3) C dL_law_856 (by decide) ?_
  refine z_iadd C dL_law_857 ?_
  refine z_chk (fun hj91 => ?_)
  refine z_scr C hX hbl hbA hj91 dL_law_858 ?_
  refine z_ck (fun a31 hr31 hk31 => ?_)
  refine z_cVI [.int (xs (Int32.toNatClampNeg (x3 + 1))), .int (xs (Int32.toNatClampNeg (x3 + 2))), .int (xs (Int32.toNatClampNeg (x3 + 3)))] [] C mv_RL_80 (fun r0 m0 h0 => M_X9_goes _ _ _ _ _ _ _ _ _ h0) rfl rfl ⟨by rw [hrm]; exact Nat.le_of_ble_eq_true rfl, by rw [hrm]; exact Nat.le_of_ble_eq_true rfl⟩ ⟨by rw [hrm]; show _ ≤ room_1.cells; omega, by rw [hrm]; show _ ≤ room_1.slots; omega⟩ hr31 hk31 rfl rfl rfl (Nat.le_of_ble_eq_true rfl) dL_law_859 (fun r31 m31 => ?_)
  refine z_aload_n C dL_law_862 rfl 2 rfl ?_
  refine z_aload_n C dL_law_863 rfl 0 rfl ?_
  refine z_iload_n C dL_law_864 rfl 3 rfl ?_
  refine z_iconst (v := 1) C dL_law_865 (by decide) ?_
  refine z_iadd C dL_law_866 ?_
  refine z_chk (fun hj92 => ?_)
  refine z_scr C hX hbl hbA hj92 dL_law_867 ?_
  refine z_aload_n C dL_law_868 rfl 0 rfl ?_
  refine z_iload_n C dL_law_869 rfl 3 rfl ?_
  refine z_iconst (v := 2) C dL_law_870 (by decide) ?_
  refine z_iadd C dL_law_871 ?_
  refine z_chk (fun hj93 => ?_)
  refine z_scr C hX hbl hbA hj93 dL_law_872 ?_
  refine z_aload_n C dL_law_873 rfl 0 rfl ?_
  refine z_iload_n C dL_law_874 rfl 3 rfl ?_
  refine z_iconst (v := 3) C dL_law_875 (by decide) ?_
  refine z_iadd C dL_law_876 ?_
  refine z_chk (fun hj94 => ?_)
  refine z_scr C hX hbl hbA hj94 dL_law_877 ?_
  refine z_ck (fun a32 hr32 hk32 => ?_)
  refine z_cVI [.int (xs (Int32.toNatClampNeg (x3 + 1))), .int (xs (Int32.toNatClampNeg (x3 + 2))), .int (xs (Int32.toNatClampNeg (x3 + 3)))] [.int r31] C mv_RL_83 (fun r0 m0 h0 => M_X10_goes _ _ _ _ _ _ _ _ _ h0) rfl rfl ⟨by rw [hrm]; exact Nat.le_of_ble_eq_true rfl, by rw [hrm]; exact Nat.le_of_ble_eq_true rfl⟩ ⟨by rw [hrm]; show _ ≤ room_1.cells; omega, by rw [hrm]; show _ ≤ room_1.slots; omega⟩ hr32 hk32 rfl rfl rfl (Nat.le_of_ble_eq_true rfl) dL_law_878 (fun r32 m32 => ?_)
  refine z_icmp_eq (tgt := 2039) C dL_law_881 (by decide) (fun c16 => ?_) (fun c16 => ?_)
  · refine z_wid (k := ce + 58) (n := sl + 1570) (by omega) (by omega) ?_
    exact z_sub [0, 1, 2, 3] rfl (s_L_law_2039 xs Ln C hr hrm hA hX hbl hbA hB hce hsl k18 h18 x1 x2 x3 m32)
  · refine z_iconst (v := 0) C dL_law_884 (by decide) ?_
    exact z_none
set_option maxRecDepth 100000 in
def g_L_law_886 (xs : Nat → Int32) (Ln : Nat) (k18 : Option Nat → Option Nat → Int32 → MM → Option (Int32 × MM)) (x1 : Option Nat) (x2 : Option Nat) (x3 : Int32) (m : MM) : Option (Int32 × MM) :=
  chk (inb (x3 + 1) Ln = true) (chk (inb (x3 + 2) Ln = true) (chk (inb (x3 + 3) Ln = true) (chk (inb (x3 + 4) Ln = true) (ck m x1 10 (fun a33 => cal (f_X9_pays a33 (xs (Int32.toNatClampNeg (x3 + 1))) (xs (Int32.toNatClampNeg (x3 + 2))) (xs (Int32.toNatClampNeg (x3 + 3))) (xs (Int32.toNatClampNeg (x3 + 4))) m) (fun r33 m33 => chk (inb (x3 + 1) Ln = true) (chk (inb (x3 + 2) Ln = true) (chk (inb (x3 + 3) Ln = true) (chk (inb (x3 + 4) Ln = true) (ck m33 x2 11 (fun a34 => cal (f_X10_pays a34 (xs (Int32.toNatClampNeg (x3 + 1))) (xs (Int32.toNatClampNeg (x3 + 2))) (xs (Int32.toNatClampNeg (x3 + 3))) (xs (Int32.toNatClampNeg (x3 + 4))) m33) (fun r34 m34 => if r33 = r34 then (g_L_law_2039 xs Ln k18 x1 x2 x3 m34) else (none)))))))))))))
set_option maxHeartbeats 8000000 in
set_option maxRecDepth 100000 in
theorem s_L_law_886 {Γ : GX} {E : EX} (xs : Nat → Int32) (Ln : Nat) {b ce sl : Nat} (C : Cx Γ E cL_law RL 4) (hr : Γ.meth.sig.returnType = ret) (hrm : Γ.rm = room_1) (hA : Γ.args = #[Value.ref b]) (hX : va_X b Ln xs Γ.s Γ.s.heap) (hbl : b < Γ.s.heap.size) (hbA : ¬ AA E b) (hB : E.base = Γ.s.heap.size) (hce : ce + 58 ≤ room_1.cells) (hsl : sl + 1570 ≤ room_1.slots) (k18 : Option Nat → Option Nat → Int32 → MM → Option (Int32 × MM)) (h18 : ∀ (x1 : Option Nat) (x2 : Option Nat) (x3 : Int32) (m : MM), Sm (QL Γ) Γ E 4 (ce + 58) (sl + 1570) 18 [(0, va_rf (some b)), (1, va_rf x1), (2, va_rf x2), (3, .int x3)] [] m (k18 x1 x2 x3 m)) (x1 : Option Nat) (x2 : Option Nat) (x3 : Int32) (m : MM) : Sm (QL Γ) Γ E 4 ce sl 886 [(0, va_rf (some b)), (1, va_rf x1), (2, va_rf x2), (3, .int x3)] [] m (g_L_law_886 xs Ln k18 x1 x2 x3 m) := by
  unfold g_L_law_886
  refine z_aload_n C dL_law_886 rfl 1 rfl ?_
  refine z_aload_n C dL_law_887 rfl 0 rfl ?_
  refine z_iload_n C dL_law_888 rfl 3 rfl ?_
  refine z_iconst (v := 1) C dL_law_889 (by decide) ?_
  refine z_iadd C dL_law_890 ?_
  refine z_chk (fun hj95 => ?_)
  refine z_scr C hX hbl hbA hj95 dL_law_891 ?_
  refine z_aload_n C dL_law_892 rfl 0 rfl ?_
  refine z_iload_n C dL_law_893 rfl 3 rfl ?_
  refine z_iconst (v := 2) C dL_law_894 (by decide) ?_
  refine z_iadd C dL_law_895 ?_
  refine z_chk (fun hj96 => ?_)
  refine z_scr C hX hbl hbA hj96 dL_law_896 ?_
  refine z_aload_n C dL_law_897 rfl 0 rfl ?_
  refine z_iload_n C dL_law_898 rfl 3 rfl ?_
  refine z_iconst (v := 3) C dL_law_899 (by decide) ?_
  refine z_iadd C dL_law_900 ?_
  refine z_chk (fun hj97 => ?_)
  refine z_scr C hX hbl hbA hj97 dL_law_901 ?_
  refine z_aload_n C dL_law_902 rfl 0 rfl ?_
  refine z_iload_n C dL_law_903 rfl 3 rfl ?_
  refine z_iconst (v := 4) C dL_law_904 (by decide) ?_
  refine z_iadd C dL_law_905 ?_
  refine z_chk (fun hj98 => ?_)
  refine z_scr C hX hbl hbA hj98 dL_law_906 ?_
  refine z_ck (fun a33 hr33 hk33 => ?_)
  refine z_cVI [.int (xs (Int32.toNatClampNeg (x3 + 1))), .int (xs (Int32.toNatClampNeg (x3 + 2))), .int (xs (Int32.toNatClampNeg (x3 + 3))), .int (xs (Int32.toNatClampNeg (x3 + 4)))] [] C mv_RL_84 (fun r0 m0 h0 => M_X9_pays _ _ _ _ _ _ _ _ _ _ h0) rfl rfl ⟨by rw [hrm]; exact Nat.le_of_ble_eq_true rfl, by rw [hrm]; exact Nat.le_of_ble_eq_true rfl⟩ ⟨by rw [hrm]; show _ ≤ room_1.cells; omega, by rw [hrm]; show _ ≤ room_1.slots; omega⟩ hr33 hk33 rfl rfl rfl (Nat.le_of_ble_eq_true rfl) dL_law_907 (fun r33 m33 => ?_)
  refine z_aload_n C dL_law_910 rfl 2 rfl ?_
  refine z_aload_n C dL_law_911 rfl 0 rfl ?_
  refine z_iload_n C dL_law_912 rfl 3 rfl ?_
  refine z_iconst (v := 1) C dL_law_913 (by decide) ?_
  refine z_iadd C dL_law_914 ?_
  refine z_chk (fun hj99 => ?_)
  refine z_scr C hX hbl hbA hj99 dL_law_915 ?_
  refine z_aload_n C dL_law_916 rfl 0 rfl ?_
  refine z_iload_n C dL_law_917 rfl 3 rfl ?_
  refine z_iconst (v := 2) C dL_law_918 (by decide) ?_
  refine z_iadd C dL_law_919 ?_
  refine z_chk (fun hj100 => ?_)
  refine z_scr C hX hbl hbA hj100 dL_law_920 ?_
  refine z_aload_n C dL_law_921 rfl 0 rfl ?_
  refine z_iload_n C dL_law_922 rfl 3 rfl ?_
  refine z_iconst (v := 3) C dL_law_923 (by decide) ?_
  refine z_iadd C dL_law_924 ?_
  refine z_chk (fun hj101 => ?_)
  refine z_scr C hX hbl hbA hj101 dL_law_925 ?_
  refine z_aload_n C dL_law_926 rfl 0 rfl ?_
  refine z_iload_n C dL_law_927 rfl 3 rfl ?_
  refine z_iconst (v := 4) C dL_law_928 (by decide) ?_
  refine z_iadd C dL_law_929 ?_
  refine z_chk (fun hj102 => ?_)
  refine z_scr C hX hbl hbA hj102 dL_law_930 ?_
  refine z_ck (fun a34 hr34 hk34 => ?_)
  refine z_cVI [.int (xs (Int32.toNatClampNeg (x3 + 1))), .int (xs (Int32.toNatClampNeg (x3 + 2))), .int (xs (Int32.toNatClampNeg (x3 + 3))), .int (xs (Int32.toNatClampNeg (x3 + 4)))] [.int r33] C mv_RL_87 (fun r0 m0 h0 => M_X10_pays _ _ _ _ _ _ _ _ _ _ h0) rfl rfl ⟨by rw [hrm]; exact Nat.le_of_ble_eq_true rfl, by rw [hrm]; exact Nat.le_of_ble_eq_true rfl⟩ ⟨by rw [hrm]; show _ ≤ room_1.cells; omega, by rw [hrm]; show _ ≤ room_1.slots; omega⟩ hr34 hk34 rfl rfl rfl (Nat.le_of_ble_eq_true rfl) dL_law_931 (fun r34 m34 => ?_)
  refine z_icmp_eq (tgt := 2039) C dL_law_934 (by decide) (fun c17 => ?_) (fun c17 => ?_)
  · refine z_wid (k := ce + 58) (n := sl + 1570) (by omega) (by omega) ?_
    exact z_sub [0, 1, 2, 3] rfl (s_L_law_2039 xs Ln C hr hrm hA hX hbl hbA hB hce hsl k18 h18 x1 x2 x3 m34)
  · refine z_iconst (v := 0) C dL_law_937 (by decide) ?_
    exact z_none
set_option maxRecDepth 100000 in
def g_L_law_939 (xs : Nat → Int32) (Ln : Nat) (k18 : Option Nat → Option Nat → Int32 → MM → Option (Int32 × MM)) (x1 : Option Nat) (x2 : Option Nat) (x3 : Int32) (m : MM) : Option (Int32 × MM) :=
  chk (inb (x3 + 1) Ln = true) (chk (inb (x3 + 2) Ln = true) (chk (inb (x3 + 3) Ln = true) (chk (inb (x3 + 4) Ln = true) (ck m x1 10 (fun a35 => cal (f_X9_first a35 (xs (Int32.toNatClampNeg (x3 + 1))) (xs (Int32.toNatClampNeg (x3 + 2))) (xs (Int32.toNatClampNeg (x3 + 3))) (xs (Int32.toNatClampNeg (x3 + 4))) m) (fun r35 m35 => chk (inb (x3 + 1) Ln = true) (chk (inb (x3 + 2) Ln = true) (chk (inb (x3 + 3) Ln = true) (chk (inb (x3 + 4) Ln = true) (ck m35 x2 11 (fun a36 => cal (f_X10_first a36 (xs (Int32.toNatClampNeg (x3 + 1))) (xs (Int32.toNatClampNeg (x3 + 2))) (xs (Int32.toNatClampNeg (x3 + 3))) (xs (Int32.toNatClampNeg (x3 + 4))) m35) (fun r36 m36 => if r35 = r36 then (g_L_law_2039 xs Ln k18 x1 x2 x3 m36) else (none)))))))))))))
set_option maxHeartbeats 8000000 in
set_option maxRecDepth 100000 in
theorem s_L_law_939 {Γ : GX} {E : EX} (xs : Nat → Int32) (Ln : Nat) {b ce sl : Nat} (C : Cx Γ E cL_law RL 4) (hr : Γ.meth.sig.returnType = ret) (hrm : Γ.rm = room_1) (hA : Γ.args = #[Value.ref b]) (hX : va_X b Ln xs Γ.s Γ.s.heap) (hbl : b < Γ.s.heap.size) (hbA : ¬ AA E b) (hB : E.base = Γ.s.heap.size) (hce : ce + 58 ≤ room_1.cells) (hsl : sl + 1570 ≤ room_1.slots) (k18 : Option Nat → Option Nat → Int32 → MM → Option (Int32 × MM)) (h18 : ∀ (x1 : Option Nat) (x2 : Option Nat) (x3 : Int32) (m : MM), Sm (QL Γ) Γ E 4 (ce + 58) (sl + 1570) 18 [(0, va_rf (some b)), (1, va_rf x1), (2, va_rf x2), (3, .int x3)] [] m (k18 x1 x2 x3 m)) (x1 : Option Nat) (x2 : Option Nat) (x3 : Int32) (m : MM) : Sm (QL Γ) Γ E 4 ce sl 939 [(0, va_rf (some b)), (1, va_rf x1), (2, va_rf x2), (3, .int x3)] [] m (g_L_law_939 xs Ln k18 x1 x2 x3 m) := by
  unfold g_L_law_939
  refine z_aload_n C dL_law_939 rfl 1 rfl ?_
  refine z_aload_n C dL_law_940 rfl 0 rfl ?_
  refine z_iload_n C dL_law_941 rfl 3 rfl ?_
  refine z_iconst (v := 1) C dL_law_942 (by decide) ?_
  refine z_iadd C dL_law_943 ?_
  refine z_chk (fun hj103 => ?_)
  refine z_scr C hX hbl hbA hj103 dL_law_944 ?_
  refine z_aload_n C dL_law_945 rfl 0 rfl ?_
  refine z_iload_n C dL_law_946 rfl 3 rfl ?_
  refine z_iconst (v := 2) C dL_law_947 (by decide) ?_
  refine z_iadd C dL_law_948 ?_
  refine z_chk (fun hj104 => ?_)
  refine z_scr C hX hbl hbA hj104 dL_law_949 ?_
  refine z_aload_n C dL_law_950 rfl 0 rfl ?_
  refine z_iload_n C dL_law_951 rfl 3 rfl ?_
  refine z_iconst (v := 3) C dL_law_952 (by decide) ?_
  refine z_iadd C dL_law_953 ?_
  refine z_chk (fun hj105 => ?_)
  refine z_scr C hX hbl hbA hj105 dL_law_954 ?_
  refine z_aload_n C dL_law_955 rfl 0 rfl ?_
  refine z_iload_n C dL_law_956 rfl 3 rfl ?_
  refine z_iconst (v := 4) C dL_law_957 (by decide) ?_
  refine z_iadd C dL_law_958 ?_
  refine z_chk (fun hj106 => ?_)
  refine z_scr C hX hbl hbA hj106 dL_law_959 ?_
  refine z_ck (fun a35 hr35 hk35 => ?_)
  refine z_cVI [.int (xs (Int32.toNatClampNeg (x3 + 1))), .int (xs (Int32.toNatClampNeg (x3 + 2))), .int (xs (Int32.toNatClampNeg (x3 + 3))), .int (xs (Int32.toNatClampNeg (x3 + 4)))] [] C mv_RL_88 (fun r0 m0 h0 => M_X9_first _ _ _ _ _ _ _ _ _ _ h0) rfl rfl ⟨by rw [hrm]; exact Nat.le_of_ble_eq_true rfl, by rw [hrm]; exact Nat.le_of_ble_eq_true rfl⟩ ⟨by rw [hrm]; show _ ≤ room_1.cells; omega, by rw [hrm]; show _ ≤ room_1.slots; omega⟩ hr35 hk35 rfl rfl rfl (Nat.le_of_ble_eq_true rfl) dL_law_960 (fun r35 m35 => ?_)
  refine z_aload_n C dL_law_963 rfl 2 rfl ?_
  refine z_aload_n C dL_law_964 rfl 0 rfl ?_
  refine z_iload_n C dL_law_965 rfl 3 rfl ?_
  refine z_iconst (v := 1) C dL_law_966 (by decide) ?_
  refine z_iadd C dL_law_967 ?_
  refine z_chk (fun hj107 => ?_)
  refine z_scr C hX hbl hbA hj107 dL_law_968 ?_
  refine z_aload_n C dL_law_969 rfl 0 rfl ?_
  refine z_iload_n C dL_law_970 rfl 3 rfl ?_
  refine z_iconst (v := 2) C dL_law_971 (by decide) ?_
  refine z_iadd C dL_law_972 ?_
  refine z_chk (fun hj108 => ?_)
  refine z_scr C hX hbl hbA hj108 dL_law_973 ?_
  refine z_aload_n C dL_law_974 rfl 0 rfl ?_
  refine z_iload_n C dL_law_975 rfl 3 rfl ?_
  refine z_iconst (v := 3) C dL_law_976 (by decide) ?_
  refine z_iadd C dL_law_977 ?_
  refine z_chk (fun hj109 => ?_)
  refine z_scr C hX hbl hbA hj109 dL_law_978 ?_
  refine z_aload_n C dL_law_979 rfl 0 rfl ?_
  refine z_iload_n C dL_law_980 rfl 3 rfl ?_
  refine z_iconst (v := 4) C dL_law_981 (by decide) ?_
  refine z_iadd C dL_law_982 ?_
  refine z_chk (fun hj110 => ?_)
  refine z_scr C hX hbl hbA hj110 dL_law_983 ?_
  refine z_ck (fun a36 hr36 hk36 => ?_)
  refine z_cVI [.int (xs (Int32.toNatClampNeg (x3 + 1))), .int (xs (Int32.toNatClampNeg (x3 + 2))), .int (xs (Int32.toNatClampNeg (x3 + 3))), .int (xs (Int32.toNatClampNeg (x3 + 4)))] [.int r35] C mv_RL_91 (fun r0 m0 h0 => M_X10_first _ _ _ _ _ _ _ _ _ _ h0) rfl rfl ⟨by rw [hrm]; exact Nat.le_of_ble_eq_true rfl, by rw [hrm]; exact Nat.le_of_ble_eq_true rfl⟩ ⟨by rw [hrm]; show _ ≤ room_1.cells; omega, by rw [hrm]; show _ ≤ room_1.slots; omega⟩ hr36 hk36 rfl rfl rfl (Nat.le_of_ble_eq_true rfl) dL_law_984 (fun r36 m36 => ?_)
  refine z_icmp_eq (tgt := 2039) C dL_law_987 (by decide) (fun c18 => ?_) (fun c18 => ?_)
  · refine z_wid (k := ce + 58) (n := sl + 1570) (by omega) (by omega) ?_
    exact z_sub [0, 1, 2, 3] rfl (s_L_law_2039 xs Ln C hr hrm hA hX hbl hbA hB hce hsl k18 h18 x1 x2 x3 m36)
  · refine z_iconst (v := 0) C dL_law_990 (by decide) ?_
    exact z_none
set_option maxRecDepth 100000 in
def g_L_law_992 (xs : Nat → Int32) (Ln : Nat) (k18 : Option Nat → Option Nat → Int32 → MM → Option (Int32 × MM)) (x1 : Option Nat) (x2 : Option Nat) (x3 : Int32) (m : MM) : Option (Int32 × MM) :=
  chk (inb (x3 + 1) Ln = true) (chk (inb (x3 + 2) Ln = true) (chk (inb (x3 + 3) Ln = true) (chk (inb (x3 + 4) Ln = true) (chk (inb (x3 + 5) Ln = true) (chk (inb (x3 + 6) Ln = true) (chk (inb (x3 + 7) Ln = true) (ck m x1 10 (fun a37 => cal (f_X9_may a37 (xs (Int32.toNatClampNeg (x3 + 1))) (xs (Int32.toNatClampNeg (x3 + 2))) (xs (Int32.toNatClampNeg (x3 + 3))) (xs (Int32.toNatClampNeg (x3 + 4))) (xs (Int32.toNatClampNeg (x3 + 5))) (xs (Int32.toNatClampNeg (x3 + 6))) (xs (Int32.toNatClampNeg (x3 + 7))) m) (fun r37 m37 => chk (inb (x3 + 1) Ln = true) (chk (inb (x3 + 2) Ln = true) (chk (inb (x3 + 3) Ln = true) (chk (inb (x3 + 4) Ln = true) (chk (inb (x3 + 5) Ln = true) (chk (inb (x3 + 6) Ln = true) (chk (inb (x3 + 7) Ln = true) (ck m37 x2 11 (fun a38 => cal (f_X10_may a38 (xs (Int32.toNatClampNeg (x3 + 1))) (xs (Int32.toNatClampNeg (x3 + 2))) (xs (Int32.toNatClampNeg (x3 + 3))) (xs (Int32.toNatClampNeg (x3 + 4))) (xs (Int32.toNatClampNeg (x3 + 5))) (xs (Int32.toNatClampNeg (x3 + 6))) (xs (Int32.toNatClampNeg (x3 + 7))) m37) (fun r38 m38 => if r37 = r38 then (g_L_law_2039 xs Ln k18 x1 x2 x3 m38) else (none)))))))))))))))))))
set_option maxHeartbeats 8000000 in
set_option maxRecDepth 100000 in
theorem s_L_law_992 {Γ : GX} {E : EX} (xs : Nat → Int32) (Ln : Nat) {b ce sl : Nat} (C : Cx Γ E cL_law RL 4) (hr : Γ.meth.sig.returnType = ret) (hrm : Γ.rm = room_1) (hA : Γ.args = #[Value.ref b]) (hX : va_X b Ln xs Γ.s Γ.s.heap) (hbl : b < Γ.s.heap.size) (hbA : ¬ AA E b) (hB : E.base = Γ.s.heap.size) (hce : ce + 58 ≤ room_1.cells) (hsl : sl + 1570 ≤ room_1.slots) (k18 : Option Nat → Option Nat → Int32 → MM → Option (Int32 × MM)) (h18 : ∀ (x1 : Option Nat) (x2 : Option Nat) (x3 : Int32) (m : MM), Sm (QL Γ) Γ E 4 (ce + 58) (sl + 1570) 18 [(0, va_rf (some b)), (1, va_rf x1), (2, va_rf x2), (3, .int x3)] [] m (k18 x1 x2 x3 m)) (x1 : Option Nat) (x2 : Option Nat) (x3 : Int32) (m : MM) : Sm (QL Γ) Γ E 4 ce sl 992 [(0, va_rf (some b)), (1, va_rf x1), (2, va_rf x2), (3, .int x3)] [] m (g_L_law_992 xs Ln k18 x1 x2 x3 m) := by
  unfold g_L_law_992
  refine z_aload_n C dL_law_992 rfl 1 rfl ?_
  refine z_aload_n C dL_law_993 rfl 0 rfl ?_
  refine z_iload_n C dL_law_994 rfl 3 rfl ?_
  refine z_iconst (v := 1) C dL_law_995 (by decide) ?_
  refine z_iadd C dL_law_996 ?_
  refine z_chk (fun hj111 => ?_)
  refine z_scr C hX hbl hbA hj111 dL_law_997 ?_
  refine z_aload_n C dL_law_998 rfl 0 rfl ?_
  refine z_iload_n C dL_law_999 rfl 3 rfl ?_
  refine z_iconst (v := 2) C dL_law_1000 (by decide) ?_
  refine z_iadd C dL_law_1001 ?_
  refine z_chk (fun hj112 => ?_)
  refine z_scr C hX hbl hbA hj112 dL_law_1002 ?_
  refine z_aload_n C dL_law_1003 rfl 0 rfl ?_
  refine z_iload_n C dL_law_1004 rfl 3 rfl ?_
  refine z_iconst (v := 3) C dL_law_1005 (by decide) ?_
  refine z_iadd C dL_law_1006 ?_
  refine z_chk (fun hj113 => ?_)
  refine z_scr C hX hbl hbA hj113 dL_law_1007 ?_
  refine z_aload_n C dL_law_1008 rfl 0 rfl ?_
  refine z_iload_n C dL_law_1009 rfl 3 rfl ?_
  refine z_iconst (v := 4) C dL_law_1010 (by decide) ?_
  refine z_iadd C dL_law_1011 ?_
  refine z_chk (fun hj114 => ?_)
  refine z_scr C hX hbl hbA hj114 dL_law_1012 ?_
  refine z_aload_n C dL_law_1013 rfl 0 rfl ?_
  refine z_iload_n C dL_law_1014 rfl 3 rfl ?_
  refine z_iconst (v := 5) C dL_law_1015 (by decide) ?_
  refine z_iadd C dL_law_1016 ?_
  refine z_chk (fun hj115 => ?_)
  refine z_scr C hX hbl hbA hj115 dL_law_1017 ?_
  refine z_aload_n C dL_law_1018 rfl 0 rfl ?_
  refine z_iload_n C dL_law_1019 rfl 3 rfl ?_
  refine z_bipush (v := 6) C dL_law_1020 (by decide) ?_
  refine z_iadd C dL_law_1022 ?_
  refine z_chk (fun hj116 => ?_)
  refine z_scr C hX hbl hbA hj116 dL_law_1023 ?_
  refine z_aload_n C dL_law_1024 rfl 0 rfl ?_
  refine z_iload_n C dL_law_1025 rfl 3 rfl ?_
  refine z_bipush (v := 7) C dL_law_1026 (by decide) ?_
  refine z_iadd C dL_law_1028 ?_
  refine z_chk (fun hj117 => ?_)
  refine z_scr C hX hbl hbA hj117 dL_law_1029 ?_
  refine z_ck (fun a37 hr37 hk37 => ?_)
  refine z_cVI [.int (xs (Int32.toNatClampNeg (x3 + 1))), .int (xs (Int32.toNatClampNeg (x3 + 2))), .int (xs (Int32.toNatClampNeg (x3 + 3))), .int (xs (Int32.toNatClampNeg (x3 + 4))), .int (xs (Int32.toNatClampNeg (x3 + 5))), .int (xs (Int32.toNatClampNeg (x3 + 6))), .int (xs (Int32.toNatClampNeg (x3 + 7)))] [] C mv_RL_92 (fun r0 m0 h0 => M_X9_may _ _ _ _ _ _ _ _ _ _ _ _ _ h0) rfl rfl ⟨by rw [hrm]; exact Nat.le_of_ble_eq_true rfl, by rw [hrm]; exact Nat.le_of_ble_eq_true rfl⟩ ⟨by rw [hrm]; show _ ≤ room_1.cells; omega, by rw [hrm]; show _ ≤ room_1.slots; omega⟩ hr37 hk37 rfl rfl rfl (Nat.le_of_ble_eq_true rfl) dL_law_1030 (fun r37 m37 => ?_)
  refine z_aload_n C dL_law_1033 rfl 2 rfl ?_
  refine z_aload_n C dL_law_1034 rfl 0 rfl ?_
  refine z_iload_n C dL_law_1035 rfl 3 rfl ?_
  refine z_iconst (v := 1) C dL_law_1036 (by decide) ?_
  refine z_iadd C dL_law_1037 ?_
  refine z_chk (fun hj118 => ?_)
  refine z_scr C hX hbl hbA hj118 dL_law_1038 ?_
  refine z_aload_n C dL_law_1039 rfl 0 rfl ?_
  refine z_iload_n C dL_law_1040 rfl 3 rfl ?_
  refine z_iconst (v := 2) C dL_law_1041 (by decide) ?_
  refine z_iadd C dL_law_1042 ?_
  refine z_chk (fun hj119 => ?_)
  refine z_scr C hX hbl hbA hj119 dL_law_1043 ?_
  refine z_aload_n C dL_law_1044 rfl 0 rfl ?_
  refine z_iload_n C dL_law_1045 rfl 3 rfl ?_
  refine z_iconst (v := 3) C dL_law_1046 (by decide) ?_
  refine z_iadd C dL_law_1047 ?_
  refine z_chk (fun hj120 => ?_)
  refine z_scr C hX hbl hbA hj120 dL_law_1048 ?_
  refine z_aload_n C dL_law_1049 rfl 0 rfl ?_
  refine z_iload_n C dL_law_1050 rfl 3 rfl ?_
  refine z_iconst (v := 4) C dL_law_1051 (by decide) ?_
  refine z_iadd C dL_law_1052 ?_
  refine z_chk (fun hj121 => ?_)
  refine z_scr C hX hbl hbA hj121 dL_law_1053 ?_
  refine z_aload_n C dL_law_1054 rfl 0 rfl ?_
  refine z_iload_n C dL_law_1055 rfl 3 rfl ?_
  refine z_iconst (v := 5) C dL_law_1056 (by decide) ?_
  refine z_iadd C dL_law_1057 ?_
  refine z_chk (fun hj122 => ?_)
  refine z_scr C hX hbl hbA hj122 dL_law_1058 ?_
  refine z_aload_n C dL_law_1059 rfl 0 rfl ?_
  refine z_iload_n C dL_law_1060 rfl 3 rfl ?_
  refine z_bipush (v := 6) C dL_law_1061 (by decide) ?_
  refine z_iadd C dL_law_1063 ?_
  refine z_chk (fun hj123 => ?_)
  refine z_scr C hX hbl hbA hj123 dL_law_1064 ?_
  refine z_aload_n C dL_law_1065 rfl 0 rfl ?_
  refine z_iload_n C dL_law_1066 rfl 3 rfl ?_
  refine z_bipush (v := 7) C dL_law_1067 (by decide) ?_
  refine z_iadd C dL_law_1069 ?_
  refine z_chk (fun hj124 => ?_)
  refine z_scr C hX hbl hbA hj124 dL_law_1070 ?_
  refine z_ck (fun a38 hr38 hk38 => ?_)
  refine z_cVI [.int (xs (Int32.toNatClampNeg (x3 + 1))), .int (xs (Int32.toNatClampNeg (x3 + 2))), .int (xs (Int32.toNatClampNeg (x3 + 3))), .int (xs (Int32.toNatClampNeg (x3 + 4))), .int (xs (Int32.toNatClampNeg (x3 + 5))), .int (xs (Int32.toNatClampNeg (x3 + 6))), .int (xs (Int32.toNatClampNeg (x3 + 7)))] [.int r37] C mv_RL_96 (fun r0 m0 h0 => M_X10_may _ _ _ _ _ _ _ _ _ _ _ _ _ h0) rfl rfl ⟨by rw [hrm]; exact Nat.le_of_ble_eq_true rfl, by rw [hrm]; exact Nat.le_of_ble_eq_true rfl⟩ ⟨by rw [hrm]; show _ ≤ room_1.cells; omega, by rw [hrm]; show _ ≤ room_1.slots; omega⟩ hr38 hk38 rfl rfl rfl (Nat.le_of_ble_eq_true rfl) dL_law_1071 (fun r38 m38 => ?_)
  refine z_icmp_eq (tgt := 2039) C dL_law_1074 (by decide) (fun c19 => ?_) (fun c19 => ?_)
  · refine z_wid (k := ce + 58) (n := sl + 1570) (by omega) (by omega) ?_
    exact z_sub [0, 1, 2, 3] rfl (s_L_law_2039 xs Ln C hr hrm hA hX hbl hbA hB hce hsl k18 h18 x1 x2 x3 m38)
  · refine z_iconst (v := 0) C dL_law_1077 (by decide) ?_
    exact z_none
set_option maxRecDepth 100000 in
def g_L_law_1079 (xs : Nat → Int32) (Ln : Nat) (k18 : Option Nat → Option Nat → Int32 → MM → Option (Int32 × MM)) (x1 : Option Nat) (x2 : Option Nat) (x3 : Int32) (m : MM) : Option (Int32 × MM) :=
  chk (inb (x3 + 1) Ln = true) (chk (inb (x3 + 2) Ln = true) (chk (inb (x3 + 3) Ln = true) (chk (inb (x3 + 4) Ln = true) (chk (inb (x3 + 5) Ln = true) (ck m x1 10 (fun a39 => cal (f_X9_spots a39 (xs (Int32.toNatClampNeg (x3 + 1))) (xs (Int32.toNatClampNeg (x3 + 2))) (xs (Int32.toNatClampNeg (x3 + 3))) (xs (Int32.toNatClampNeg (x3 + 4))) (xs (Int32.toNatClampNeg (x3 + 5))) m) (fun r39 m39 => chk (inb (x3 + 1) Ln = true) (chk (inb (x3 + 2) Ln = true) (chk (inb (x3 + 3) Ln = true) (chk (inb (x3 + 4) Ln = true) (chk (inb (x3 + 5) Ln = true) (ck m39 x2 11 (fun a40 => cal (f_X10_spots a40 (xs (Int32.toNatClampNeg (x3 + 1))) (xs (Int32.toNatClampNeg (x3 + 2))) (xs (Int32.toNatClampNeg (x3 + 3))) (xs (Int32.toNatClampNeg (x3 + 4))) (xs (Int32.toNatClampNeg (x3 + 5))) m39) (fun r40 m40 => if r39 = r40 then (g_L_law_2039 xs Ln k18 x1 x2 x3 m40) else (none)))))))))))))))
set_option maxHeartbeats 8000000 in
set_option maxRecDepth 100000 in
theorem s_L_law_1079 {Γ : GX} {E : EX} (xs : Nat → Int32) (Ln : Nat) {b ce sl : Nat} (C : Cx Γ E cL_law RL 4) (hr : Γ.meth.sig.returnType = ret) (hrm : Γ.rm = room_1) (hA : Γ.args = #[Value.ref b]) (hX : va_X b Ln xs Γ.s Γ.s.heap) (hbl : b < Γ.s.heap.size) (hbA : ¬ AA E b) (hB : E.base = Γ.s.heap.size) (hce : ce + 58 ≤ room_1.cells) (hsl : sl + 1570 ≤ room_1.slots) (k18 : Option Nat → Option Nat → Int32 → MM → Option (Int32 × MM)) (h18 : ∀ (x1 : Option Nat) (x2 : Option Nat) (x3 : Int32) (m : MM), Sm (QL Γ) Γ E 4 (ce + 58) (sl + 1570) 18 [(0, va_rf (some b)), (1, va_rf x1), (2, va_rf x2), (3, .int x3)] [] m (k18 x1 x2 x3 m)) (x1 : Option Nat) (x2 : Option Nat) (x3 : Int32) (m : MM) : Sm (QL Γ) Γ E 4 ce sl 1079 [(0, va_rf (some b)), (1, va_rf x1), (2, va_rf x2), (3, .int x3)] [] m (g_L_law_1079 xs Ln k18 x1 x2 x3 m) := by
  unfold g_L_law_1079
  refine z_aload_n C dL_law_1079 rfl 1 rfl ?_
  refine z_aload_n C dL_law_1080 rfl 0 rfl ?_
  refine z_iload_n C dL_law_1081 rfl 3 rfl ?_
  refine z_iconst (v := 1) C dL_law_1082 (by decide) ?_
  refine z_iadd C dL_law_1083 ?_
  refine z_chk (fun hj125 => ?_)
  refine z_scr C hX hbl hbA hj125 dL_law_1084 ?_
  refine z_aload_n C dL_law_1085 rfl 0 rfl ?_
  refine z_iload_n C dL_law_1086 rfl 3 rfl ?_
  refine z_iconst (v := 2) C dL_law_1087 (by decide) ?_
  refine z_iadd C dL_law_1088 ?_
  refine z_chk (fun hj126 => ?_)
  refine z_scr C hX hbl hbA hj126 dL_law_1089 ?_
  refine z_aload_n C dL_law_1090 rfl 0 rfl ?_
  refine z_iload_n C dL_law_1091 rfl 3 rfl ?_
  refine z_iconst (v := 3) C dL_law_1092 (by decide) ?_
  refine z_iadd C dL_law_1093 ?_
  refine z_chk (fun hj127 => ?_)
  refine z_scr C hX hbl hbA hj127 dL_law_1094 ?_
  refine z_aload_n C dL_law_1095 rfl 0 rfl ?_
  refine z_iload_n C dL_law_1096 rfl 3 rfl ?_
  refine z_iconst (v := 4) C dL_law_1097 (by decide) ?_
  refine z_iadd C dL_law_1098 ?_
  refine z_chk (fun hj128 => ?_)
  refine z_scr C hX hbl hbA hj128 dL_law_1099 ?_
  refine z_aload_n C dL_law_1100 rfl 0 rfl ?_
  refine z_iload_n C dL_law_1101 rfl 3 rfl ?_
  refine z_iconst (v := 5) C dL_law_1102 (by decide) ?_
  refine z_iadd C dL_law_1103 ?_
  refine z_chk (fun hj129 => ?_)
  refine z_scr C hX hbl hbA hj129 dL_law_1104 ?_
  refine z_ck (fun a39 hr39 hk39 => ?_)
  refine z_cVI [.int (xs (Int32.toNatClampNeg (x3 + 1))), .int (xs (Int32.toNatClampNeg (x3 + 2))), .int (xs (Int32.toNatClampNeg (x3 + 3))), .int (xs (Int32.toNatClampNeg (x3 + 4))), .int (xs (Int32.toNatClampNeg (x3 + 5)))] [] C mv_RL_97 (fun r0 m0 h0 => M_X9_spots _ _ _ _ _ _ _ _ _ _ _ h0) rfl rfl ⟨by rw [hrm]; exact Nat.le_of_ble_eq_true rfl, by rw [hrm]; exact Nat.le_of_ble_eq_true rfl⟩ ⟨by rw [hrm]; show _ ≤ room_1.cells; omega, by rw [hrm]; show _ ≤ room_1.slots; omega⟩ hr39 hk39 rfl rfl rfl (Nat.le_of_ble_eq_true rfl) dL_law_1105 (fun r39 m39 => ?_)
  refine z_aload_n C dL_law_1108 rfl 2 rfl ?_
  refine z_aload_n C dL_law_1109 rfl 0 rfl ?_
  refine z_iload_n C dL_law_1110 rfl 3 rfl ?_
  refine z_iconst (v := 1) C dL_law_1111 (by decide) ?_
  refine z_iadd C dL_law_1112 ?_
  refine z_chk (fun hj130 => ?_)
  refine z_scr C hX hbl hbA hj130 dL_law_1113 ?_
  refine z_aload_n C dL_law_1114 rfl 0 rfl ?_
  refine z_iload_n C dL_law_1115 rfl 3 rfl ?_
  refine z_iconst (v := 2) C dL_law_1116 (by decide) ?_
  refine z_iadd C dL_law_1117 ?_
  refine z_chk (fun hj131 => ?_)
  refine z_scr C hX hbl hbA hj131 dL_law_1118 ?_
  refine z_aload_n C dL_law_1119 rfl 0 rfl ?_
  refine z_iload_n C dL_law_1120 rfl 3 rfl ?_
  refine z_iconst (v := 3) C dL_law_1121 (by decide) ?_
  refine z_iadd C dL_law_1122 ?_
  refine z_chk (fun hj132 => ?_)
  refine z_scr C hX hbl hbA hj132 dL_law_1123 ?_
  refine z_aload_n C dL_law_1124 rfl 0 rfl ?_
  refine z_iload_n C dL_law_1125 rfl 3 rfl ?_
  refine z_iconst (v := 4) C dL_law_1126 (by decide) ?_
  refine z_iadd C dL_law_1127 ?_
  refine z_chk (fun hj133 => ?_)
  refine z_scr C hX hbl hbA hj133 dL_law_1128 ?_
  refine z_aload_n C dL_law_1129 rfl 0 rfl ?_
  refine z_iload_n C dL_law_1130 rfl 3 rfl ?_
  refine z_iconst (v := 5) C dL_law_1131 (by decide) ?_
  refine z_iadd C dL_law_1132 ?_
  refine z_chk (fun hj134 => ?_)
  refine z_scr C hX hbl hbA hj134 dL_law_1133 ?_
  refine z_ck (fun a40 hr40 hk40 => ?_)
  refine z_cVI [.int (xs (Int32.toNatClampNeg (x3 + 1))), .int (xs (Int32.toNatClampNeg (x3 + 2))), .int (xs (Int32.toNatClampNeg (x3 + 3))), .int (xs (Int32.toNatClampNeg (x3 + 4))), .int (xs (Int32.toNatClampNeg (x3 + 5)))] [.int r39] C mv_RL_100 (fun r0 m0 h0 => M_X10_spots _ _ _ _ _ _ _ _ _ _ _ h0) rfl rfl ⟨by rw [hrm]; exact Nat.le_of_ble_eq_true rfl, by rw [hrm]; exact Nat.le_of_ble_eq_true rfl⟩ ⟨by rw [hrm]; show _ ≤ room_1.cells; omega, by rw [hrm]; show _ ≤ room_1.slots; omega⟩ hr40 hk40 rfl rfl rfl (Nat.le_of_ble_eq_true rfl) dL_law_1134 (fun r40 m40 => ?_)
  refine z_icmp_eq (tgt := 2039) C dL_law_1137 (by decide) (fun c20 => ?_) (fun c20 => ?_)
  · refine z_wid (k := ce + 58) (n := sl + 1570) (by omega) (by omega) ?_
    exact z_sub [0, 1, 2, 3] rfl (s_L_law_2039 xs Ln C hr hrm hA hX hbl hbA hB hce hsl k18 h18 x1 x2 x3 m40)
  · refine z_iconst (v := 0) C dL_law_1140 (by decide) ?_
    exact z_none
set_option maxRecDepth 100000 in
def g_L_law_1142 (xs : Nat → Int32) (Ln : Nat) (k18 : Option Nat → Option Nat → Int32 → MM → Option (Int32 × MM)) (x1 : Option Nat) (x2 : Option Nat) (x3 : Int32) (m : MM) : Option (Int32 × MM) :=
  chk (inb (x3 + 1) Ln = true) (chk (inb (x3 + 2) Ln = true) (chk (inb (x3 + 3) Ln = true) (chk (inb (x3 + 4) Ln = true) (chk (inb (x3 + 5) Ln = true) (chk (inb (x3 + 6) Ln = true) (ck m x1 10 (fun a41 => cal (f_X9_spot a41 (xs (Int32.toNatClampNeg (x3 + 1))) (xs (Int32.toNatClampNeg (x3 + 2))) (xs (Int32.toNatClampNeg (x3 + 3))) (xs (Int32.toNatClampNeg (x3 + 4))) (xs (Int32.toNatClampNeg (x3 + 5))) (xs (Int32.toNatClampNeg (x3 + 6))) m) (fun r41 m41 => chk (inb (x3 + 1) Ln = true) (chk (inb (x3 + 2) Ln = true) (chk (inb (x3 + 3) Ln = true) (chk (inb (x3 + 4) Ln = true) (chk (inb (x3 + 5) Ln = true) (chk (inb (x3 + 6) Ln = true) (ck m41 x2 11 (fun a42 => cal (f_X10_spot a42 (xs (Int32.toNatClampNeg (x3 + 1))) (xs (Int32.toNatClampNeg (x3 + 2))) (xs (Int32.toNatClampNeg (x3 + 3))) (xs (Int32.toNatClampNeg (x3 + 4))) (xs (Int32.toNatClampNeg (x3 + 5))) (xs (Int32.toNatClampNeg (x3 + 6))) m41) (fun r42 m42 => if r41 = r42 then (g_L_law_2039 xs Ln k18 x1 x2 x3 m42) else (none)))))))))))))))))
set_option maxHeartbeats 8000000 in
set_option maxRecDepth 100000 in
theorem s_L_law_1142 {Γ : GX} {E : EX} (xs : Nat → Int32) (Ln : Nat) {b ce sl : Nat} (C : Cx Γ E cL_law RL 4) (hr : Γ.meth.sig.returnType = ret) (hrm : Γ.rm = room_1) (hA : Γ.args = #[Value.ref b]) (hX : va_X b Ln xs Γ.s Γ.s.heap) (hbl : b < Γ.s.heap.size) (hbA : ¬ AA E b) (hB : E.base = Γ.s.heap.size) (hce : ce + 58 ≤ room_1.cells) (hsl : sl + 1570 ≤ room_1.slots) (k18 : Option Nat → Option Nat → Int32 → MM → Option (Int32 × MM)) (h18 : ∀ (x1 : Option Nat) (x2 : Option Nat) (x3 : Int32) (m : MM), Sm (QL Γ) Γ E 4 (ce + 58) (sl + 1570) 18 [(0, va_rf (some b)), (1, va_rf x1), (2, va_rf x2), (3, .int x3)] [] m (k18 x1 x2 x3 m)) (x1 : Option Nat) (x2 : Option Nat) (x3 : Int32) (m : MM) : Sm (QL Γ) Γ E 4 ce sl 1142 [(0, va_rf (some b)), (1, va_rf x1), (2, va_rf x2), (3, .int x3)] [] m (g_L_law_1142 xs Ln k18 x1 x2 x3 m) := by
  unfold g_L_law_1142
  refine z_aload_n C dL_law_1142 rfl 1 rfl ?_
  refine z_aload_n C dL_law_1143 rfl 0 rfl ?_
  refine z_iload_n C dL_law_1144 rfl 3 rfl ?_
  refine z_iconst (v := 1) C dL_law_1145 (by decide) ?_
  refine z_iadd C dL_law_1146 ?_
  refine z_chk (fun hj135 => ?_)
  refine z_scr C hX hbl hbA hj135 dL_law_1147 ?_
  refine z_aload_n C dL_law_1148 rfl 0 rfl ?_
  refine z_iload_n C dL_law_1149 rfl 3 rfl ?_
  refine z_iconst (v := 2) C dL_law_1150 (by decide) ?_
  refine z_iadd C dL_law_1151 ?_
  refine z_chk (fun hj136 => ?_)
  refine z_scr C hX hbl hbA hj136 dL_law_1152 ?_
  refine z_aload_n C dL_law_1153 rfl 0 rfl ?_
  refine z_iload_n C dL_law_1154 rfl 3 rfl ?_
  refine z_iconst (v := 3) C dL_law_1155 (by decide) ?_
  refine z_iadd C dL_law_1156 ?_
  refine z_chk (fun hj137 => ?_)
  refine z_scr C hX hbl hbA hj137 dL_law_1157 ?_
  refine z_aload_n C dL_law_1158 rfl 0 rfl ?_
  refine z_iload_n C dL_law_1159 rfl 3 rfl ?_
  refine z_iconst (v := 4) C dL_law_1160 (by decide) ?_
  refine z_iadd C dL_law_1161 ?_
  refine z_chk (fun hj138 => ?_)
  refine z_scr C hX hbl hbA hj138 dL_law_1162 ?_
  refine z_aload_n C dL_law_1163 rfl 0 rfl ?_
  refine z_iload_n C dL_law_1164 rfl 3 rfl ?_
  refine z_iconst (v := 5) C dL_law_1165 (by decide) ?_
  refine z_iadd C dL_law_1166 ?_
  refine z_chk (fun hj139 => ?_)
  refine z_scr C hX hbl hbA hj139 dL_law_1167 ?_
  refine z_aload_n C dL_law_1168 rfl 0 rfl ?_
  refine z_iload_n C dL_law_1169 rfl 3 rfl ?_
  refine z_bipush (v := 6) C dL_law_1170 (by decide) ?_
  refine z_iadd C dL_law_1172 ?_
  refine z_chk (fun hj140 => ?_)
  refine z_scr C hX hbl hbA hj140 dL_law_1173 ?_
  refine z_ck (fun a41 hr41 hk41 => ?_)
  refine z_cVI [.int (xs (Int32.toNatClampNeg (x3 + 1))), .int (xs (Int32.toNatClampNeg (x3 + 2))), .int (xs (Int32.toNatClampNeg (x3 + 3))), .int (xs (Int32.toNatClampNeg (x3 + 4))), .int (xs (Int32.toNatClampNeg (x3 + 5))), .int (xs (Int32.toNatClampNeg (x3 + 6)))] [] C mv_RL_101 (fun r0 m0 h0 => M_X9_spot _ _ _ _ _ _ _ _ _ _ _ _ h0) rfl rfl ⟨by rw [hrm]; exact Nat.le_of_ble_eq_true rfl, by rw [hrm]; exact Nat.le_of_ble_eq_true rfl⟩ ⟨by rw [hrm]; show _ ≤ room_1.cells; omega, by rw [hrm]; show _ ≤ room_1.slots; omega⟩ hr41 hk41 rfl rfl rfl (Nat.le_of_ble_eq_true rfl) dL_law_1174 (fun r41 m41 => ?_)
  refine z_aload_n C dL_law_1177 rfl 2 rfl ?_
  refine z_aload_n C dL_law_1178 rfl 0 rfl ?_
  refine z_iload_n C dL_law_1179 rfl 3 rfl ?_
  refine z_iconst (v := 1) C dL_law_1180 (by decide) ?_
  refine z_iadd C dL_law_1181 ?_
  refine z_chk (fun hj141 => ?_)
  refine z_scr C hX hbl hbA hj141 dL_law_1182 ?_
  refine z_aload_n C dL_law_1183 rfl 0 rfl ?_
  refine z_iload_n C dL_law_1184 rfl 3 rfl ?_
  refine z_iconst (v := 2) C dL_law_1185 (by decide) ?_
  refine z_iadd C dL_law_1186 ?_
  refine z_chk (fun hj142 => ?_)
  refine z_scr C hX hbl hbA hj142 dL_law_1187 ?_
  refine z_aload_n C dL_law_1188 rfl 0 rfl ?_
  refine z_iload_n C dL_law_1189 rfl 3 rfl ?_
  refine z_iconst (v := 3) C dL_law_1190 (by decide) ?_
  refine z_iadd C dL_law_1191 ?_
  refine z_chk (fun hj143 => ?_)
  refine z_scr C hX hbl hbA hj143 dL_law_1192 ?_
  refine z_aload_n C dL_law_1193 rfl 0 rfl ?_
  refine z_iload_n C dL_law_1194 rfl 3 rfl ?_
  refine z_iconst (v := 4) C dL_law_1195 (by decide) ?_
  refine z_iadd C dL_law_1196 ?_
  refine z_chk (fun hj144 => ?_)
  refine z_scr C hX hbl hbA hj144 dL_law_1197 ?_
  refine z_aload_n C dL_law_1198 rfl 0 rfl ?_
  refine z_iload_n C dL_law_1199 rfl 3 rfl ?_
  refine z_iconst (v := 5) C dL_law_1200 (by decide) ?_
  refine z_iadd C dL_law_1201 ?_
  refine z_chk (fun hj145 => ?_)
  refine z_scr C hX hbl hbA hj145 dL_law_1202 ?_
  refine z_aload_n C dL_law_1203 rfl 0 rfl ?_
  refine z_iload_n C dL_law_1204 rfl 3 rfl ?_
  refine z_bipush (v := 6) C dL_law_1205 (by decide) ?_
  refine z_iadd C dL_law_1207 ?_
  refine z_chk (fun hj146 => ?_)
  refine z_scr C hX hbl hbA hj146 dL_law_1208 ?_
  refine z_ck (fun a42 hr42 hk42 => ?_)
  refine z_cVI [.int (xs (Int32.toNatClampNeg (x3 + 1))), .int (xs (Int32.toNatClampNeg (x3 + 2))), .int (xs (Int32.toNatClampNeg (x3 + 3))), .int (xs (Int32.toNatClampNeg (x3 + 4))), .int (xs (Int32.toNatClampNeg (x3 + 5))), .int (xs (Int32.toNatClampNeg (x3 + 6)))] [.int r41] C mv_RL_105 (fun r0 m0 h0 => M_X10_spot _ _ _ _ _ _ _ _ _ _ _ _ h0) rfl rfl ⟨by rw [hrm]; exact Nat.le_of_ble_eq_true rfl, by rw [hrm]; exact Nat.le_of_ble_eq_true rfl⟩ ⟨by rw [hrm]; show _ ≤ room_1.cells; omega, by rw [hrm]; show _ ≤ room_1.slots; omega⟩ hr42 hk42 rfl rfl rfl (Nat.le_of_ble_eq_true rfl) dL_law_1209 (fun r42 m42 => ?_)
  refine z_icmp_eq (tgt := 2039) C dL_law_1212 (by decide) (fun c21 => ?_) (fun c21 => ?_)
  · refine z_wid (k := ce + 58) (n := sl + 1570) (by omega) (by omega) ?_
    exact z_sub [0, 1, 2, 3] rfl (s_L_law_2039 xs Ln C hr hrm hA hX hbl hbA hB hce hsl k18 h18 x1 x2 x3 m42)
  · refine z_iconst (v := 0) C dL_law_1215 (by decide) ?_
    exact z_none
set_option maxRecDepth 100000 in
def g_L_law_1217 (xs : Nat → Int32) (Ln : Nat) (k18 : Option Nat → Option Nat → Int32 → MM → Option (Int32 × MM)) (x1 : Option Nat) (x2 : Option Nat) (x3 : Int32) (m : MM) : Option (Int32 × MM) :=
  chk (inb (x3 + 1) Ln = true) (chk (inb (x3 + 2) Ln = true) (chk (inb (x3 + 3) Ln = true) (ck m x1 10 (fun a43 => cal (f_X9_wish a43 (xs (Int32.toNatClampNeg (x3 + 1))) (xs (Int32.toNatClampNeg (x3 + 2))) (xs (Int32.toNatClampNeg (x3 + 3))) m) (fun r43 m43 => chk (inb (x3 + 1) Ln = true) (chk (inb (x3 + 2) Ln = true) (chk (inb (x3 + 3) Ln = true) (ck m43 x2 11 (fun a44 => cal (f_X10_wish a44 (xs (Int32.toNatClampNeg (x3 + 1))) (xs (Int32.toNatClampNeg (x3 + 2))) (xs (Int32.toNatClampNeg (x3 + 3))) m43) (fun r44 m44 => if r43 = r44 then (g_L_law_2039 xs Ln k18 x1 x2 x3 m44) else (none)))))))))))
set_option maxHeartbeats 8000000 in
set_option maxRecDepth 100000 in
theorem s_L_law_1217 {Γ : GX} {E : EX} (xs : Nat → Int32) (Ln : Nat) {b ce sl : Nat} (C : Cx Γ E cL_law RL 4) (hr : Γ.meth.sig.returnType = ret) (hrm : Γ.rm = room_1) (hA : Γ.args = #[Value.ref b]) (hX : va_X b Ln xs Γ.s Γ.s.heap) (hbl : b < Γ.s.heap.size) (hbA : ¬ AA E b) (hB : E.base = Γ.s.heap.size) (hce : ce + 58 ≤ room_1.cells) (hsl : sl + 1570 ≤ room_1.slots) (k18 : Option Nat → Option Nat → Int32 → MM → Option (Int32 × MM)) (h18 : ∀ (x1 : Option Nat) (x2 : Option Nat) (x3 : Int32) (m : MM), Sm (QL Γ) Γ E 4 (ce + 58) (sl + 1570) 18 [(0, va_rf (some b)), (1, va_rf x1), (2, va_rf x2), (3, .int x3)] [] m (k18 x1 x2 x3 m)) (x1 : Option Nat) (x2 : Option Nat) (x3 : Int32) (m : MM) : Sm (QL Γ) Γ E 4 ce sl 1217 [(0, va_rf (some b)), (1, va_rf x1), (2, va_rf x2), (3, .int x3)] [] m (g_L_law_1217 xs Ln k18 x1 x2 x3 m) := by
  unfold g_L_law_1217
  refine z_aload_n C dL_law_1217 rfl 1 rfl ?_
  refine z_aload_n C dL_law_1218 rfl 0 rfl ?_
  refine z_iload_n C dL_law_1219 rfl 3 rfl ?_
  refine z_iconst (v := 1) C dL_law_1220 (by decide) ?_
  refine z_iadd C dL_law_1221 ?_
  refine z_chk (fun hj147 => ?_)
  refine z_scr C hX hbl hbA hj147 dL_law_1222 ?_
  refine z_aload_n C dL_law_1223 rfl 0 rfl ?_
  refine z_iload_n C dL_law_1224 rfl 3 rfl ?_
  refine z_iconst (v := 2) C dL_law_1225 (by decide) ?_
  refine z_iadd C dL_law_1226 ?_
  refine z_chk (fun hj148 => ?_)
  refine z_scr C hX hbl hbA hj148 dL_law_1227 ?_
  refine z_aload_n C dL_law_1228 rfl 0 rfl ?_
  refine z_iload_n C dL_law_1229 rfl 3 rfl ?_
  refine z_iconst (v := 3) C dL_law_1230 (by decide) ?_
  refine z_iadd C dL_law_1231 ?_
  refine z_chk (fun hj149 => ?_)
  refine z_scr C hX hbl hbA hj149 dL_law_1232 ?_
  refine z_ck (fun a43 hr43 hk43 => ?_)
  refine z_cVI [.int (xs (Int32.toNatClampNeg (x3 + 1))), .int (xs (Int32.toNatClampNeg (x3 + 2))), .int (xs (Int32.toNatClampNeg (x3 + 3)))] [] C mv_RL_106 (fun r0 m0 h0 => M_X9_wish _ _ _ _ _ _ _ _ _ h0) rfl rfl ⟨by rw [hrm]; exact Nat.le_of_ble_eq_true rfl, by rw [hrm]; exact Nat.le_of_ble_eq_true rfl⟩ ⟨by rw [hrm]; show _ ≤ room_1.cells; omega, by rw [hrm]; show _ ≤ room_1.slots; omega⟩ hr43 hk43 rfl rfl rfl (Nat.le_of_ble_eq_true rfl) dL_law_1233 (fun r43 m43 => ?_)
  refine z_aload_n C dL_law_1236 rfl 2 rfl ?_
  refine z_aload_n C dL_law_1237 rfl 0 rfl ?_
  refine z_iload_n C dL_law_1238 rfl 3 rfl ?_
  refine z_iconst (v := 1) C dL_law_1239 (by decide) ?_
  refine z_iadd C dL_law_1240 ?_
  refine z_chk (fun hj150 => ?_)
  refine z_scr C hX hbl hbA hj150 dL_law_1241 ?_
  refine z_aload_n C dL_law_1242 rfl 0 rfl ?_
  refine z_iload_n C dL_law_1243 rfl 3 rfl ?_
  refine z_iconst (v := 2) C dL_law_1244 (by decide) ?_
  refine z_iadd C dL_law_1245 ?_
  refine z_chk (fun hj151 => ?_)
  refine z_scr C hX hbl hbA hj151 dL_law_1246 ?_
  refine z_aload_n C dL_law_1247 rfl 0 rfl ?_
  refine z_iload_n C dL_law_1248 rfl 3 rfl ?_
  refine z_iconst (v := 3) C dL_law_1249 (by decide) ?_
  refine z_iadd C dL_law_1250 ?_
  refine z_chk (fun hj152 => ?_)
  refine z_scr C hX hbl hbA hj152 dL_law_1251 ?_
  refine z_ck (fun a44 hr44 hk44 => ?_)
  refine z_cVI [.int (xs (Int32.toNatClampNeg (x3 + 1))), .int (xs (Int32.toNatClampNeg (x3 + 2))), .int (xs (Int32.toNatClampNeg (x3 + 3)))] [.int r43] C mv_RL_109 (fun r0 m0 h0 => M_X10_wish _ _ _ _ _ _ _ _ _ h0) rfl rfl ⟨by rw [hrm]; exact Nat.le_of_ble_eq_true rfl, by rw [hrm]; exact Nat.le_of_ble_eq_true rfl⟩ ⟨by rw [hrm]; show _ ≤ room_1.cells; omega, by rw [hrm]; show _ ≤ room_1.slots; omega⟩ hr44 hk44 rfl rfl rfl (Nat.le_of_ble_eq_true rfl) dL_law_1252 (fun r44 m44 => ?_)
  refine z_icmp_eq (tgt := 2039) C dL_law_1255 (by decide) (fun c22 => ?_) (fun c22 => ?_)
  · refine z_wid (k := ce + 58) (n := sl + 1570) (by omega) (by omega) ?_
    exact z_sub [0, 1, 2, 3] rfl (s_L_law_2039 xs Ln C hr hrm hA hX hbl hbA hB hce hsl k18 h18 x1 x2 x3 m44)
  · refine z_iconst (v := 0) C dL_law_1258 (by decide) ?_
    exact z_none
set_option maxRecDepth 100000 in
def g_L_law_1260 (xs : Nat → Int32) (Ln : Nat) (k18 : Option Nat → Option Nat → Int32 → MM → Option (Int32 × MM)) (x1 : Option Nat) (x2 : Option Nat) (x3 : Int32) (m : MM) : Option (Int32 × MM) :=
  chk (inb (x3 + 1) Ln = true) (ck m x1 10 (fun a45 => cal (f_X9_forget a45 (xs (Int32.toNatClampNeg (x3 + 1))) m) (fun r45 m45 => chk (inb (x3 + 1) Ln = true) (ck m45 x2 11 (fun a46 => cal (f_X10_forget a46 (xs (Int32.toNatClampNeg (x3 + 1))) m45) (fun r46 m46 => if r45 = r46 then (g_L_law_2039 xs Ln k18 x1 x2 x3 m46) else (none)))))))
set_option maxHeartbeats 8000000 in
set_option maxRecDepth 100000 in
theorem s_L_law_1260 {Γ : GX} {E : EX} (xs : Nat → Int32) (Ln : Nat) {b ce sl : Nat} (C : Cx Γ E cL_law RL 4) (hr : Γ.meth.sig.returnType = ret) (hrm : Γ.rm = room_1) (hA : Γ.args = #[Value.ref b]) (hX : va_X b Ln xs Γ.s Γ.s.heap) (hbl : b < Γ.s.heap.size) (hbA : ¬ AA E b) (hB : E.base = Γ.s.heap.size) (hce : ce + 58 ≤ room_1.cells) (hsl : sl + 1570 ≤ room_1.slots) (k18 : Option Nat → Option Nat → Int32 → MM → Option (Int32 × MM)) (h18 : ∀ (x1 : Option Nat) (x2 : Option Nat) (x3 : Int32) (m : MM), Sm (QL Γ) Γ E 4 (ce + 58) (sl + 1570) 18 [(0, va_rf (some b)), (1, va_rf x1), (2, va_rf x2), (3, .int x3)] [] m (k18 x1 x2 x3 m)) (x1 : Option Nat) (x2 : Option Nat) (x3 : Int32) (m : MM) : Sm (QL Γ) Γ E 4 ce sl 1260 [(0, va_rf (some b)), (1, va_rf x1), (2, va_rf x2), (3, .int x3)] [] m (g_L_law_1260 xs Ln k18 x1 x2 x3 m) := by
  unfold g_L_law_1260
  refine z_aload_n C dL_law_1260 rfl 1 rfl ?_
  refine z_aload_n C dL_law_1261 rfl 0 rfl ?_
  refine z_iload_n C dL_law_1262 rfl 3 rfl ?_
  refine z_iconst (v := 1) C dL_law_1263 (by decide) ?_
  refine z_iadd C dL_law_1264 ?_
  refine z_chk (fun hj153 => ?_)
  refine z_scr C hX hbl hbA hj153 dL_law_1265 ?_
  refine z_ck (fun a45 hr45 hk45 => ?_)
  refine z_cVI [.int (xs (Int32.toNatClampNeg (x3 + 1)))] [] C mv_RL_110 (fun r0 m0 h0 => M_X9_forget _ _ _ _ _ _ _ h0) rfl rfl ⟨by rw [hrm]; exact Nat.le_of_ble_eq_true rfl, by rw [hrm]; exact Nat.le_of_ble_eq_true rfl⟩ ⟨by rw [hrm]; show _ ≤ room_1.cells; omega, by rw [hrm]; show _ ≤ room_1.slots; omega⟩ hr45 hk45 rfl rfl rfl (Nat.le_of_ble_eq_true rfl) dL_law_1266 (fun r45 m45 => ?_)
  refine z_aload_n C dL_law_1269 rfl 2 rfl ?_
  refine z_aload_n C dL_law_1270 rfl 0 rfl ?_
  refine z_iload_n C dL_law_1271 rfl 3 rfl ?_
  refine z_iconst (v := 1) C dL_law_1272 (by decide) ?_
  refine z_iadd C dL_law_1273 ?_
  refine z_chk (fun hj154 => ?_)
  refine z_scr C hX hbl hbA hj154 dL_law_1274 ?_
  refine z_ck (fun a46 hr46 hk46 => ?_)
  refine z_cVI [.int (xs (Int32.toNatClampNeg (x3 + 1)))] [.int r45] C mv_RL_114 (fun r0 m0 h0 => M_X10_forget _ _ _ _ _ _ _ h0) rfl rfl ⟨by rw [hrm]; exact Nat.le_of_ble_eq_true rfl, by rw [hrm]; exact Nat.le_of_ble_eq_true rfl⟩ ⟨by rw [hrm]; show _ ≤ room_1.cells; omega, by rw [hrm]; show _ ≤ room_1.slots; omega⟩ hr46 hk46 rfl rfl rfl (Nat.le_of_ble_eq_true rfl) dL_law_1275 (fun r46 m46 => ?_)
  refine z_icmp_eq (tgt := 2039) C dL_law_1278 (by decide) (fun c23 => ?_) (fun c23 => ?_)
  · refine z_wid (k := ce + 58) (n := sl + 1570) (by omega) (by omega) ?_
    exact z_sub [0, 1, 2, 3] rfl (s_L_law_2039 xs Ln C hr hrm hA hX hbl hbA hB hce hsl k18 h18 x1 x2 x3 m46)
  · refine z_iconst (v := 0) C dL_law_1281 (by decide) ?_
    exact z_none
set_option maxRecDepth 100000 in
def g_L_law_1349 (xs : Nat → Int32) (Ln : Nat) (k18 : Option Nat → Option Nat → Int32 → MM → Option (Int32 × MM)) (x1 : Option Nat) (x2 : Option Nat) (x3 : Int32) (s0 : Int32) (s1 : Option Nat) (s2 : Int32) (s3 : Int32) (s4 : Int32) (s5 : Int32) (m : MM) : Option (Int32 × MM) :=
  chk (inb (x3 + 5) Ln = true) (ck m s1 11 (fun a47 => cal (f_X10_plan a47 s2 s3 s4 s5 (xs (Int32.toNatClampNeg (x3 + 5))) m) (fun r47 m47 => if s0 = r47 then (g_L_law_2039 xs Ln k18 x1 x2 x3 m47) else (none))))
set_option maxHeartbeats 8000000 in
set_option maxRecDepth 100000 in
theorem s_L_law_1349 {Γ : GX} {E : EX} (xs : Nat → Int32) (Ln : Nat) {b ce sl : Nat} (C : Cx Γ E cL_law RL 4) (hr : Γ.meth.sig.returnType = ret) (hrm : Γ.rm = room_1) (hA : Γ.args = #[Value.ref b]) (hX : va_X b Ln xs Γ.s Γ.s.heap) (hbl : b < Γ.s.heap.size) (hbA : ¬ AA E b) (hB : E.base = Γ.s.heap.size) (hce : ce + 58 ≤ room_1.cells) (hsl : sl + 1570 ≤ room_1.slots) (k18 : Option Nat → Option Nat → Int32 → MM → Option (Int32 × MM)) (h18 : ∀ (x1 : Option Nat) (x2 : Option Nat) (x3 : Int32) (m : MM), Sm (QL Γ) Γ E 4 (ce + 58) (sl + 1570) 18 [(0, va_rf (some b)), (1, va_rf x1), (2, va_rf x2), (3, .int x3)] [] m (k18 x1 x2 x3 m)) (x1 : Option Nat) (x2 : Option Nat) (x3 : Int32) (s0 : Int32) (s1 : Option Nat) (s2 : Int32) (s3 : Int32) (s4 : Int32) (s5 : Int32) (m : MM) : Sm (QL Γ) Γ E 4 ce sl 1349 [(0, va_rf (some b)), (1, va_rf x1), (2, va_rf x2), (3, .int x3)] [.int s5, .int s4, .int s3, .int s2, va_rf s1, .int s0] m (g_L_law_1349 xs Ln k18 x1 x2 x3 s0 s1 s2 s3 s4 s5 m) := by
  unfold g_L_law_1349
  refine z_aload_n C dL_law_1349 rfl 0 rfl ?_
  refine z_iload_n C dL_law_1350 rfl 3 rfl ?_
  refine z_iconst (v := 5) C dL_law_1351 (by decide) ?_
  refine z_iadd C dL_law_1352 ?_
  refine z_chk (fun hj155 => ?_)
  refine z_scr C hX hbl hbA hj155 dL_law_1353 ?_
  refine z_ck (fun a47 hr47 hk47 => ?_)
  refine z_cVI [.int s2, .int s3, .int s4, .int s5, .int (xs (Int32.toNatClampNeg (x3 + 5)))] [.int s0] C mv_RL_119 (fun r0 m0 h0 => M_X10_plan _ _ _ _ _ _ _ _ _ _ _ h0) rfl rfl ⟨by rw [hrm]; exact Nat.le_of_ble_eq_true rfl, by rw [hrm]; exact Nat.le_of_ble_eq_true rfl⟩ ⟨by rw [hrm]; show _ ≤ room_1.cells; omega, by rw [hrm]; show _ ≤ room_1.slots; omega⟩ hr47 hk47 rfl rfl rfl (Nat.le_of_ble_eq_true rfl) dL_law_1354 (fun r47 m47 => ?_)
  refine z_icmp_eq (tgt := 2039) C dL_law_1357 (by decide) (fun c24 => ?_) (fun c24 => ?_)
  · refine z_wid (k := ce + 58) (n := sl + 1570) (by omega) (by omega) ?_
    exact z_sub [0, 1, 2, 3] rfl (s_L_law_2039 xs Ln C hr hrm hA hX hbl hbA hB hce hsl k18 h18 x1 x2 x3 m47)
  · refine z_iconst (v := 0) C dL_law_1360 (by decide) ?_
    exact z_none
set_option maxRecDepth 100000 in
def g_L_law_1312 (xs : Nat → Int32) (Ln : Nat) (k18 : Option Nat → Option Nat → Int32 → MM → Option (Int32 × MM)) (x1 : Option Nat) (x2 : Option Nat) (x3 : Int32) (s0 : Option Nat) (s1 : Int32) (s2 : Int32) (s3 : Int32) (s4 : Int32) (m : MM) : Option (Int32 × MM) :=
  chk (inb (x3 + 5) Ln = true) (ck m s0 10 (fun a48 => cal (f_X9_plan a48 s1 s2 s3 s4 (xs (Int32.toNatClampNeg (x3 + 5))) m) (fun r48 m48 => chk (inb (x3 + 1) Ln = true) (chk (inb (x3 + 2) Ln = true) (chk (inb (x3 + 3) Ln = true) (chk (inb (x3 + 4) Ln = true) (if (xs (Int32.toNatClampNeg (x3 + 4))) = 0 then (g_L_law_1349 xs Ln k18 x1 x2 x3 r48 x2 (xs (Int32.toNatClampNeg (x3 + 1))) (xs (Int32.toNatClampNeg (x3 + 2))) (xs (Int32.toNatClampNeg (x3 + 3))) 0 m48) else (g_L_law_1349 xs Ln k18 x1 x2 x3 r48 x2 (xs (Int32.toNatClampNeg (x3 + 1))) (xs (Int32.toNatClampNeg (x3 + 2))) (xs (Int32.toNatClampNeg (x3 + 3))) 1 m48))))))))
set_option maxHeartbeats 8000000 in
set_option maxRecDepth 100000 in
theorem s_L_law_1312 {Γ : GX} {E : EX} (xs : Nat → Int32) (Ln : Nat) {b ce sl : Nat} (C : Cx Γ E cL_law RL 4) (hr : Γ.meth.sig.returnType = ret) (hrm : Γ.rm = room_1) (hA : Γ.args = #[Value.ref b]) (hX : va_X b Ln xs Γ.s Γ.s.heap) (hbl : b < Γ.s.heap.size) (hbA : ¬ AA E b) (hB : E.base = Γ.s.heap.size) (hce : ce + 58 ≤ room_1.cells) (hsl : sl + 1570 ≤ room_1.slots) (k18 : Option Nat → Option Nat → Int32 → MM → Option (Int32 × MM)) (h18 : ∀ (x1 : Option Nat) (x2 : Option Nat) (x3 : Int32) (m : MM), Sm (QL Γ) Γ E 4 (ce + 58) (sl + 1570) 18 [(0, va_rf (some b)), (1, va_rf x1), (2, va_rf x2), (3, .int x3)] [] m (k18 x1 x2 x3 m)) (x1 : Option Nat) (x2 : Option Nat) (x3 : Int32) (s0 : Option Nat) (s1 : Int32) (s2 : Int32) (s3 : Int32) (s4 : Int32) (m : MM) : Sm (QL Γ) Γ E 4 ce sl 1312 [(0, va_rf (some b)), (1, va_rf x1), (2, va_rf x2), (3, .int x3)] [.int s4, .int s3, .int s2, .int s1, va_rf s0] m (g_L_law_1312 xs Ln k18 x1 x2 x3 s0 s1 s2 s3 s4 m) := by
  unfold g_L_law_1312
  refine z_aload_n C dL_law_1312 rfl 0 rfl ?_
  refine z_iload_n C dL_law_1313 rfl 3 rfl ?_
  refine z_iconst (v := 5) C dL_law_1314 (by decide) ?_
  refine z_iadd C dL_law_1315 ?_
  refine z_chk (fun hj156 => ?_)
  refine z_scr C hX hbl hbA hj156 dL_law_1316 ?_
  refine z_ck (fun a48 hr48 hk48 => ?_)
  refine z_cVI [.int s1, .int s2, .int s3, .int s4, .int (xs (Int32.toNatClampNeg (x3 + 5)))] [] C mv_RL_115 (fun r0 m0 h0 => M_X9_plan _ _ _ _ _ _ _ _ _ _ _ h0) rfl rfl ⟨by rw [hrm]; exact Nat.le_of_ble_eq_true rfl, by rw [hrm]; exact Nat.le_of_ble_eq_true rfl⟩ ⟨by rw [hrm]; show _ ≤ room_1.cells; omega, by rw [hrm]; show _ ≤ room_1.slots; omega⟩ hr48 hk48 rfl rfl rfl (Nat.le_of_ble_eq_true rfl) dL_law_1317 (fun r48 m48 => ?_)
  refine z_aload_n C dL_law_1320 rfl 2 rfl ?_
  refine z_aload_n C dL_law_1321 rfl 0 rfl ?_
  refine z_iload_n C dL_law_1322 rfl 3 rfl ?_
  refine z_iconst (v := 1) C dL_law_1323 (by decide) ?_
  refine z_iadd C dL_law_1324 ?_
  refine z_chk (fun hj157 => ?_)
  refine z_scr C hX hbl hbA hj157 dL_law_1325 ?_
  refine z_aload_n C dL_law_1326 rfl 0 rfl ?_
  refine z_iload_n C dL_law_1327 rfl 3 rfl ?_
  refine z_iconst (v := 2) C dL_law_1328 (by decide) ?_
  refine z_iadd C dL_law_1329 ?_
  refine z_chk (fun hj158 => ?_)
  refine z_scr C hX hbl hbA hj158 dL_law_1330 ?_
  refine z_aload_n C dL_law_1331 rfl 0 rfl ?_
  refine z_iload_n C dL_law_1332 rfl 3 rfl ?_
  refine z_iconst (v := 3) C dL_law_1333 (by decide) ?_
  refine z_iadd C dL_law_1334 ?_
  refine z_chk (fun hj159 => ?_)
  refine z_scr C hX hbl hbA hj159 dL_law_1335 ?_
  refine z_aload_n C dL_law_1336 rfl 0 rfl ?_
  refine z_iload_n C dL_law_1337 rfl 3 rfl ?_
  refine z_iconst (v := 4) C dL_law_1338 (by decide) ?_
  refine z_iadd C dL_law_1339 ?_
  refine z_chk (fun hj160 => ?_)
  refine z_scr C hX hbl hbA hj160 dL_law_1340 ?_
  refine z_if_eq (tgt := 1348) C dL_law_1341 (by decide) (fun c25 => ?_) (fun c25 => ?_)
  · refine z_iconst (v := 0) C dL_law_1348 (by decide) ?_
    exact z_sub [0, 1, 2, 3] rfl (s_L_law_1349 xs Ln C hr hrm hA hX hbl hbA hB hce hsl k18 h18 x1 x2 x3 r48 x2 (xs (Int32.toNatClampNeg (x3 + 1))) (xs (Int32.toNatClampNeg (x3 + 2))) (xs (Int32.toNatClampNeg (x3 + 3))) 0 m48)
  · refine z_iconst (v := 1) C dL_law_1344 (by decide) ?_
    refine z_goto (tgt := 1349) C dL_law_1345 (by decide) ?_
    exact z_sub [0, 1, 2, 3] rfl (s_L_law_1349 xs Ln C hr hrm hA hX hbl hbA hB hce hsl k18 h18 x1 x2 x3 r48 x2 (xs (Int32.toNatClampNeg (x3 + 1))) (xs (Int32.toNatClampNeg (x3 + 2))) (xs (Int32.toNatClampNeg (x3 + 3))) 1 m48)
set_option maxRecDepth 100000 in
def g_L_law_1283 (xs : Nat → Int32) (Ln : Nat) (k18 : Option Nat → Option Nat → Int32 → MM → Option (Int32 × MM)) (x1 : Option Nat) (x2 : Option Nat) (x3 : Int32) (m : MM) : Option (Int32 × MM) :=
  chk (inb (x3 + 1) Ln = true) (chk (inb (x3 + 2) Ln = true) (chk (inb (x3 + 3) Ln = true) (chk (inb (x3 + 4) Ln = true) (if (xs (Int32.toNatClampNeg (x3 + 4))) = 0 then (g_L_law_1312 xs Ln k18 x1 x2 x3 x1 (xs (Int32.toNatClampNeg (x3 + 1))) (xs (Int32.toNatClampNeg (x3 + 2))) (xs (Int32.toNatClampNeg (x3 + 3))) 0 m) else (g_L_law_1312 xs Ln k18 x1 x2 x3 x1 (xs (Int32.toNatClampNeg (x3 + 1))) (xs (Int32.toNatClampNeg (x3 + 2))) (xs (Int32.toNatClampNeg (x3 + 3))) 1 m)))))
set_option maxHeartbeats 8000000 in
set_option maxRecDepth 100000 in
theorem s_L_law_1283 {Γ : GX} {E : EX} (xs : Nat → Int32) (Ln : Nat) {b ce sl : Nat} (C : Cx Γ E cL_law RL 4) (hr : Γ.meth.sig.returnType = ret) (hrm : Γ.rm = room_1) (hA : Γ.args = #[Value.ref b]) (hX : va_X b Ln xs Γ.s Γ.s.heap) (hbl : b < Γ.s.heap.size) (hbA : ¬ AA E b) (hB : E.base = Γ.s.heap.size) (hce : ce + 58 ≤ room_1.cells) (hsl : sl + 1570 ≤ room_1.slots) (k18 : Option Nat → Option Nat → Int32 → MM → Option (Int32 × MM)) (h18 : ∀ (x1 : Option Nat) (x2 : Option Nat) (x3 : Int32) (m : MM), Sm (QL Γ) Γ E 4 (ce + 58) (sl + 1570) 18 [(0, va_rf (some b)), (1, va_rf x1), (2, va_rf x2), (3, .int x3)] [] m (k18 x1 x2 x3 m)) (x1 : Option Nat) (x2 : Option Nat) (x3 : Int32) (m : MM) : Sm (QL Γ) Γ E 4 ce sl 1283 [(0, va_rf (some b)), (1, va_rf x1), (2, va_rf x2), (3, .int x3)] [] m (g_L_law_1283 xs Ln k18 x1 x2 x3 m) := by
  unfold g_L_law_1283
  refine z_aload_n C dL_law_1283 rfl 1 rfl ?_
  refine z_aload_n C dL_law_1284 rfl 0 rfl ?_
  refine z_iload_n C dL_law_1285 rfl 3 rfl ?_
  refine z_iconst (v := 1) C dL_law_1286 (by decide) ?_
  refine z_iadd C dL_law_1287 ?_
  refine z_chk (fun hj161 => ?_)
  refine z_scr C hX hbl hbA hj161 dL_law_1288 ?_
  refine z_aload_n C dL_law_1289 rfl 0 rfl ?_
  refine z_iload_n C dL_law_1290 rfl 3 rfl ?_
  refine z_iconst (v := 2) C dL_law_1291 (by decide) ?_
  refine z_iadd C dL_law_1292 ?_
  refine z_chk (fun hj162 => ?_)
  refine z_scr C hX hbl hbA hj162 dL_law_1293 ?_
  refine z_aload_n C dL_law_1294 rfl 0 rfl ?_
  refine z_iload_n C dL_law_1295 rfl 3 rfl ?_
  refine z_iconst (v := 3) C dL_law_1296 (by decide) ?_
  refine z_iadd C dL_law_1297 ?_
  refine z_chk (fun hj163 => ?_)
  refine z_scr C hX hbl hbA hj163 dL_law_1298 ?_
  refine z_aload_n C dL_law_1299 rfl 0 rfl ?_
  refine z_iload_n C dL_law_1300 rfl 3 rfl ?_
  refine z_iconst (v := 4) C dL_law_1301 (by decide) ?_
  refine z_iadd C dL_law_1302 ?_
  refine z_chk (fun hj164 => ?_)
  refine z_scr C hX hbl hbA hj164 dL_law_1303 ?_
  refine z_if_eq (tgt := 1311) C dL_law_1304 (by decide) (fun c26 => ?_) (fun c26 => ?_)
  · refine z_iconst (v := 0) C dL_law_1311 (by decide) ?_
    exact z_sub [0, 1, 2, 3] rfl (s_L_law_1312 xs Ln C hr hrm hA hX hbl hbA hB hce hsl k18 h18 x1 x2 x3 x1 (xs (Int32.toNatClampNeg (x3 + 1))) (xs (Int32.toNatClampNeg (x3 + 2))) (xs (Int32.toNatClampNeg (x3 + 3))) 0 m)
  · refine z_iconst (v := 1) C dL_law_1307 (by decide) ?_
    refine z_goto (tgt := 1312) C dL_law_1308 (by decide) ?_
    exact z_sub [0, 1, 2, 3] rfl (s_L_law_1312 xs Ln C hr hrm hA hX hbl hbA hB hce hsl k18 h18 x1 x2 x3 x1 (xs (Int32.toNatClampNeg (x3 + 1))) (xs (Int32.toNatClampNeg (x3 + 2))) (xs (Int32.toNatClampNeg (x3 + 3))) 1 m)
set_option maxRecDepth 100000 in
def g_L_law_1362 (xs : Nat → Int32) (Ln : Nat) (k18 : Option Nat → Option Nat → Int32 → MM → Option (Int32 × MM)) (x1 : Option Nat) (x2 : Option Nat) (x3 : Int32) (m : MM) : Option (Int32 × MM) :=
  chk (inb (x3 + 1) Ln = true) (chk (inb (x3 + 2) Ln = true) (chk (inb (x3 + 3) Ln = true) (ck m x1 10 (fun a49 => cal (f_X9_blame a49 (xs (Int32.toNatClampNeg (x3 + 1))) (xs (Int32.toNatClampNeg (x3 + 2))) (xs (Int32.toNatClampNeg (x3 + 3))) m) (fun r49 m49 => chk (inb (x3 + 1) Ln = true) (chk (inb (x3 + 2) Ln = true) (chk (inb (x3 + 3) Ln = true) (ck m49 x2 11 (fun a50 => cal (f_X10_blame a50 (xs (Int32.toNatClampNeg (x3 + 1))) (xs (Int32.toNatClampNeg (x3 + 2))) (xs (Int32.toNatClampNeg (x3 + 3))) m49) (fun r50 m50 => if r49 = r50 then (g_L_law_2039 xs Ln k18 x1 x2 x3 m50) else (none)))))))))))
set_option maxHeartbeats 8000000 in
set_option maxRecDepth 100000 in
theorem s_L_law_1362 {Γ : GX} {E : EX} (xs : Nat → Int32) (Ln : Nat) {b ce sl : Nat} (C : Cx Γ E cL_law RL 4) (hr : Γ.meth.sig.returnType = ret) (hrm : Γ.rm = room_1) (hA : Γ.args = #[Value.ref b]) (hX : va_X b Ln xs Γ.s Γ.s.heap) (hbl : b < Γ.s.heap.size) (hbA : ¬ AA E b) (hB : E.base = Γ.s.heap.size) (hce : ce + 58 ≤ room_1.cells) (hsl : sl + 1570 ≤ room_1.slots) (k18 : Option Nat → Option Nat → Int32 → MM → Option (Int32 × MM)) (h18 : ∀ (x1 : Option Nat) (x2 : Option Nat) (x3 : Int32) (m : MM), Sm (QL Γ) Γ E 4 (ce + 58) (sl + 1570) 18 [(0, va_rf (some b)), (1, va_rf x1), (2, va_rf x2), (3, .int x3)] [] m (k18 x1 x2 x3 m)) (x1 : Option Nat) (x2 : Option Nat) (x3 : Int32) (m : MM) : Sm (QL Γ) Γ E 4 ce sl 1362 [(0, va_rf (some b)), (1, va_rf x1), (2, va_rf x2), (3, .int x3)] [] m (g_L_law_1362 xs Ln k18 x1 x2 x3 m) := by
  unfold g_L_law_1362
  refine z_aload_n C dL_law_1362 rfl 1 rfl ?_
  refine z_aload_n C dL_law_1363 rfl 0 rfl ?_
  refine z_iload_n C dL_law_1364 rfl 3 rfl ?_
  refine z_iconst (v := 1) C dL_law_1365 (by decide) ?_
  refine z_iadd C dL_law_1366 ?_
  refine z_chk (fun hj165 => ?_)
  refine z_scr C hX hbl hbA hj165 dL_law_1367 ?_
  refine z_aload_n C dL_law_1368 rfl 0 rfl ?_
  refine z_iload_n C dL_law_1369 rfl 3 rfl ?_
  refine z_iconst (v := 2) C dL_law_1370 (by decide) ?_
  refine z_iadd C dL_law_1371 ?_
  refine z_chk (fun hj166 => ?_)
  refine z_scr C hX hbl hbA hj166 dL_law_1372 ?_
  refine z_aload_n C dL_law_1373 rfl 0 rfl ?_
  refine z_iload_n C dL_law_1374 rfl 3 rfl ?_
  refine z_iconst (v := 3) C dL_law_1375 (by decide) ?_
  refine z_iadd C dL_law_1376 ?_
  refine z_chk (fun hj167 => ?_)
  refine z_scr C hX hbl hbA hj167 dL_law_1377 ?_
  refine z_ck (fun a49 hr49 hk49 => ?_)
  refine z_cVI [.int (xs (Int32.toNatClampNeg (x3 + 1))), .int (xs (Int32.toNatClampNeg (x3 + 2))), .int (xs (Int32.toNatClampNeg (x3 + 3)))] [] C mv_RL_120 (fun r0 m0 h0 => M_X9_blame _ _ _ _ _ _ _ _ _ h0) rfl rfl ⟨by rw [hrm]; exact Nat.le_of_ble_eq_true rfl, by rw [hrm]; exact Nat.le_of_ble_eq_true rfl⟩ ⟨by rw [hrm]; show _ ≤ room_1.cells; omega, by rw [hrm]; show _ ≤ room_1.slots; omega⟩ hr49 hk49 rfl rfl rfl (Nat.le_of_ble_eq_true rfl) dL_law_1378 (fun r49 m49 => ?_)
  refine z_aload_n C dL_law_1381 rfl 2 rfl ?_
  refine z_aload_n C dL_law_1382 rfl 0 rfl ?_
  refine z_iload_n C dL_law_1383 rfl 3 rfl ?_
  refine z_iconst (v := 1) C dL_law_1384 (by decide) ?_
  refine z_iadd C dL_law_1385 ?_
  refine z_chk (fun hj168 => ?_)
  refine z_scr C hX hbl hbA hj168 dL_law_1386 ?_
  refine z_aload_n C dL_law_1387 rfl 0 rfl ?_
  refine z_iload_n C dL_law_1388 rfl 3 rfl ?_
  refine z_iconst (v := 2) C dL_law_1389 (by decide) ?_
  refine z_iadd C dL_law_1390 ?_
  refine z_chk (fun hj169 => ?_)
  refine z_scr C hX hbl hbA hj169 dL_law_1391 ?_
  refine z_aload_n C dL_law_1392 rfl 0 rfl ?_
  refine z_iload_n C dL_law_1393 rfl 3 rfl ?_
  refine z_iconst (v := 3) C dL_law_1394 (by decide) ?_
  refine z_iadd C dL_law_1395 ?_
  refine z_chk (fun hj170 => ?_)
  refine z_scr C hX hbl hbA hj170 dL_law_1396 ?_
  refine z_ck (fun a50 hr50 hk50 => ?_)
  refine z_cVI [.int (xs (Int32.toNatClampNeg (x3 + 1))), .int (xs (Int32.toNatClampNeg (x3 + 2))), .int (xs (Int32.toNatClampNeg (x3 + 3)))] [.int r49] C mv_RL_123 (fun r0 m0 h0 => M_X10_blame _ _ _ _ _ _ _ _ _ h0) rfl rfl ⟨by rw [hrm]; exact Nat.le_of_ble_eq_true rfl, by rw [hrm]; exact Nat.le_of_ble_eq_true rfl⟩ ⟨by rw [hrm]; show _ ≤ room_1.cells; omega, by rw [hrm]; show _ ≤ room_1.slots; omega⟩ hr50 hk50 rfl rfl rfl (Nat.le_of_ble_eq_true rfl) dL_law_1397 (fun r50 m50 => ?_)
  refine z_icmp_eq (tgt := 2039) C dL_law_1400 (by decide) (fun c27 => ?_) (fun c27 => ?_)
  · refine z_wid (k := ce + 58) (n := sl + 1570) (by omega) (by omega) ?_
    exact z_sub [0, 1, 2, 3] rfl (s_L_law_2039 xs Ln C hr hrm hA hX hbl hbA hB hce hsl k18 h18 x1 x2 x3 m50)
  · refine z_iconst (v := 0) C dL_law_1403 (by decide) ?_
    exact z_none
set_option maxRecDepth 100000 in
def g_L_law_1466 (xs : Nat → Int32) (Ln : Nat) (k18 : Option Nat → Option Nat → Int32 → MM → Option (Int32 × MM)) (x1 : Option Nat) (x2 : Option Nat) (x3 : Int32) (s0 : Int32) (s1 : Option Nat) (s2 : Int32) (s3 : Int32) (s4 : Int32) (s5 : Int32) (m : MM) : Option (Int32 × MM) :=
  ck m s1 11 (fun a51 => cal (f_X10_fewest a51 s2 s3 s4 s5 m) (fun r51 m51 => if s0 = r51 then (g_L_law_2039 xs Ln k18 x1 x2 x3 m51) else (none)))
set_option maxHeartbeats 8000000 in
set_option maxRecDepth 100000 in
theorem s_L_law_1466 {Γ : GX} {E : EX} (xs : Nat → Int32) (Ln : Nat) {b ce sl : Nat} (C : Cx Γ E cL_law RL 4) (hr : Γ.meth.sig.returnType = ret) (hrm : Γ.rm = room_1) (hA : Γ.args = #[Value.ref b]) (hX : va_X b Ln xs Γ.s Γ.s.heap) (hbl : b < Γ.s.heap.size) (hbA : ¬ AA E b) (hB : E.base = Γ.s.heap.size) (hce : ce + 58 ≤ room_1.cells) (hsl : sl + 1570 ≤ room_1.slots) (k18 : Option Nat → Option Nat → Int32 → MM → Option (Int32 × MM)) (h18 : ∀ (x1 : Option Nat) (x2 : Option Nat) (x3 : Int32) (m : MM), Sm (QL Γ) Γ E 4 (ce + 58) (sl + 1570) 18 [(0, va_rf (some b)), (1, va_rf x1), (2, va_rf x2), (3, .int x3)] [] m (k18 x1 x2 x3 m)) (x1 : Option Nat) (x2 : Option Nat) (x3 : Int32) (s0 : Int32) (s1 : Option Nat) (s2 : Int32) (s3 : Int32) (s4 : Int32) (s5 : Int32) (m : MM) : Sm (QL Γ) Γ E 4 ce sl 1466 [(0, va_rf (some b)), (1, va_rf x1), (2, va_rf x2), (3, .int x3)] [.int s5, .int s4, .int s3, .int s2, va_rf s1, .int s0] m (g_L_law_1466 xs Ln k18 x1 x2 x3 s0 s1 s2 s3 s4 s5 m) := by
  unfold g_L_law_1466
  refine z_ck (fun a51 hr51 hk51 => ?_)
  refine z_cVI [.int s2, .int s3, .int s4, .int s5] [.int s0] C mv_RL_128 (fun r0 m0 h0 => M_X10_fewest _ _ _ _ _ _ _ _ _ _ h0) rfl rfl ⟨by rw [hrm]; exact Nat.le_of_ble_eq_true rfl, by rw [hrm]; exact Nat.le_of_ble_eq_true rfl⟩ ⟨by rw [hrm]; show _ ≤ room_1.cells; omega, by rw [hrm]; show _ ≤ room_1.slots; omega⟩ hr51 hk51 rfl rfl rfl (Nat.le_of_ble_eq_true rfl) dL_law_1466 (fun r51 m51 => ?_)
  refine z_icmp_eq (tgt := 2039) C dL_law_1469 (by decide) (fun c28 => ?_) (fun c28 => ?_)
  · refine z_wid (k := ce + 58) (n := sl + 1570) (by omega) (by omega) ?_
    exact z_sub [0, 1, 2, 3] rfl (s_L_law_2039 xs Ln C hr hrm hA hX hbl hbA hB hce hsl k18 h18 x1 x2 x3 m51)
  · refine z_iconst (v := 0) C dL_law_1472 (by decide) ?_
    exact z_none
set_option maxRecDepth 100000 in
def g_L_law_1434 (xs : Nat → Int32) (Ln : Nat) (k18 : Option Nat → Option Nat → Int32 → MM → Option (Int32 × MM)) (x1 : Option Nat) (x2 : Option Nat) (x3 : Int32) (s0 : Option Nat) (s1 : Int32) (s2 : Int32) (s3 : Int32) (s4 : Int32) (m : MM) : Option (Int32 × MM) :=
  ck m s0 10 (fun a52 => cal (f_X9_fewest a52 s1 s2 s3 s4 m) (fun r52 m52 => chk (inb (x3 + 1) Ln = true) (chk (inb (x3 + 2) Ln = true) (chk (inb (x3 + 3) Ln = true) (chk (inb (x3 + 4) Ln = true) (if (xs (Int32.toNatClampNeg (x3 + 4))) = 0 then (g_L_law_1466 xs Ln k18 x1 x2 x3 r52 x2 (xs (Int32.toNatClampNeg (x3 + 1))) (xs (Int32.toNatClampNeg (x3 + 2))) (xs (Int32.toNatClampNeg (x3 + 3))) 0 m52) else (g_L_law_1466 xs Ln k18 x1 x2 x3 r52 x2 (xs (Int32.toNatClampNeg (x3 + 1))) (xs (Int32.toNatClampNeg (x3 + 2))) (xs (Int32.toNatClampNeg (x3 + 3))) 1 m52)))))))
set_option maxHeartbeats 8000000 in
set_option maxRecDepth 100000 in
theorem s_L_law_1434 {Γ : GX} {E : EX} (xs : Nat → Int32) (Ln : Nat) {b ce sl : Nat} (C : Cx Γ E cL_law RL 4) (hr : Γ.meth.sig.returnType = ret) (hrm : Γ.rm = room_1) (hA : Γ.args = #[Value.ref b]) (hX : va_X b Ln xs Γ.s Γ.s.heap) (hbl : b < Γ.s.heap.size) (hbA : ¬ AA E b) (hB : E.base = Γ.s.heap.size) (hce : ce + 58 ≤ room_1.cells) (hsl : sl + 1570 ≤ room_1.slots) (k18 : Option Nat → Option Nat → Int32 → MM → Option (Int32 × MM)) (h18 : ∀ (x1 : Option Nat) (x2 : Option Nat) (x3 : Int32) (m : MM), Sm (QL Γ) Γ E 4 (ce + 58) (sl + 1570) 18 [(0, va_rf (some b)), (1, va_rf x1), (2, va_rf x2), (3, .int x3)] [] m (k18 x1 x2 x3 m)) (x1 : Option Nat) (x2 : Option Nat) (x3 : Int32) (s0 : Option Nat) (s1 : Int32) (s2 : Int32) (s3 : Int32) (s4 : Int32) (m : MM) : Sm (QL Γ) Γ E 4 ce sl 1434 [(0, va_rf (some b)), (1, va_rf x1), (2, va_rf x2), (3, .int x3)] [.int s4, .int s3, .int s2, .int s1, va_rf s0] m (g_L_law_1434 xs Ln k18 x1 x2 x3 s0 s1 s2 s3 s4 m) := by
  unfold g_L_law_1434
  refine z_ck (fun a52 hr52 hk52 => ?_)
  refine z_cVI [.int s1, .int s2, .int s3, .int s4] [] C mv_RL_124 (fun r0 m0 h0 => M_X9_fewest _ _ _ _ _ _ _ _ _ _ h0) rfl rfl ⟨by rw [hrm]; exact Nat.le_of_ble_eq_true rfl, by rw [hrm]; exact Nat.le_of_ble_eq_true rfl⟩ ⟨by rw [hrm]; show _ ≤ room_1.cells; omega, by rw [hrm]; show _ ≤ room_1.slots; omega⟩ hr52 hk52 rfl rfl rfl (Nat.le_of_ble_eq_true rfl) dL_law_1434 (fun r52 m52 => ?_)
  refine z_aload_n C dL_law_1437 rfl 2 rfl ?_
  refine z_aload_n C dL_law_1438 rfl 0 rfl ?_
  refine z_iload_n C dL_law_1439 rfl 3 rfl ?_
  refine z_iconst (v := 1) C dL_law_1440 (by decide) ?_
  refine z_iadd C dL_law_1441 ?_
  refine z_chk (fun hj171 => ?_)
  refine z_scr C hX hbl hbA hj171 dL_law_1442 ?_
  refine z_aload_n C dL_law_1443 rfl 0 rfl ?_
  refine z_iload_n C dL_law_1444 rfl 3 rfl ?_
  refine z_iconst (v := 2) C dL_law_1445 (by decide) ?_
  refine z_iadd C dL_law_1446 ?_
  refine z_chk (fun hj172 => ?_)
  refine z_scr C hX hbl hbA hj172 dL_law_1447 ?_
  refine z_aload_n C dL_law_1448 rfl 0 rfl ?_
  refine z_iload_n C dL_law_1449 rfl 3 rfl ?_
  refine z_iconst (v := 3) C dL_law_1450 (by decide) ?_
  refine z_iadd C dL_law_1451 ?_
  refine z_chk (fun hj173 => ?_)
  refine z_scr C hX hbl hbA hj173 dL_law_1452 ?_
  refine z_aload_n C dL_law_1453 rfl 0 rfl ?_
  refine z_iload_n C dL_law_1454 rfl 3 rfl ?_
  refine z_iconst (v := 4) C dL_law_1455 (by decide) ?_
  refine z_iadd C dL_law_1456 ?_
  refine z_chk (fun hj174 => ?_)
  refine z_scr C hX hbl hbA hj174 dL_law_1457 ?_
  refine z_if_eq (tgt := 1465) C dL_law_1458 (by decide) (fun c29 => ?_) (fun c29 => ?_)
  · refine z_iconst (v := 0) C dL_law_1465 (by decide) ?_
    exact z_sub [0, 1, 2, 3] rfl (s_L_law_1466 xs Ln C hr hrm hA hX hbl hbA hB hce hsl k18 h18 x1 x2 x3 r52 x2 (xs (Int32.toNatClampNeg (x3 + 1))) (xs (Int32.toNatClampNeg (x3 + 2))) (xs (Int32.toNatClampNeg (x3 + 3))) 0 m52)
  · refine z_iconst (v := 1) C dL_law_1461 (by decide) ?_
    refine z_goto (tgt := 1466) C dL_law_1462 (by decide) ?_
    exact z_sub [0, 1, 2, 3] rfl (s_L_law_1466 xs Ln C hr hrm hA hX hbl hbA hB hce hsl k18 h18 x1 x2 x3 r52 x2 (xs (Int32.toNatClampNeg (x3 + 1))) (xs (Int32.toNatClampNeg (x3 + 2))) (xs (Int32.toNatClampNeg (x3 + 3))) 1 m52)
set_option maxRecDepth 100000 in
def g_L_law_1405 (xs : Nat → Int32) (Ln : Nat) (k18 : Option Nat → Option Nat → Int32 → MM → Option (Int32 × MM)) (x1 : Option Nat) (x2 : Option Nat) (x3 : Int32) (m : MM) : Option (Int32 × MM) :=
  chk (inb (x3 + 1) Ln = true) (chk (inb (x3 + 2) Ln = true) (chk (inb (x3 + 3) Ln = true) (chk (inb (x3 + 4) Ln = true) (if (xs (Int32.toNatClampNeg (x3 + 4))) = 0 then (g_L_law_1434 xs Ln k18 x1 x2 x3 x1 (xs (Int32.toNatClampNeg (x3 + 1))) (xs (Int32.toNatClampNeg (x3 + 2))) (xs (Int32.toNatClampNeg (x3 + 3))) 0 m) else (g_L_law_1434 xs Ln k18 x1 x2 x3 x1 (xs (Int32.toNatClampNeg (x3 + 1))) (xs (Int32.toNatClampNeg (x3 + 2))) (xs (Int32.toNatClampNeg (x3 + 3))) 1 m)))))
set_option maxHeartbeats 8000000 in
set_option maxRecDepth 100000 in
theorem s_L_law_1405 {Γ : GX} {E : EX} (xs : Nat → Int32) (Ln : Nat) {b ce sl : Nat} (C : Cx Γ E cL_law RL 4) (hr : Γ.meth.sig.returnType = ret) (hrm : Γ.rm = room_1) (hA : Γ.args = #[Value.ref b]) (hX : va_X b Ln xs Γ.s Γ.s.heap) (hbl : b < Γ.s.heap.size) (hbA : ¬ AA E b) (hB : E.base = Γ.s.heap.size) (hce : ce + 58 ≤ room_1.cells) (hsl : sl + 1570 ≤ room_1.slots) (k18 : Option Nat → Option Nat → Int32 → MM → Option (Int32 × MM)) (h18 : ∀ (x1 : Option Nat) (x2 : Option Nat) (x3 : Int32) (m : MM), Sm (QL Γ) Γ E 4 (ce + 58) (sl + 1570) 18 [(0, va_rf (some b)), (1, va_rf x1), (2, va_rf x2), (3, .int x3)] [] m (k18 x1 x2 x3 m)) (x1 : Option Nat) (x2 : Option Nat) (x3 : Int32) (m : MM) : Sm (QL Γ) Γ E 4 ce sl 1405 [(0, va_rf (some b)), (1, va_rf x1), (2, va_rf x2), (3, .int x3)] [] m (g_L_law_1405 xs Ln k18 x1 x2 x3 m) := by
  unfold g_L_law_1405
  refine z_aload_n C dL_law_1405 rfl 1 rfl ?_
  refine z_aload_n C dL_law_1406 rfl 0 rfl ?_
  refine z_iload_n C dL_law_1407 rfl 3 rfl ?_
  refine z_iconst (v := 1) C dL_law_1408 (by decide) ?_
  refine z_iadd C dL_law_1409 ?_
  refine z_chk (fun hj175 => ?_)
  refine z_scr C hX hbl hbA hj175 dL_law_1410 ?_
  refine z_aload_n C dL_law_1411 rfl 0 rfl ?_
  refine z_iload_n C dL_law_1412 rfl 3 rfl ?_
  refine z_iconst (v := 2) C dL_law_1413 (by decide) ?_
  refine z_iadd C dL_law_1414 ?_
  refine z_chk (fun hj176 => ?_)
  refine z_scr C hX hbl hbA hj176 dL_law_1415 ?_
  refine z_aload_n C dL_law_1416 rfl 0 rfl ?_
  refine z_iload_n C dL_law_1417 rfl 3 rfl ?_
  refine z_iconst (v := 3) C dL_law_1418 (by decide) ?_
  refine z_iadd C dL_law_1419 ?_
  refine z_chk (fun hj177 => ?_)
  refine z_scr C hX hbl hbA hj177 dL_law_1420 ?_
  refine z_aload_n C dL_law_1421 rfl 0 rfl ?_
  refine z_iload_n C dL_law_1422 rfl 3 rfl ?_
  refine z_iconst (v := 4) C dL_law_1423 (by decide) ?_
  refine z_iadd C dL_law_1424 ?_
  refine z_chk (fun hj178 => ?_)
  refine z_scr C hX hbl hbA hj178 dL_law_1425 ?_
  refine z_if_eq (tgt := 1433) C dL_law_1426 (by decide) (fun c30 => ?_) (fun c30 => ?_)
  · refine z_iconst (v := 0) C dL_law_1433 (by decide) ?_
    exact z_sub [0, 1, 2, 3] rfl (s_L_law_1434 xs Ln C hr hrm hA hX hbl hbA hB hce hsl k18 h18 x1 x2 x3 x1 (xs (Int32.toNatClampNeg (x3 + 1))) (xs (Int32.toNatClampNeg (x3 + 2))) (xs (Int32.toNatClampNeg (x3 + 3))) 0 m)
  · refine z_iconst (v := 1) C dL_law_1429 (by decide) ?_
    refine z_goto (tgt := 1434) C dL_law_1430 (by decide) ?_
    exact z_sub [0, 1, 2, 3] rfl (s_L_law_1434 xs Ln C hr hrm hA hX hbl hbA hB hce hsl k18 h18 x1 x2 x3 x1 (xs (Int32.toNatClampNeg (x3 + 1))) (xs (Int32.toNatClampNeg (x3 + 2))) (xs (Int32.toNatClampNeg (x3 + 3))) 1 m)
set_option maxRecDepth 100000 in
def g_L_law_1474 (xs : Nat → Int32) (Ln : Nat) (k18 : Option Nat → Option Nat → Int32 → MM → Option (Int32 × MM)) (x1 : Option Nat) (x2 : Option Nat) (x3 : Int32) (m : MM) : Option (Int32 × MM) :=
  chk (inb (x3 + 1) Ln = true) (chk (inb (x3 + 2) Ln = true) (chk (inb (x3 + 3) Ln = true) (ck m x1 10 (fun a53 => cal (f_X9_fenced a53 (xs (Int32.toNatClampNeg (x3 + 1))) (xs (Int32.toNatClampNeg (x3 + 2))) (xs (Int32.toNatClampNeg (x3 + 3))) m) (fun r53 m53 => chk (inb (x3 + 1) Ln = true) (chk (inb (x3 + 2) Ln = true) (chk (inb (x3 + 3) Ln = true) (ck m53 x2 11 (fun a54 => cal (f_X10_fenced a54 (xs (Int32.toNatClampNeg (x3 + 1))) (xs (Int32.toNatClampNeg (x3 + 2))) (xs (Int32.toNatClampNeg (x3 + 3))) m53) (fun r54 m54 => if r53 = r54 then (g_L_law_2039 xs Ln k18 x1 x2 x3 m54) else (none)))))))))))
set_option maxHeartbeats 8000000 in
set_option maxRecDepth 100000 in
theorem s_L_law_1474 {Γ : GX} {E : EX} (xs : Nat → Int32) (Ln : Nat) {b ce sl : Nat} (C : Cx Γ E cL_law RL 4) (hr : Γ.meth.sig.returnType = ret) (hrm : Γ.rm = room_1) (hA : Γ.args = #[Value.ref b]) (hX : va_X b Ln xs Γ.s Γ.s.heap) (hbl : b < Γ.s.heap.size) (hbA : ¬ AA E b) (hB : E.base = Γ.s.heap.size) (hce : ce + 58 ≤ room_1.cells) (hsl : sl + 1570 ≤ room_1.slots) (k18 : Option Nat → Option Nat → Int32 → MM → Option (Int32 × MM)) (h18 : ∀ (x1 : Option Nat) (x2 : Option Nat) (x3 : Int32) (m : MM), Sm (QL Γ) Γ E 4 (ce + 58) (sl + 1570) 18 [(0, va_rf (some b)), (1, va_rf x1), (2, va_rf x2), (3, .int x3)] [] m (k18 x1 x2 x3 m)) (x1 : Option Nat) (x2 : Option Nat) (x3 : Int32) (m : MM) : Sm (QL Γ) Γ E 4 ce sl 1474 [(0, va_rf (some b)), (1, va_rf x1), (2, va_rf x2), (3, .int x3)] [] m (g_L_law_1474 xs Ln k18 x1 x2 x3 m) := by
  unfold g_L_law_1474
  refine z_aload_n C dL_law_1474 rfl 1 rfl ?_
  refine z_aload_n C dL_law_1475 rfl 0 rfl ?_
  refine z_iload_n C dL_law_1476 rfl 3 rfl ?_
  refine z_iconst (v := 1) C dL_law_1477 (by decide) ?_
  refine z_iadd C dL_law_1478 ?_
  refine z_chk (fun hj179 => ?_)
  refine z_scr C hX hbl hbA hj179 dL_law_1479 ?_
  refine z_aload_n C dL_law_1480 rfl 0 rfl ?_
  refine z_iload_n C dL_law_1481 rfl 3 rfl ?_
  refine z_iconst (v := 2) C dL_law_1482 (by decide) ?_
  refine z_iadd C dL_law_1483 ?_
  refine z_chk (fun hj180 => ?_)
  refine z_scr C hX hbl hbA hj180 dL_law_1484 ?_
  refine z_aload_n C dL_law_1485 rfl 0 rfl ?_
  refine z_iload_n C dL_law_1486 rfl 3 rfl ?_
  refine z_iconst (v := 3) C dL_law_1487 (by decide) ?_
  refine z_iadd C dL_law_1488 ?_
  refine z_chk (fun hj181 => ?_)
  refine z_scr C hX hbl hbA hj181 dL_law_1489 ?_
  refine z_ck (fun a53 hr53 hk53 => ?_)
  refine z_cVI [.int (xs (Int32.toNatClampNeg (x3 + 1))), .int (xs (Int32.toNatClampNeg (x3 + 2))), .int (xs (Int32.toNatClampNeg (x3 + 3)))] [] C mv_RL_129 (fun r0 m0 h0 => M_X9_fenced _ _ _ _ _ _ _ _ _ h0) rfl rfl ⟨by rw [hrm]; exact Nat.le_of_ble_eq_true rfl, by rw [hrm]; exact Nat.le_of_ble_eq_true rfl⟩ ⟨by rw [hrm]; show _ ≤ room_1.cells; omega, by rw [hrm]; show _ ≤ room_1.slots; omega⟩ hr53 hk53 rfl rfl rfl (Nat.le_of_ble_eq_true rfl) dL_law_1490 (fun r53 m53 => ?_)
  refine z_aload_n C dL_law_1493 rfl 2 rfl ?_
  refine z_aload_n C dL_law_1494 rfl 0 rfl ?_
  refine z_iload_n C dL_law_1495 rfl 3 rfl ?_
  refine z_iconst (v := 1) C dL_law_1496 (by decide) ?_
  refine z_iadd C dL_law_1497 ?_
  refine z_chk (fun hj182 => ?_)
  refine z_scr C hX hbl hbA hj182 dL_law_1498 ?_
  refine z_aload_n C dL_law_1499 rfl 0 rfl ?_
  refine z_iload_n C dL_law_1500 rfl 3 rfl ?_
  refine z_iconst (v := 2) C dL_law_1501 (by decide) ?_
  refine z_iadd C dL_law_1502 ?_
  refine z_chk (fun hj183 => ?_)
  refine z_scr C hX hbl hbA hj183 dL_law_1503 ?_
  refine z_aload_n C dL_law_1504 rfl 0 rfl ?_
  refine z_iload_n C dL_law_1505 rfl 3 rfl ?_
  refine z_iconst (v := 3) C dL_law_1506 (by decide) ?_
  refine z_iadd C dL_law_1507 ?_
  refine z_chk (fun hj184 => ?_)
  refine z_scr C hX hbl hbA hj184 dL_law_1508 ?_
  refine z_ck (fun a54 hr54 hk54 => ?_)
  refine z_cVI [.int (xs (Int32.toNatClampNeg (x3 + 1))), .int (xs (Int32.toNatClampNeg (x3 + 2))), .int (xs (Int32.toNatClampNeg (x3 + 3)))] [.int r53] C mv_RL_132 (fun r0 m0 h0 => M_X10_fenced _ _ _ _ _ _ _ _ _ h0) rfl rfl ⟨by rw [hrm]; exact Nat.le_of_ble_eq_true rfl, by rw [hrm]; exact Nat.le_of_ble_eq_true rfl⟩ ⟨by rw [hrm]; show _ ≤ room_1.cells; omega, by rw [hrm]; show _ ≤ room_1.slots; omega⟩ hr54 hk54 rfl rfl rfl (Nat.le_of_ble_eq_true rfl) dL_law_1509 (fun r54 m54 => ?_)
  refine z_icmp_eq (tgt := 2039) C dL_law_1512 (by decide) (fun c31 => ?_) (fun c31 => ?_)
  · refine z_wid (k := ce + 58) (n := sl + 1570) (by omega) (by omega) ?_
    exact z_sub [0, 1, 2, 3] rfl (s_L_law_2039 xs Ln C hr hrm hA hX hbl hbA hB hce hsl k18 h18 x1 x2 x3 m54)
  · refine z_iconst (v := 0) C dL_law_1515 (by decide) ?_
    exact z_none
set_option maxRecDepth 100000 in
def g_L_law_1517 (xs : Nat → Int32) (Ln : Nat) (k18 : Option Nat → Option Nat → Int32 → MM → Option (Int32 × MM)) (x1 : Option Nat) (x2 : Option Nat) (x3 : Int32) (m : MM) : Option (Int32 × MM) :=
  chk (inb (x3 + 1) Ln = true) (chk (inb (x3 + 2) Ln = true) (chk (inb (x3 + 3) Ln = true) (ck m x1 10 (fun a55 => cal (f_X9_smells a55 (xs (Int32.toNatClampNeg (x3 + 1))) (xs (Int32.toNatClampNeg (x3 + 2))) (xs (Int32.toNatClampNeg (x3 + 3))) m) (fun r55 m55 => chk (inb (x3 + 1) Ln = true) (chk (inb (x3 + 2) Ln = true) (chk (inb (x3 + 3) Ln = true) (ck m55 x2 11 (fun a56 => cal (f_X10_smells a56 (xs (Int32.toNatClampNeg (x3 + 1))) (xs (Int32.toNatClampNeg (x3 + 2))) (xs (Int32.toNatClampNeg (x3 + 3))) m55) (fun r56 m56 => if r55 = r56 then (g_L_law_2039 xs Ln k18 x1 x2 x3 m56) else (none)))))))))))
set_option maxHeartbeats 8000000 in
set_option maxRecDepth 100000 in
theorem s_L_law_1517 {Γ : GX} {E : EX} (xs : Nat → Int32) (Ln : Nat) {b ce sl : Nat} (C : Cx Γ E cL_law RL 4) (hr : Γ.meth.sig.returnType = ret) (hrm : Γ.rm = room_1) (hA : Γ.args = #[Value.ref b]) (hX : va_X b Ln xs Γ.s Γ.s.heap) (hbl : b < Γ.s.heap.size) (hbA : ¬ AA E b) (hB : E.base = Γ.s.heap.size) (hce : ce + 58 ≤ room_1.cells) (hsl : sl + 1570 ≤ room_1.slots) (k18 : Option Nat → Option Nat → Int32 → MM → Option (Int32 × MM)) (h18 : ∀ (x1 : Option Nat) (x2 : Option Nat) (x3 : Int32) (m : MM), Sm (QL Γ) Γ E 4 (ce + 58) (sl + 1570) 18 [(0, va_rf (some b)), (1, va_rf x1), (2, va_rf x2), (3, .int x3)] [] m (k18 x1 x2 x3 m)) (x1 : Option Nat) (x2 : Option Nat) (x3 : Int32) (m : MM) : Sm (QL Γ) Γ E 4 ce sl 1517 [(0, va_rf (some b)), (1, va_rf x1), (2, va_rf x2), (3, .int x3)] [] m (g_L_law_1517 xs Ln k18 x1 x2 x3 m) := by
  unfold g_L_law_1517
  refine z_aload_n C dL_law_1517 rfl 1 rfl ?_
  refine z_aload_n C dL_law_1518 rfl 0 rfl ?_
  refine z_iload_n C dL_law_1519 rfl 3 rfl ?_
  refine z_iconst (v := 1) C dL_law_1520 (by decide) ?_
  refine z_iadd C dL_law_1521 ?_
  refine z_chk (fun hj185 => ?_)
  refine z_scr C hX hbl hbA hj185 dL_law_1522 ?_
  refine z_aload_n C dL_law_1523 rfl 0 rfl ?_
  refine z_iload_n C dL_law_1524 rfl 3 rfl ?_
  refine z_iconst (v := 2) C dL_law_1525 (by decide) ?_
  refine z_iadd C dL_law_1526 ?_
  refine z_chk (fun hj186 => ?_)
  refine z_scr C hX hbl hbA hj186 dL_law_1527 ?_
  refine z_aload_n C dL_law_1528 rfl 0 rfl ?_
  refine z_iload_n C dL_law_1529 rfl 3 rfl ?_
  refine z_iconst (v := 3) C dL_law_1530 (by decide) ?_
  refine z_iadd C dL_law_1531 ?_
  refine z_chk (fun hj187 => ?_)
  refine z_scr C hX hbl hbA hj187 dL_law_1532 ?_
  refine z_ck (fun a55 hr55 hk55 => ?_)
  refine z_cVI [.int (xs (Int32.toNatClampNeg (x3 + 1))), .int (xs (Int32.toNatClampNeg (x3 + 2))), .int (xs (Int32.toNatClampNeg (x3 + 3)))] [] C mv_RL_133 (fun r0 m0 h0 => M_X9_smells _ _ _ _ _ _ _ _ _ h0) rfl rfl ⟨by rw [hrm]; exact Nat.le_of_ble_eq_true rfl, by rw [hrm]; exact Nat.le_of_ble_eq_true rfl⟩ ⟨by rw [hrm]; show _ ≤ room_1.cells; omega, by rw [hrm]; show _ ≤ room_1.slots; omega⟩ hr55 hk55 rfl rfl rfl (Nat.le_of_ble_eq_true rfl) dL_law_1533 (fun r55 m55 => ?_)
  refine z_aload_n C dL_law_1536 rfl 2 rfl ?_
  refine z_aload_n C dL_law_1537 rfl 0 rfl ?_
  refine z_iload_n C dL_law_1538 rfl 3 rfl ?_
  refine z_iconst (v := 1) C dL_law_1539 (by decide) ?_
  refine z_iadd C dL_law_1540 ?_
  refine z_chk (fun hj188 => ?_)
  refine z_scr C hX hbl hbA hj188 dL_law_1541 ?_
  refine z_aload_n C dL_law_1542 rfl 0 rfl ?_
  refine z_iload_n C dL_law_1543 rfl 3 rfl ?_
  refine z_iconst (v := 2) C dL_law_1544 (by decide) ?_
  refine z_iadd C dL_law_1545 ?_
  refine z_chk (fun hj189 => ?_)
  refine z_scr C hX hbl hbA hj189 dL_law_1546 ?_
  refine z_aload_n C dL_law_1547 rfl 0 rfl ?_
  refine z_iload_n C dL_law_1548 rfl 3 rfl ?_
  refine z_iconst (v := 3) C dL_law_1549 (by decide) ?_
  refine z_iadd C dL_law_1550 ?_
  refine z_chk (fun hj190 => ?_)
  refine z_scr C hX hbl hbA hj190 dL_law_1551 ?_
  refine z_ck (fun a56 hr56 hk56 => ?_)
  refine z_cVI [.int (xs (Int32.toNatClampNeg (x3 + 1))), .int (xs (Int32.toNatClampNeg (x3 + 2))), .int (xs (Int32.toNatClampNeg (x3 + 3)))] [.int r55] C mv_RL_136 (fun r0 m0 h0 => M_X10_smells _ _ _ _ _ _ _ _ _ h0) rfl rfl ⟨by rw [hrm]; exact Nat.le_of_ble_eq_true rfl, by rw [hrm]; exact Nat.le_of_ble_eq_true rfl⟩ ⟨by rw [hrm]; show _ ≤ room_1.cells; omega, by rw [hrm]; show _ ≤ room_1.slots; omega⟩ hr56 hk56 rfl rfl rfl (Nat.le_of_ble_eq_true rfl) dL_law_1552 (fun r56 m56 => ?_)
  refine z_icmp_eq (tgt := 2039) C dL_law_1555 (by decide) (fun c32 => ?_) (fun c32 => ?_)
  · refine z_wid (k := ce + 58) (n := sl + 1570) (by omega) (by omega) ?_
    exact z_sub [0, 1, 2, 3] rfl (s_L_law_2039 xs Ln C hr hrm hA hX hbl hbA hB hce hsl k18 h18 x1 x2 x3 m56)
  · refine z_iconst (v := 0) C dL_law_1558 (by decide) ?_
    exact z_none
set_option maxRecDepth 100000 in
def g_L_law_1560 (xs : Nat → Int32) (Ln : Nat) (k18 : Option Nat → Option Nat → Int32 → MM → Option (Int32 × MM)) (x1 : Option Nat) (x2 : Option Nat) (x3 : Int32) (m : MM) : Option (Int32 × MM) :=
  chk (inb (x3 + 1) Ln = true) (chk (inb (x3 + 2) Ln = true) (chk (inb (x3 + 3) Ln = true) (chk (inb (x3 + 4) Ln = true) (ck m x1 10 (fun a57 => cal (f_X9_beside a57 (xs (Int32.toNatClampNeg (x3 + 1))) (xs (Int32.toNatClampNeg (x3 + 2))) (xs (Int32.toNatClampNeg (x3 + 3))) (xs (Int32.toNatClampNeg (x3 + 4))) m) (fun r57 m57 => chk (inb (x3 + 1) Ln = true) (chk (inb (x3 + 2) Ln = true) (chk (inb (x3 + 3) Ln = true) (chk (inb (x3 + 4) Ln = true) (ck m57 x2 11 (fun a58 => cal (f_X10_beside a58 (xs (Int32.toNatClampNeg (x3 + 1))) (xs (Int32.toNatClampNeg (x3 + 2))) (xs (Int32.toNatClampNeg (x3 + 3))) (xs (Int32.toNatClampNeg (x3 + 4))) m57) (fun r58 m58 => if r57 = r58 then (g_L_law_2039 xs Ln k18 x1 x2 x3 m58) else (none)))))))))))))
set_option maxHeartbeats 8000000 in
set_option maxRecDepth 100000 in
theorem s_L_law_1560 {Γ : GX} {E : EX} (xs : Nat → Int32) (Ln : Nat) {b ce sl : Nat} (C : Cx Γ E cL_law RL 4) (hr : Γ.meth.sig.returnType = ret) (hrm : Γ.rm = room_1) (hA : Γ.args = #[Value.ref b]) (hX : va_X b Ln xs Γ.s Γ.s.heap) (hbl : b < Γ.s.heap.size) (hbA : ¬ AA E b) (hB : E.base = Γ.s.heap.size) (hce : ce + 58 ≤ room_1.cells) (hsl : sl + 1570 ≤ room_1.slots) (k18 : Option Nat → Option Nat → Int32 → MM → Option (Int32 × MM)) (h18 : ∀ (x1 : Option Nat) (x2 : Option Nat) (x3 : Int32) (m : MM), Sm (QL Γ) Γ E 4 (ce + 58) (sl + 1570) 18 [(0, va_rf (some b)), (1, va_rf x1), (2, va_rf x2), (3, .int x3)] [] m (k18 x1 x2 x3 m)) (x1 : Option Nat) (x2 : Option Nat) (x3 : Int32) (m : MM) : Sm (QL Γ) Γ E 4 ce sl 1560 [(0, va_rf (some b)), (1, va_rf x1), (2, va_rf x2), (3, .int x3)] [] m (g_L_law_1560 xs Ln k18 x1 x2 x3 m) := by
  unfold g_L_law_1560
  refine z_aload_n C dL_law_1560 rfl 1 rfl ?_
  refine z_aload_n C dL_law_1561 rfl 0 rfl ?_
  refine z_iload_n C dL_law_1562 rfl 3 rfl ?_
  refine z_iconst (v := 1) C dL_law_1563 (by decide) ?_
  refine z_iadd C dL_law_1564 ?_
  refine z_chk (fun hj191 => ?_)
  refine z_scr C hX hbl hbA hj191 dL_law_1565 ?_
  refine z_aload_n C dL_law_1566 rfl 0 rfl ?_
  refine z_iload_n C dL_law_1567 rfl 3 rfl ?_
  refine z_iconst (v := 2) C dL_law_1568 (by decide) ?_
  refine z_iadd C dL_law_1569 ?_
  refine z_chk (fun hj192 => ?_)
  refine z_scr C hX hbl hbA hj192 dL_law_1570 ?_
  refine z_aload_n C dL_law_1571 rfl 0 rfl ?_
  refine z_iload_n C dL_law_1572 rfl 3 rfl ?_
  refine z_iconst (v := 3) C dL_law_1573 (by decide) ?_
  refine z_iadd C dL_law_1574 ?_
  refine z_chk (fun hj193 => ?_)
  refine z_scr C hX hbl hbA hj193 dL_law_1575 ?_
  refine z_aload_n C dL_law_1576 rfl 0 rfl ?_
  refine z_iload_n C dL_law_1577 rfl 3 rfl ?_
  refine z_iconst (v := 4) C dL_law_1578 (by decide) ?_
  refine z_iadd C dL_law_1579 ?_
  refine z_chk (fun hj194 => ?_)
  refine z_scr C hX hbl hbA hj194 dL_law_1580 ?_
  refine z_ck (fun a57 hr57 hk57 => ?_)
  refine z_cVI [.int (xs (Int32.toNatClampNeg (x3 + 1))), .int (xs (Int32.toNatClampNeg (x3 + 2))), .int (xs (Int32.toNatClampNeg (x3 + 3))), .int (xs (Int32.toNatClampNeg (x3 + 4)))] [] C mv_RL_137 (fun r0 m0 h0 => M_X9_beside _ _ _ _ _ _ _ _ _ _ h0) rfl rfl ⟨by rw [hrm]; exact Nat.le_of_ble_eq_true rfl, by rw [hrm]; exact Nat.le_of_ble_eq_true rfl⟩ ⟨by rw [hrm]; show _ ≤ room_1.cells; omega, by rw [hrm]; show _ ≤ room_1.slots; omega⟩ hr57 hk57 rfl rfl rfl (Nat.le_of_ble_eq_true rfl) dL_law_1581 (fun r57 m57 => ?_)
  refine z_aload_n C dL_law_1584 rfl 2 rfl ?_
  refine z_aload_n C dL_law_1585 rfl 0 rfl ?_
  refine z_iload_n C dL_law_1586 rfl 3 rfl ?_
  refine z_iconst (v := 1) C dL_law_1587 (by decide) ?_
  refine z_iadd C dL_law_1588 ?_
  refine z_chk (fun hj195 => ?_)
  refine z_scr C hX hbl hbA hj195 dL_law_1589 ?_
  refine z_aload_n C dL_law_1590 rfl 0 rfl ?_
  refine z_iload_n C dL_law_1591 rfl 3 rfl ?_
  refine z_iconst (v := 2) C dL_law_1592 (by decide) ?_
  refine z_iadd C dL_law_1593 ?_
  refine z_chk (fun hj196 => ?_)
  refine z_scr C hX hbl hbA hj196 dL_law_1594 ?_
  refine z_aload_n C dL_law_1595 rfl 0 rfl ?_
  refine z_iload_n C dL_law_1596 rfl 3 rfl ?_
  refine z_iconst (v := 3) C dL_law_1597 (by decide) ?_
  refine z_iadd C dL_law_1598 ?_
  refine z_chk (fun hj197 => ?_)
  refine z_scr C hX hbl hbA hj197 dL_law_1599 ?_
  refine z_aload_n C dL_law_1600 rfl 0 rfl ?_
  refine z_iload_n C dL_law_1601 rfl 3 rfl ?_
  refine z_iconst (v := 4) C dL_law_1602 (by decide) ?_
  refine z_iadd C dL_law_1603 ?_
  refine z_chk (fun hj198 => ?_)
  refine z_scr C hX hbl hbA hj198 dL_law_1604 ?_
  refine z_ck (fun a58 hr58 hk58 => ?_)
  refine z_cVI [.int (xs (Int32.toNatClampNeg (x3 + 1))), .int (xs (Int32.toNatClampNeg (x3 + 2))), .int (xs (Int32.toNatClampNeg (x3 + 3))), .int (xs (Int32.toNatClampNeg (x3 + 4)))] [.int r57] C mv_RL_140 (fun r0 m0 h0 => M_X10_beside _ _ _ _ _ _ _ _ _ _ h0) rfl rfl ⟨by rw [hrm]; exact Nat.le_of_ble_eq_true rfl, by rw [hrm]; exact Nat.le_of_ble_eq_true rfl⟩ ⟨by rw [hrm]; show _ ≤ room_1.cells; omega, by rw [hrm]; show _ ≤ room_1.slots; omega⟩ hr58 hk58 rfl rfl rfl (Nat.le_of_ble_eq_true rfl) dL_law_1605 (fun r58 m58 => ?_)
  refine z_icmp_eq (tgt := 2039) C dL_law_1608 (by decide) (fun c33 => ?_) (fun c33 => ?_)
  · refine z_wid (k := ce + 58) (n := sl + 1570) (by omega) (by omega) ?_
    exact z_sub [0, 1, 2, 3] rfl (s_L_law_2039 xs Ln C hr hrm hA hX hbl hbA hB hce hsl k18 h18 x1 x2 x3 m58)
  · refine z_iconst (v := 0) C dL_law_1611 (by decide) ?_
    exact z_none
set_option maxRecDepth 100000 in
def g_L_law_1613 (xs : Nat → Int32) (Ln : Nat) (k18 : Option Nat → Option Nat → Int32 → MM → Option (Int32 × MM)) (x1 : Option Nat) (x2 : Option Nat) (x3 : Int32) (m : MM) : Option (Int32 × MM) :=
  chk (inb (x3 + 1) Ln = true) (chk (inb (x3 + 2) Ln = true) (chk (inb (x3 + 3) Ln = true) (ck m x1 10 (fun a59 => cal (f_X9_moved a59 (xs (Int32.toNatClampNeg (x3 + 1))) (xs (Int32.toNatClampNeg (x3 + 2))) (xs (Int32.toNatClampNeg (x3 + 3))) m) (fun r59 m59 => chk (inb (x3 + 1) Ln = true) (chk (inb (x3 + 2) Ln = true) (chk (inb (x3 + 3) Ln = true) (ck m59 x2 11 (fun a60 => cal (f_X10_moved a60 (xs (Int32.toNatClampNeg (x3 + 1))) (xs (Int32.toNatClampNeg (x3 + 2))) (xs (Int32.toNatClampNeg (x3 + 3))) m59) (fun r60 m60 => if r59 = r60 then (g_L_law_2039 xs Ln k18 x1 x2 x3 m60) else (none)))))))))))
set_option maxHeartbeats 8000000 in
set_option maxRecDepth 100000 in
theorem s_L_law_1613 {Γ : GX} {E : EX} (xs : Nat → Int32) (Ln : Nat) {b ce sl : Nat} (C : Cx Γ E cL_law RL 4) (hr : Γ.meth.sig.returnType = ret) (hrm : Γ.rm = room_1) (hA : Γ.args = #[Value.ref b]) (hX : va_X b Ln xs Γ.s Γ.s.heap) (hbl : b < Γ.s.heap.size) (hbA : ¬ AA E b) (hB : E.base = Γ.s.heap.size) (hce : ce + 58 ≤ room_1.cells) (hsl : sl + 1570 ≤ room_1.slots) (k18 : Option Nat → Option Nat → Int32 → MM → Option (Int32 × MM)) (h18 : ∀ (x1 : Option Nat) (x2 : Option Nat) (x3 : Int32) (m : MM), Sm (QL Γ) Γ E 4 (ce + 58) (sl + 1570) 18 [(0, va_rf (some b)), (1, va_rf x1), (2, va_rf x2), (3, .int x3)] [] m (k18 x1 x2 x3 m)) (x1 : Option Nat) (x2 : Option Nat) (x3 : Int32) (m : MM) : Sm (QL Γ) Γ E 4 ce sl 1613 [(0, va_rf (some b)), (1, va_rf x1), (2, va_rf x2), (3, .int x3)] [] m (g_L_law_1613 xs Ln k18 x1 x2 x3 m) := by
  unfold g_L_law_1613
  refine z_aload_n C dL_law_1613 rfl 1 rfl ?_
  refine z_aload_n C dL_law_1614 rfl 0 rfl ?_
  refine z_iload_n C dL_law_1615 rfl 3 rfl ?_
  refine z_iconst (v := 1) C dL_law_1616 (by decide) ?_
  refine z_iadd C dL_law_1617 ?_
  refine z_chk (fun hj199 => ?_)
  refine z_scr C hX hbl hbA hj199 dL_law_1618 ?_
  refine z_aload_n C dL_law_1619 rfl 0 rfl ?_
  refine z_iload_n C dL_law_1620 rfl 3 rfl ?_
  refine z_iconst (v := 2) C dL_law_1621 (by decide) ?_
  refine z_iadd C dL_law_1622 ?_
  refine z_chk (fun hj200 => ?_)
  refine z_scr C hX hbl hbA hj200 dL_law_1623 ?_
  refine z_aload_n C dL_law_1624 rfl 0 rfl ?_
  refine z_iload_n C dL_law_1625 rfl 3 rfl ?_
  refine z_iconst (v := 3) C dL_law_1626 (by decide) ?_
  refine z_iadd C dL_law_1627 ?_
  refine z_chk (fun hj201 => ?_)
  refine z_scr C hX hbl hbA hj201 dL_law_1628 ?_
  refine z_ck (fun a59 hr59 hk59 => ?_)
  refine z_cVI [.int (xs (Int32.toNatClampNeg (x3 + 1))), .int (xs (Int32.toNatClampNeg (x3 + 2))), .int (xs (Int32.toNatClampNeg (x3 + 3)))] [] C mv_RL_141 (fun r0 m0 h0 => M_X9_moved _ _ _ _ _ _ _ _ _ h0) rfl rfl ⟨by rw [hrm]; exact Nat.le_of_ble_eq_true rfl, by rw [hrm]; exact Nat.le_of_ble_eq_true rfl⟩ ⟨by rw [hrm]; show _ ≤ room_1.cells; omega, by rw [hrm]; show _ ≤ room_1.slots; omega⟩ hr59 hk59 rfl rfl rfl (Nat.le_of_ble_eq_true rfl) dL_law_1629 (fun r59 m59 => ?_)
  refine z_aload_n C dL_law_1632 rfl 2 rfl ?_
  refine z_aload_n C dL_law_1633 rfl 0 rfl ?_
  refine z_iload_n C dL_law_1634 rfl 3 rfl ?_
  refine z_iconst (v := 1) C dL_law_1635 (by decide) ?_
  refine z_iadd C dL_law_1636 ?_
  refine z_chk (fun hj202 => ?_)
  refine z_scr C hX hbl hbA hj202 dL_law_1637 ?_
  refine z_aload_n C dL_law_1638 rfl 0 rfl ?_
  refine z_iload_n C dL_law_1639 rfl 3 rfl ?_
  refine z_iconst (v := 2) C dL_law_1640 (by decide) ?_
  refine z_iadd C dL_law_1641 ?_
  refine z_chk (fun hj203 => ?_)
  refine z_scr C hX hbl hbA hj203 dL_law_1642 ?_
  refine z_aload_n C dL_law_1643 rfl 0 rfl ?_
  refine z_iload_n C dL_law_1644 rfl 3 rfl ?_
  refine z_iconst (v := 3) C dL_law_1645 (by decide) ?_
  refine z_iadd C dL_law_1646 ?_
  refine z_chk (fun hj204 => ?_)
  refine z_scr C hX hbl hbA hj204 dL_law_1647 ?_
  refine z_ck (fun a60 hr60 hk60 => ?_)
  refine z_cVI [.int (xs (Int32.toNatClampNeg (x3 + 1))), .int (xs (Int32.toNatClampNeg (x3 + 2))), .int (xs (Int32.toNatClampNeg (x3 + 3)))] [.int r59] C mv_RL_144 (fun r0 m0 h0 => M_X10_moved _ _ _ _ _ _ _ _ _ h0) rfl rfl ⟨by rw [hrm]; exact Nat.le_of_ble_eq_true rfl, by rw [hrm]; exact Nat.le_of_ble_eq_true rfl⟩ ⟨by rw [hrm]; show _ ≤ room_1.cells; omega, by rw [hrm]; show _ ≤ room_1.slots; omega⟩ hr60 hk60 rfl rfl rfl (Nat.le_of_ble_eq_true rfl) dL_law_1648 (fun r60 m60 => ?_)
  refine z_icmp_eq (tgt := 2039) C dL_law_1651 (by decide) (fun c34 => ?_) (fun c34 => ?_)
  · refine z_wid (k := ce + 58) (n := sl + 1570) (by omega) (by omega) ?_
    exact z_sub [0, 1, 2, 3] rfl (s_L_law_2039 xs Ln C hr hrm hA hX hbl hbA hB hce hsl k18 h18 x1 x2 x3 m60)
  · refine z_iconst (v := 0) C dL_law_1654 (by decide) ?_
    exact z_none
set_option maxRecDepth 100000 in
def g_L_law_1656 (xs : Nat → Int32) (Ln : Nat) (k18 : Option Nat → Option Nat → Int32 → MM → Option (Int32 × MM)) (x1 : Option Nat) (x2 : Option Nat) (x3 : Int32) (m : MM) : Option (Int32 × MM) :=
  chk (inb (x3 + 1) Ln = true) (chk (inb (x3 + 2) Ln = true) (chk (inb (x3 + 3) Ln = true) (chk (inb (x3 + 4) Ln = true) (ck m x1 10 (fun a61 => cal (f_X9_movedTo a61 (xs (Int32.toNatClampNeg (x3 + 1))) (xs (Int32.toNatClampNeg (x3 + 2))) (xs (Int32.toNatClampNeg (x3 + 3))) (xs (Int32.toNatClampNeg (x3 + 4))) m) (fun r61 m61 => chk (inb (x3 + 1) Ln = true) (chk (inb (x3 + 2) Ln = true) (chk (inb (x3 + 3) Ln = true) (chk (inb (x3 + 4) Ln = true) (ck m61 x2 11 (fun a62 => cal (f_X10_movedTo a62 (xs (Int32.toNatClampNeg (x3 + 1))) (xs (Int32.toNatClampNeg (x3 + 2))) (xs (Int32.toNatClampNeg (x3 + 3))) (xs (Int32.toNatClampNeg (x3 + 4))) m61) (fun r62 m62 => if r61 = r62 then (g_L_law_2039 xs Ln k18 x1 x2 x3 m62) else (none)))))))))))))
set_option maxHeartbeats 8000000 in
set_option maxRecDepth 100000 in
theorem s_L_law_1656 {Γ : GX} {E : EX} (xs : Nat → Int32) (Ln : Nat) {b ce sl : Nat} (C : Cx Γ E cL_law RL 4) (hr : Γ.meth.sig.returnType = ret) (hrm : Γ.rm = room_1) (hA : Γ.args = #[Value.ref b]) (hX : va_X b Ln xs Γ.s Γ.s.heap) (hbl : b < Γ.s.heap.size) (hbA : ¬ AA E b) (hB : E.base = Γ.s.heap.size) (hce : ce + 58 ≤ room_1.cells) (hsl : sl + 1570 ≤ room_1.slots) (k18 : Option Nat → Option Nat → Int32 → MM → Option (Int32 × MM)) (h18 : ∀ (x1 : Option Nat) (x2 : Option Nat) (x3 : Int32) (m : MM), Sm (QL Γ) Γ E 4 (ce + 58) (sl + 1570) 18 [(0, va_rf (some b)), (1, va_rf x1), (2, va_rf x2), (3, .int x3)] [] m (k18 x1 x2 x3 m)) (x1 : Option Nat) (x2 : Option Nat) (x3 : Int32) (m : MM) : Sm (QL Γ) Γ E 4 ce sl 1656 [(0, va_rf (some b)), (1, va_rf x1), (2, va_rf x2), (3, .int x3)] [] m (g_L_law_1656 xs Ln k18 x1 x2 x3 m) := by
  unfold g_L_law_1656
  refine z_aload_n C dL_law_1656 rfl 1 rfl ?_
  refine z_aload_n C dL_law_1657 rfl 0 rfl ?_
  refine z_iload_n C dL_law_1658 rfl 3 rfl ?_
  refine z_iconst (v := 1) C dL_law_1659 (by decide) ?_
  refine z_iadd C dL_law_1660 ?_
  refine z_chk (fun hj205 => ?_)
  refine z_scr C hX hbl hbA hj205 dL_law_1661 ?_
  refine z_aload_n C dL_law_1662 rfl 0 rfl ?_
  refine z_iload_n C dL_law_1663 rfl 3 rfl ?_
  refine z_iconst (v := 2) C dL_law_1664 (by decide) ?_
  refine z_iadd C dL_law_1665 ?_
  refine z_chk (fun hj206 => ?_)
  refine z_scr C hX hbl hbA hj206 dL_law_1666 ?_
  refine z_aload_n C dL_law_1667 rfl 0 rfl ?_
  refine z_iload_n C dL_law_1668 rfl 3 rfl ?_
  refine z_iconst (v := 3) C dL_law_1669 (by decide) ?_
  refine z_iadd C dL_law_1670 ?_
  refine z_chk (fun hj207 => ?_)
  refine z_scr C hX hbl hbA hj207 dL_law_1671 ?_
  refine z_aload_n C dL_law_1672 rfl 0 rfl ?_
  refine z_iload_n C dL_law_1673 rfl 3 rfl ?_
  refine z_iconst (v := 4) C dL_law_1674 (by decide) ?_
  refine z_iadd C dL_law_1675 ?_
  refine z_chk (fun hj208 => ?_)
  refine z_scr C hX hbl hbA hj208 dL_law_1676 ?_
  refine z_ck (fun a61 hr61 hk61 => ?_)
  refine z_cVI [.int (xs (Int32.toNatClampNeg (x3 + 1))), .int (xs (Int32.toNatClampNeg (x3 + 2))), .int (xs (Int32.toNatClampNeg (x3 + 3))), .int (xs (Int32.toNatClampNeg (x3 + 4)))] [] C mv_RL_145 (fun r0 m0 h0 => M_X9_movedTo _ _ _ _ _ _ _ _ _ _ h0) rfl rfl ⟨by rw [hrm]; exact Nat.le_of_ble_eq_true rfl, by rw [hrm]; exact Nat.le_of_ble_eq_true rfl⟩ ⟨by rw [hrm]; show _ ≤ room_1.cells; omega, by rw [hrm]; show _ ≤ room_1.slots; omega⟩ hr61 hk61 rfl rfl rfl (Nat.le_of_ble_eq_true rfl) dL_law_1677 (fun r61 m61 => ?_)
  refine z_aload_n C dL_law_1680 rfl 2 rfl ?_
  refine z_aload_n C dL_law_1681 rfl 0 rfl ?_
  refine z_iload_n C dL_law_1682 rfl 3 rfl ?_
  refine z_iconst (v := 1) C dL_law_1683 (by decide) ?_
  refine z_iadd C dL_law_1684 ?_
  refine z_chk (fun hj209 => ?_)
  refine z_scr C hX hbl hbA hj209 dL_law_1685 ?_
  refine z_aload_n C dL_law_1686 rfl 0 rfl ?_
  refine z_iload_n C dL_law_1687 rfl 3 rfl ?_
  refine z_iconst (v := 2) C dL_law_1688 (by decide) ?_
  refine z_iadd C dL_law_1689 ?_
  refine z_chk (fun hj210 => ?_)
  refine z_scr C hX hbl hbA hj210 dL_law_1690 ?_
  refine z_aload_n C dL_law_1691 rfl 0 rfl ?_
  refine z_iload_n C dL_law_1692 rfl 3 rfl ?_
  refine z_iconst (v := 3) C dL_law_1693 (by decide) ?_
  refine z_iadd C dL_law_1694 ?_
  refine z_chk (fun hj211 => ?_)
  refine z_scr C hX hbl hbA hj211 dL_law_1695 ?_
  refine z_aload_n C dL_law_1696 rfl 0 rfl ?_
  refine z_iload_n C dL_law_1697 rfl 3 rfl ?_
  refine z_iconst (v := 4) C dL_law_1698 (by decide) ?_
  refine z_iadd C dL_law_1699 ?_
  refine z_chk (fun hj212 => ?_)
  refine z_scr C hX hbl hbA hj212 dL_law_1700 ?_
  refine z_ck (fun a62 hr62 hk62 => ?_)
  refine z_cVI [.int (xs (Int32.toNatClampNeg (x3 + 1))), .int (xs (Int32.toNatClampNeg (x3 + 2))), .int (xs (Int32.toNatClampNeg (x3 + 3))), .int (xs (Int32.toNatClampNeg (x3 + 4)))] [.int r61] C mv_RL_148 (fun r0 m0 h0 => M_X10_movedTo _ _ _ _ _ _ _ _ _ _ h0) rfl rfl ⟨by rw [hrm]; exact Nat.le_of_ble_eq_true rfl, by rw [hrm]; exact Nat.le_of_ble_eq_true rfl⟩ ⟨by rw [hrm]; show _ ≤ room_1.cells; omega, by rw [hrm]; show _ ≤ room_1.slots; omega⟩ hr62 hk62 rfl rfl rfl (Nat.le_of_ble_eq_true rfl) dL_law_1701 (fun r62 m62 => ?_)
  refine z_icmp_eq (tgt := 2039) C dL_law_1704 (by decide) (fun c35 => ?_) (fun c35 => ?_)
  · refine z_wid (k := ce + 58) (n := sl + 1570) (by omega) (by omega) ?_
    exact z_sub [0, 1, 2, 3] rfl (s_L_law_2039 xs Ln C hr hrm hA hX hbl hbA hB hce hsl k18 h18 x1 x2 x3 m62)
  · refine z_iconst (v := 0) C dL_law_1707 (by decide) ?_
    exact z_none
set_option maxRecDepth 100000 in
def g_L_law_1709 (xs : Nat → Int32) (Ln : Nat) (k18 : Option Nat → Option Nat → Int32 → MM → Option (Int32 × MM)) (x1 : Option Nat) (x2 : Option Nat) (x3 : Int32) (m : MM) : Option (Int32 × MM) :=
  chk (inb (x3 + 1) Ln = true) (chk (inb (x3 + 2) Ln = true) (chk (inb (x3 + 3) Ln = true) (ck m x1 10 (fun a63 => cal (f_X9_quiet a63 (xs (Int32.toNatClampNeg (x3 + 1))) (xs (Int32.toNatClampNeg (x3 + 2))) (xs (Int32.toNatClampNeg (x3 + 3))) m) (fun r63 m63 => chk (inb (x3 + 1) Ln = true) (chk (inb (x3 + 2) Ln = true) (chk (inb (x3 + 3) Ln = true) (ck m63 x2 11 (fun a64 => cal (f_X10_quiet a64 (xs (Int32.toNatClampNeg (x3 + 1))) (xs (Int32.toNatClampNeg (x3 + 2))) (xs (Int32.toNatClampNeg (x3 + 3))) m63) (fun r64 m64 => if r63 = r64 then (g_L_law_2039 xs Ln k18 x1 x2 x3 m64) else (none)))))))))))
set_option maxHeartbeats 8000000 in
set_option maxRecDepth 100000 in
theorem s_L_law_1709 {Γ : GX} {E : EX} (xs : Nat → Int32) (Ln : Nat) {b ce sl : Nat} (C : Cx Γ E cL_law RL 4) (hr : Γ.meth.sig.returnType = ret) (hrm : Γ.rm = room_1) (hA : Γ.args = #[Value.ref b]) (hX : va_X b Ln xs Γ.s Γ.s.heap) (hbl : b < Γ.s.heap.size) (hbA : ¬ AA E b) (hB : E.base = Γ.s.heap.size) (hce : ce + 58 ≤ room_1.cells) (hsl : sl + 1570 ≤ room_1.slots) (k18 : Option Nat → Option Nat → Int32 → MM → Option (Int32 × MM)) (h18 : ∀ (x1 : Option Nat) (x2 : Option Nat) (x3 : Int32) (m : MM), Sm (QL Γ) Γ E 4 (ce + 58) (sl + 1570) 18 [(0, va_rf (some b)), (1, va_rf x1), (2, va_rf x2), (3, .int x3)] [] m (k18 x1 x2 x3 m)) (x1 : Option Nat) (x2 : Option Nat) (x3 : Int32) (m : MM) : Sm (QL Γ) Γ E 4 ce sl 1709 [(0, va_rf (some b)), (1, va_rf x1), (2, va_rf x2), (3, .int x3)] [] m (g_L_law_1709 xs Ln k18 x1 x2 x3 m) := by
  unfold g_L_law_1709
  refine z_aload_n C dL_law_1709 rfl 1 rfl ?_
  refine z_aload_n C dL_law_1710 rfl 0 rfl ?_
  refine z_iload_n C dL_law_1711 rfl 3 rfl ?_
  refine z_iconst (v := 1) C dL_law_1712 (by decide) ?_
  refine z_iadd C dL_law_1713 ?_
  refine z_chk (fun hj213 => ?_)
  refine z_scr C hX hbl hbA hj213 dL_law_1714 ?_
  refine z_aload_n C dL_law_1715 rfl 0 rfl ?_
  refine z_iload_n C dL_law_1716 rfl 3 rfl ?_
  refine z_iconst (v := 2) C dL_law_1717 (by decide) ?_
  refine z_iadd C dL_law_1718 ?_
  refine z_chk (fun hj214 => ?_)
  refine z_scr C hX hbl hbA hj214 dL_law_1719 ?_
  refine z_aload_n C dL_law_1720 rfl 0 rfl ?_
  refine z_iload_n C dL_law_1721 rfl 3 rfl ?_
  refine z_iconst (v := 3) C dL_law_1722 (by decide) ?_
  refine z_iadd C dL_law_1723 ?_
  refine z_chk (fun hj215 => ?_)
  refine z_scr C hX hbl hbA hj215 dL_law_1724 ?_
  refine z_ck (fun a63 hr63 hk63 => ?_)
  refine z_cVI [.int (xs (Int32.toNatClampNeg (x3 + 1))), .int (xs (Int32.toNatClampNeg (x3 + 2))), .int (xs (Int32.toNatClampNeg (x3 + 3)))] [] C mv_RL_149 (fun r0 m0 h0 => M_X9_quiet _ _ _ _ _ _ _ _ _ h0) rfl rfl ⟨by rw [hrm]; exact Nat.le_of_ble_eq_true rfl, by rw [hrm]; exact Nat.le_of_ble_eq_true rfl⟩ ⟨by rw [hrm]; show _ ≤ room_1.cells; omega, by rw [hrm]; show _ ≤ room_1.slots; omega⟩ hr63 hk63 rfl rfl rfl (Nat.le_of_ble_eq_true rfl) dL_law_1725 (fun r63 m63 => ?_)
  refine z_aload_n C dL_law_1728 rfl 2 rfl ?_
  refine z_aload_n C dL_law_1729 rfl 0 rfl ?_
  refine z_iload_n C dL_law_1730 rfl 3 rfl ?_
  refine z_iconst (v := 1) C dL_law_1731 (by decide) ?_
  refine z_iadd C dL_law_1732 ?_
  refine z_chk (fun hj216 => ?_)
  refine z_scr C hX hbl hbA hj216 dL_law_1733 ?_
  refine z_aload_n C dL_law_1734 rfl 0 rfl ?_
  refine z_iload_n C dL_law_1735 rfl 3 rfl ?_
  refine z_iconst (v := 2) C dL_law_1736 (by decide) ?_
  refine z_iadd C dL_law_1737 ?_
  refine z_chk (fun hj217 => ?_)
  refine z_scr C hX hbl hbA hj217 dL_law_1738 ?_
  refine z_aload_n C dL_law_1739 rfl 0 rfl ?_
  refine z_iload_n C dL_law_1740 rfl 3 rfl ?_
  refine z_iconst (v := 3) C dL_law_1741 (by decide) ?_
  refine z_iadd C dL_law_1742 ?_
  refine z_chk (fun hj218 => ?_)
  refine z_scr C hX hbl hbA hj218 dL_law_1743 ?_
  refine z_ck (fun a64 hr64 hk64 => ?_)
  refine z_cVI [.int (xs (Int32.toNatClampNeg (x3 + 1))), .int (xs (Int32.toNatClampNeg (x3 + 2))), .int (xs (Int32.toNatClampNeg (x3 + 3)))] [.int r63] C mv_RL_152 (fun r0 m0 h0 => M_X10_quiet _ _ _ _ _ _ _ _ _ h0) rfl rfl ⟨by rw [hrm]; exact Nat.le_of_ble_eq_true rfl, by rw [hrm]; exact Nat.le_of_ble_eq_true rfl⟩ ⟨by rw [hrm]; show _ ≤ room_1.cells; omega, by rw [hrm]; show _ ≤ room_1.slots; omega⟩ hr64 hk64 rfl rfl rfl (Nat.le_of_ble_eq_true rfl) dL_law_1744 (fun r64 m64 => ?_)
  refine z_icmp_eq (tgt := 2039) C dL_law_1747 (by decide) (fun c36 => ?_) (fun c36 => ?_)
  · refine z_wid (k := ce + 58) (n := sl + 1570) (by omega) (by omega) ?_
    exact z_sub [0, 1, 2, 3] rfl (s_L_law_2039 xs Ln C hr hrm hA hX hbl hbA hB hce hsl k18 h18 x1 x2 x3 m64)
  · refine z_iconst (v := 0) C dL_law_1750 (by decide) ?_
    exact z_none
set_option maxRecDepth 100000 in
def g_L_law_1752 (xs : Nat → Int32) (Ln : Nat) (k18 : Option Nat → Option Nat → Int32 → MM → Option (Int32 × MM)) (x1 : Option Nat) (x2 : Option Nat) (x3 : Int32) (m : MM) : Option (Int32 × MM) :=
  chk (inb (x3 + 1) Ln = true) (chk (inb (x3 + 2) Ln = true) (chk (inb (x3 + 3) Ln = true) (ck m x1 10 (fun a65 => cal (f_X9_room a65 (xs (Int32.toNatClampNeg (x3 + 1))) (xs (Int32.toNatClampNeg (x3 + 2))) (xs (Int32.toNatClampNeg (x3 + 3))) m) (fun r65 m65 => chk (inb (x3 + 1) Ln = true) (chk (inb (x3 + 2) Ln = true) (chk (inb (x3 + 3) Ln = true) (ck m65 x2 11 (fun a66 => cal (f_X10_room a66 (xs (Int32.toNatClampNeg (x3 + 1))) (xs (Int32.toNatClampNeg (x3 + 2))) (xs (Int32.toNatClampNeg (x3 + 3))) m65) (fun r66 m66 => if r65 = r66 then (g_L_law_2039 xs Ln k18 x1 x2 x3 m66) else (none)))))))))))
set_option maxHeartbeats 8000000 in
set_option maxRecDepth 100000 in
theorem s_L_law_1752 {Γ : GX} {E : EX} (xs : Nat → Int32) (Ln : Nat) {b ce sl : Nat} (C : Cx Γ E cL_law RL 4) (hr : Γ.meth.sig.returnType = ret) (hrm : Γ.rm = room_1) (hA : Γ.args = #[Value.ref b]) (hX : va_X b Ln xs Γ.s Γ.s.heap) (hbl : b < Γ.s.heap.size) (hbA : ¬ AA E b) (hB : E.base = Γ.s.heap.size) (hce : ce + 58 ≤ room_1.cells) (hsl : sl + 1570 ≤ room_1.slots) (k18 : Option Nat → Option Nat → Int32 → MM → Option (Int32 × MM)) (h18 : ∀ (x1 : Option Nat) (x2 : Option Nat) (x3 : Int32) (m : MM), Sm (QL Γ) Γ E 4 (ce + 58) (sl + 1570) 18 [(0, va_rf (some b)), (1, va_rf x1), (2, va_rf x2), (3, .int x3)] [] m (k18 x1 x2 x3 m)) (x1 : Option Nat) (x2 : Option Nat) (x3 : Int32) (m : MM) : Sm (QL Γ) Γ E 4 ce sl 1752 [(0, va_rf (some b)), (1, va_rf x1), (2, va_rf x2), (3, .int x3)] [] m (g_L_law_1752 xs Ln k18 x1 x2 x3 m) := by
  unfold g_L_law_1752
  refine z_aload_n C dL_law_1752 rfl 1 rfl ?_
  refine z_aload_n C dL_law_1753 rfl 0 rfl ?_
  refine z_iload_n C dL_law_1754 rfl 3 rfl ?_
  refine z_iconst (v := 1) C dL_law_1755 (by decide) ?_
  refine z_iadd C dL_law_1756 ?_
  refine z_chk (fun hj219 => ?_)
  refine z_scr C hX hbl hbA hj219 dL_law_1757 ?_
  refine z_aload_n C dL_law_1758 rfl 0 rfl ?_
  refine z_iload_n C dL_law_1759 rfl 3 rfl ?_
  refine z_iconst (v := 2) C dL_law_1760 (by decide) ?_
  refine z_iadd C dL_law_1761 ?_
  refine z_chk (fun hj220 => ?_)
  refine z_scr C hX hbl hbA hj220 dL_law_1762 ?_
  refine z_aload_n C dL_law_1763 rfl 0 rfl ?_
  refine z_iload_n C dL_law_1764 rfl 3 rfl ?_
  refine z_iconst (v := 3) C dL_law_1765 (by decide) ?_
  refine z_iadd C dL_law_1766 ?_
  refine z_chk (fun hj221 => ?_)
  refine z_scr C hX hbl hbA hj221 dL_law_1767 ?_
  refine z_ck (fun a65 hr65 hk65 => ?_)
  refine z_cVI [.int (xs (Int32.toNatClampNeg (x3 + 1))), .int (xs (Int32.toNatClampNeg (x3 + 2))), .int (xs (Int32.toNatClampNeg (x3 + 3)))] [] C mv_RL_153 (fun r0 m0 h0 => M_X9_room _ _ _ _ _ _ _ _ _ h0) rfl rfl ⟨by rw [hrm]; exact Nat.le_of_ble_eq_true rfl, by rw [hrm]; exact Nat.le_of_ble_eq_true rfl⟩ ⟨by rw [hrm]; show _ ≤ room_1.cells; omega, by rw [hrm]; show _ ≤ room_1.slots; omega⟩ hr65 hk65 rfl rfl rfl (Nat.le_of_ble_eq_true rfl) dL_law_1768 (fun r65 m65 => ?_)
  refine z_aload_n C dL_law_1771 rfl 2 rfl ?_
  refine z_aload_n C dL_law_1772 rfl 0 rfl ?_
  refine z_iload_n C dL_law_1773 rfl 3 rfl ?_
  refine z_iconst (v := 1) C dL_law_1774 (by decide) ?_
  refine z_iadd C dL_law_1775 ?_
  refine z_chk (fun hj222 => ?_)
  refine z_scr C hX hbl hbA hj222 dL_law_1776 ?_
  refine z_aload_n C dL_law_1777 rfl 0 rfl ?_
  refine z_iload_n C dL_law_1778 rfl 3 rfl ?_
  refine z_iconst (v := 2) C dL_law_1779 (by decide) ?_
  refine z_iadd C dL_law_1780 ?_
  refine z_chk (fun hj223 => ?_)
  refine z_scr C hX hbl hbA hj223 dL_law_1781 ?_
  refine z_aload_n C dL_law_1782 rfl 0 rfl ?_
  refine z_iload_n C dL_law_1783 rfl 3 rfl ?_
  refine z_iconst (v := 3) C dL_law_1784 (by decide) ?_
  refine z_iadd C dL_law_1785 ?_
  refine z_chk (fun hj224 => ?_)
  refine z_scr C hX hbl hbA hj224 dL_law_1786 ?_
  refine z_ck (fun a66 hr66 hk66 => ?_)
  refine z_cVI [.int (xs (Int32.toNatClampNeg (x3 + 1))), .int (xs (Int32.toNatClampNeg (x3 + 2))), .int (xs (Int32.toNatClampNeg (x3 + 3)))] [.int r65] C mv_RL_156 (fun r0 m0 h0 => M_X10_room _ _ _ _ _ _ _ _ _ h0) rfl rfl ⟨by rw [hrm]; exact Nat.le_of_ble_eq_true rfl, by rw [hrm]; exact Nat.le_of_ble_eq_true rfl⟩ ⟨by rw [hrm]; show _ ≤ room_1.cells; omega, by rw [hrm]; show _ ≤ room_1.slots; omega⟩ hr66 hk66 rfl rfl rfl (Nat.le_of_ble_eq_true rfl) dL_law_1787 (fun r66 m66 => ?_)
  refine z_icmp_eq (tgt := 2039) C dL_law_1790 (by decide) (fun c37 => ?_) (fun c37 => ?_)
  · refine z_wid (k := ce + 58) (n := sl + 1570) (by omega) (by omega) ?_
    exact z_sub [0, 1, 2, 3] rfl (s_L_law_2039 xs Ln C hr hrm hA hX hbl hbA hB hce hsl k18 h18 x1 x2 x3 m66)
  · refine z_iconst (v := 0) C dL_law_1793 (by decide) ?_
    exact z_none
set_option maxRecDepth 100000 in
def g_L_law_1795 (xs : Nat → Int32) (Ln : Nat) (k18 : Option Nat → Option Nat → Int32 → MM → Option (Int32 × MM)) (x1 : Option Nat) (x2 : Option Nat) (x3 : Int32) (m : MM) : Option (Int32 × MM) :=
  chk (inb (x3 + 1) Ln = true) (chk (inb (x3 + 2) Ln = true) (chk (inb (x3 + 3) Ln = true) (chk (inb (x3 + 4) Ln = true) (ck m x1 10 (fun a67 => cal (f_X9_by a67 (xs (Int32.toNatClampNeg (x3 + 1))) (xs (Int32.toNatClampNeg (x3 + 2))) (xs (Int32.toNatClampNeg (x3 + 3))) (xs (Int32.toNatClampNeg (x3 + 4))) m) (fun r67 m67 => chk (inb (x3 + 1) Ln = true) (chk (inb (x3 + 2) Ln = true) (chk (inb (x3 + 3) Ln = true) (chk (inb (x3 + 4) Ln = true) (ck m67 x2 11 (fun a68 => cal (f_X10_by a68 (xs (Int32.toNatClampNeg (x3 + 1))) (xs (Int32.toNatClampNeg (x3 + 2))) (xs (Int32.toNatClampNeg (x3 + 3))) (xs (Int32.toNatClampNeg (x3 + 4))) m67) (fun r68 m68 => if r67 = r68 then (g_L_law_2039 xs Ln k18 x1 x2 x3 m68) else (none)))))))))))))
set_option maxHeartbeats 8000000 in
set_option maxRecDepth 100000 in
theorem s_L_law_1795 {Γ : GX} {E : EX} (xs : Nat → Int32) (Ln : Nat) {b ce sl : Nat} (C : Cx Γ E cL_law RL 4) (hr : Γ.meth.sig.returnType = ret) (hrm : Γ.rm = room_1) (hA : Γ.args = #[Value.ref b]) (hX : va_X b Ln xs Γ.s Γ.s.heap) (hbl : b < Γ.s.heap.size) (hbA : ¬ AA E b) (hB : E.base = Γ.s.heap.size) (hce : ce + 58 ≤ room_1.cells) (hsl : sl + 1570 ≤ room_1.slots) (k18 : Option Nat → Option Nat → Int32 → MM → Option (Int32 × MM)) (h18 : ∀ (x1 : Option Nat) (x2 : Option Nat) (x3 : Int32) (m : MM), Sm (QL Γ) Γ E 4 (ce + 58) (sl + 1570) 18 [(0, va_rf (some b)), (1, va_rf x1), (2, va_rf x2), (3, .int x3)] [] m (k18 x1 x2 x3 m)) (x1 : Option Nat) (x2 : Option Nat) (x3 : Int32) (m : MM) : Sm (QL Γ) Γ E 4 ce sl 1795 [(0, va_rf (some b)), (1, va_rf x1), (2, va_rf x2), (3, .int x3)] [] m (g_L_law_1795 xs Ln k18 x1 x2 x3 m) := by
  unfold g_L_law_1795
  refine z_aload_n C dL_law_1795 rfl 1 rfl ?_
  refine z_aload_n C dL_law_1796 rfl 0 rfl ?_
  refine z_iload_n C dL_law_1797 rfl 3 rfl ?_
  refine z_iconst (v := 1) C dL_law_1798 (by decide) ?_
  refine z_iadd C dL_law_1799 ?_
  refine z_chk (fun hj225 => ?_)
  refine z_scr C hX hbl hbA hj225 dL_law_1800 ?_
  refine z_aload_n C dL_law_1801 rfl 0 rfl ?_
  refine z_iload_n C dL_law_1802 rfl 3 rfl ?_
  refine z_iconst (v := 2) C dL_law_1803 (by decide) ?_
  refine z_iadd C dL_law_1804 ?_
  refine z_chk (fun hj226 => ?_)
  refine z_scr C hX hbl hbA hj226 dL_law_1805 ?_
  refine z_aload_n C dL_law_1806 rfl 0 rfl ?_
  refine z_iload_n C dL_law_1807 rfl 3 rfl ?_
  refine z_iconst (v := 3) C dL_law_1808 (by decide) ?_
  refine z_iadd C dL_law_1809 ?_
  refine z_chk (fun hj227 => ?_)
  refine z_scr C hX hbl hbA hj227 dL_law_1810 ?_
  refine z_aload_n C dL_law_1811 rfl 0 rfl ?_
  refine z_iload_n C dL_law_1812 rfl 3 rfl ?_
  refine z_iconst (v := 4) C dL_law_1813 (by decide) ?_
  refine z_iadd C dL_law_1814 ?_
  refine z_chk (fun hj228 => ?_)
  refine z_scr C hX hbl hbA hj228 dL_law_1815 ?_
  refine z_ck (fun a67 hr67 hk67 => ?_)
  refine z_cVI [.int (xs (Int32.toNatClampNeg (x3 + 1))), .int (xs (Int32.toNatClampNeg (x3 + 2))), .int (xs (Int32.toNatClampNeg (x3 + 3))), .int (xs (Int32.toNatClampNeg (x3 + 4)))] [] C mv_RL_157 (fun r0 m0 h0 => M_X9_by _ _ _ _ _ _ _ _ _ _ h0) rfl rfl ⟨by rw [hrm]; exact Nat.le_of_ble_eq_true rfl, by rw [hrm]; exact Nat.le_of_ble_eq_true rfl⟩ ⟨by rw [hrm]; show _ ≤ room_1.cells; omega, by rw [hrm]; show _ ≤ room_1.slots; omega⟩ hr67 hk67 rfl rfl rfl (Nat.le_of_ble_eq_true rfl) dL_law_1816 (fun r67 m67 => ?_)
  refine z_aload_n C dL_law_1819 rfl 2 rfl ?_
  refine z_aload_n C dL_law_1820 rfl 0 rfl ?_
  refine z_iload_n C dL_law_1821 rfl 3 rfl ?_
  refine z_iconst (v := 1) C dL_law_1822 (by decide) ?_
  refine z_iadd C dL_law_1823 ?_
  refine z_chk (fun hj229 => ?_)
  refine z_scr C hX hbl hbA hj229 dL_law_1824 ?_
  refine z_aload_n C dL_law_1825 rfl 0 rfl ?_
  refine z_iload_n C dL_law_1826 rfl 3 rfl ?_
  refine z_iconst (v := 2) C dL_law_1827 (by decide) ?_
  refine z_iadd C dL_law_1828 ?_
  refine z_chk (fun hj230 => ?_)
  refine z_scr C hX hbl hbA hj230 dL_law_1829 ?_
  refine z_aload_n C dL_law_1830 rfl 0 rfl ?_
  refine z_iload_n C dL_law_1831 rfl 3 rfl ?_
  refine z_iconst (v := 3) C dL_law_1832 (by decide) ?_
  refine z_iadd C dL_law_1833 ?_
  refine z_chk (fun hj231 => ?_)
  refine z_scr C hX hbl hbA hj231 dL_law_1834 ?_
  refine z_aload_n C dL_law_1835 rfl 0 rfl ?_
  refine z_iload_n C dL_law_1836 rfl 3 rfl ?_
  refine z_iconst (v := 4) C dL_law_1837 (by decide) ?_
  refine z_iadd C dL_law_1838 ?_
  refine z_chk (fun hj232 => ?_)
  refine z_scr C hX hbl hbA hj232 dL_law_1839 ?_
  refine z_ck (fun a68 hr68 hk68 => ?_)
  refine z_cVI [.int (xs (Int32.toNatClampNeg (x3 + 1))), .int (xs (Int32.toNatClampNeg (x3 + 2))), .int (xs (Int32.toNatClampNeg (x3 + 3))), .int (xs (Int32.toNatClampNeg (x3 + 4)))] [.int r67] C mv_RL_160 (fun r0 m0 h0 => M_X10_by _ _ _ _ _ _ _ _ _ _ h0) rfl rfl ⟨by rw [hrm]; exact Nat.le_of_ble_eq_true rfl, by rw [hrm]; exact Nat.le_of_ble_eq_true rfl⟩ ⟨by rw [hrm]; show _ ≤ room_1.cells; omega, by rw [hrm]; show _ ≤ room_1.slots; omega⟩ hr68 hk68 rfl rfl rfl (Nat.le_of_ble_eq_true rfl) dL_law_1840 (fun r68 m68 => ?_)
  refine z_icmp_eq (tgt := 2039) C dL_law_1843 (by decide) (fun c38 => ?_) (fun c38 => ?_)
  · refine z_wid (k := ce + 58) (n := sl + 1570) (by omega) (by omega) ?_
    exact z_sub [0, 1, 2, 3] rfl (s_L_law_2039 xs Ln C hr hrm hA hX hbl hbA hB hce hsl k18 h18 x1 x2 x3 m68)
  · refine z_iconst (v := 0) C dL_law_1846 (by decide) ?_
    exact z_none
set_option maxRecDepth 100000 in
def g_L_law_1899 (xs : Nat → Int32) (Ln : Nat) (k18 : Option Nat → Option Nat → Int32 → MM → Option (Int32 × MM)) (x1 : Option Nat) (x2 : Option Nat) (x3 : Int32) (s0 : Int32) (s1 : Option Nat) (s2 : Int32) (s3 : Int32) (s4 : Int32) (m : MM) : Option (Int32 × MM) :=
  ck m s1 11 (fun a69 => cal (f_X10_days a69 s2 s3 s4 m) (fun r69 m69 => if s0 = r69 then (g_L_law_2039 xs Ln k18 x1 x2 x3 m69) else (none)))
set_option maxHeartbeats 8000000 in
set_option maxRecDepth 100000 in
theorem s_L_law_1899 {Γ : GX} {E : EX} (xs : Nat → Int32) (Ln : Nat) {b ce sl : Nat} (C : Cx Γ E cL_law RL 4) (hr : Γ.meth.sig.returnType = ret) (hrm : Γ.rm = room_1) (hA : Γ.args = #[Value.ref b]) (hX : va_X b Ln xs Γ.s Γ.s.heap) (hbl : b < Γ.s.heap.size) (hbA : ¬ AA E b) (hB : E.base = Γ.s.heap.size) (hce : ce + 58 ≤ room_1.cells) (hsl : sl + 1570 ≤ room_1.slots) (k18 : Option Nat → Option Nat → Int32 → MM → Option (Int32 × MM)) (h18 : ∀ (x1 : Option Nat) (x2 : Option Nat) (x3 : Int32) (m : MM), Sm (QL Γ) Γ E 4 (ce + 58) (sl + 1570) 18 [(0, va_rf (some b)), (1, va_rf x1), (2, va_rf x2), (3, .int x3)] [] m (k18 x1 x2 x3 m)) (x1 : Option Nat) (x2 : Option Nat) (x3 : Int32) (s0 : Int32) (s1 : Option Nat) (s2 : Int32) (s3 : Int32) (s4 : Int32) (m : MM) : Sm (QL Γ) Γ E 4 ce sl 1899 [(0, va_rf (some b)), (1, va_rf x1), (2, va_rf x2), (3, .int x3)] [.int s4, .int s3, .int s2, va_rf s1, .int s0] m (g_L_law_1899 xs Ln k18 x1 x2 x3 s0 s1 s2 s3 s4 m) := by
  unfold g_L_law_1899
  refine z_ck (fun a69 hr69 hk69 => ?_)
  refine z_cVI [.int s2, .int s3, .int s4] [.int s0] C mv_RL_165 (fun r0 m0 h0 => M_X10_days _ _ _ _ _ _ _ _ _ h0) rfl rfl ⟨by rw [hrm]; exact Nat.le_of_ble_eq_true rfl, by rw [hrm]; exact Nat.le_of_ble_eq_true rfl⟩ ⟨by rw [hrm]; show _ ≤ room_1.cells; omega, by rw [hrm]; show _ ≤ room_1.slots; omega⟩ hr69 hk69 rfl rfl rfl (Nat.le_of_ble_eq_true rfl) dL_law_1899 (fun r69 m69 => ?_)
  refine z_icmp_eq (tgt := 2039) C dL_law_1902 (by decide) (fun c39 => ?_) (fun c39 => ?_)
  · refine z_wid (k := ce + 58) (n := sl + 1570) (by omega) (by omega) ?_
    exact z_sub [0, 1, 2, 3] rfl (s_L_law_2039 xs Ln C hr hrm hA hX hbl hbA hB hce hsl k18 h18 x1 x2 x3 m69)
  · refine z_iconst (v := 0) C dL_law_1905 (by decide) ?_
    exact z_none
set_option maxRecDepth 100000 in
def g_L_law_1872 (xs : Nat → Int32) (Ln : Nat) (k18 : Option Nat → Option Nat → Int32 → MM → Option (Int32 × MM)) (x1 : Option Nat) (x2 : Option Nat) (x3 : Int32) (s0 : Option Nat) (s1 : Int32) (s2 : Int32) (s3 : Int32) (m : MM) : Option (Int32 × MM) :=
  ck m s0 10 (fun a70 => cal (f_X9_days a70 s1 s2 s3 m) (fun r70 m70 => chk (inb (x3 + 1) Ln = true) (chk (inb (x3 + 2) Ln = true) (chk (inb (x3 + 3) Ln = true) (if (xs (Int32.toNatClampNeg (x3 + 3))) = 0 then (g_L_law_1899 xs Ln k18 x1 x2 x3 r70 x2 (xs (Int32.toNatClampNeg (x3 + 1))) (xs (Int32.toNatClampNeg (x3 + 2))) 0 m70) else (g_L_law_1899 xs Ln k18 x1 x2 x3 r70 x2 (xs (Int32.toNatClampNeg (x3 + 1))) (xs (Int32.toNatClampNeg (x3 + 2))) 1 m70))))))
set_option maxHeartbeats 8000000 in
set_option maxRecDepth 100000 in
theorem s_L_law_1872 {Γ : GX} {E : EX} (xs : Nat → Int32) (Ln : Nat) {b ce sl : Nat} (C : Cx Γ E cL_law RL 4) (hr : Γ.meth.sig.returnType = ret) (hrm : Γ.rm = room_1) (hA : Γ.args = #[Value.ref b]) (hX : va_X b Ln xs Γ.s Γ.s.heap) (hbl : b < Γ.s.heap.size) (hbA : ¬ AA E b) (hB : E.base = Γ.s.heap.size) (hce : ce + 58 ≤ room_1.cells) (hsl : sl + 1570 ≤ room_1.slots) (k18 : Option Nat → Option Nat → Int32 → MM → Option (Int32 × MM)) (h18 : ∀ (x1 : Option Nat) (x2 : Option Nat) (x3 : Int32) (m : MM), Sm (QL Γ) Γ E 4 (ce + 58) (sl + 1570) 18 [(0, va_rf (some b)), (1, va_rf x1), (2, va_rf x2), (3, .int x3)] [] m (k18 x1 x2 x3 m)) (x1 : Option Nat) (x2 : Option Nat) (x3 : Int32) (s0 : Option Nat) (s1 : Int32) (s2 : Int32) (s3 : Int32) (m : MM) : Sm (QL Γ) Γ E 4 ce sl 1872 [(0, va_rf (some b)), (1, va_rf x1), (2, va_rf x2), (3, .int x3)] [.int s3, .int s2, .int s1, va_rf s0] m (g_L_law_1872 xs Ln k18 x1 x2 x3 s0 s1 s2 s3 m) := by
  unfold g_L_law_1872
  refine z_ck (fun a70 hr70 hk70 => ?_)
  refine z_cVI [.int s1, .int s2, .int s3] [] C mv_RL_161 (fun r0 m0 h0 => M_X9_days _ _ _ _ _ _ _ _ _ h0) rfl rfl ⟨by rw [hrm]; exact Nat.le_of_ble_eq_true rfl, by rw [hrm]; exact Nat.le_of_ble_eq_true rfl⟩ ⟨by rw [hrm]; show _ ≤ room_1.cells; omega, by rw [hrm]; show _ ≤ room_1.slots; omega⟩ hr70 hk70 rfl rfl rfl (Nat.le_of_ble_eq_true rfl) dL_law_1872 (fun r70 m70 => ?_)
  refine z_aload_n C dL_law_1875 rfl 2 rfl ?_
  refine z_aload_n C dL_law_1876 rfl 0 rfl ?_
  refine z_iload_n C dL_law_1877 rfl 3 rfl ?_
  refine z_iconst (v := 1) C dL_law_1878 (by decide) ?_
  refine z_iadd C dL_law_1879 ?_
  refine z_chk (fun hj233 => ?_)
  refine z_scr C hX hbl hbA hj233 dL_law_1880 ?_
  refine z_aload_n C dL_law_1881 rfl 0 rfl ?_
  refine z_iload_n C dL_law_1882 rfl 3 rfl ?_
  refine z_iconst (v := 2) C dL_law_1883 (by decide) ?_
  refine z_iadd C dL_law_1884 ?_
  refine z_chk (fun hj234 => ?_)
  refine z_scr C hX hbl hbA hj234 dL_law_1885 ?_
  refine z_aload_n C dL_law_1886 rfl 0 rfl ?_
  refine z_iload_n C dL_law_1887 rfl 3 rfl ?_
  refine z_iconst (v := 3) C dL_law_1888 (by decide) ?_
  refine z_iadd C dL_law_1889 ?_
  refine z_chk (fun hj235 => ?_)
  refine z_scr C hX hbl hbA hj235 dL_law_1890 ?_
  refine z_if_eq (tgt := 1898) C dL_law_1891 (by decide) (fun c40 => ?_) (fun c40 => ?_)
  · refine z_iconst (v := 0) C dL_law_1898 (by decide) ?_
    exact z_sub [0, 1, 2, 3] rfl (s_L_law_1899 xs Ln C hr hrm hA hX hbl hbA hB hce hsl k18 h18 x1 x2 x3 r70 x2 (xs (Int32.toNatClampNeg (x3 + 1))) (xs (Int32.toNatClampNeg (x3 + 2))) 0 m70)
  · refine z_iconst (v := 1) C dL_law_1894 (by decide) ?_
    refine z_goto (tgt := 1899) C dL_law_1895 (by decide) ?_
    exact z_sub [0, 1, 2, 3] rfl (s_L_law_1899 xs Ln C hr hrm hA hX hbl hbA hB hce hsl k18 h18 x1 x2 x3 r70 x2 (xs (Int32.toNatClampNeg (x3 + 1))) (xs (Int32.toNatClampNeg (x3 + 2))) 1 m70)
set_option maxRecDepth 100000 in
def g_L_law_1848 (xs : Nat → Int32) (Ln : Nat) (k18 : Option Nat → Option Nat → Int32 → MM → Option (Int32 × MM)) (x1 : Option Nat) (x2 : Option Nat) (x3 : Int32) (m : MM) : Option (Int32 × MM) :=
  chk (inb (x3 + 1) Ln = true) (chk (inb (x3 + 2) Ln = true) (chk (inb (x3 + 3) Ln = true) (if (xs (Int32.toNatClampNeg (x3 + 3))) = 0 then (g_L_law_1872 xs Ln k18 x1 x2 x3 x1 (xs (Int32.toNatClampNeg (x3 + 1))) (xs (Int32.toNatClampNeg (x3 + 2))) 0 m) else (g_L_law_1872 xs Ln k18 x1 x2 x3 x1 (xs (Int32.toNatClampNeg (x3 + 1))) (xs (Int32.toNatClampNeg (x3 + 2))) 1 m))))
set_option maxHeartbeats 8000000 in
set_option maxRecDepth 100000 in
theorem s_L_law_1848 {Γ : GX} {E : EX} (xs : Nat → Int32) (Ln : Nat) {b ce sl : Nat} (C : Cx Γ E cL_law RL 4) (hr : Γ.meth.sig.returnType = ret) (hrm : Γ.rm = room_1) (hA : Γ.args = #[Value.ref b]) (hX : va_X b Ln xs Γ.s Γ.s.heap) (hbl : b < Γ.s.heap.size) (hbA : ¬ AA E b) (hB : E.base = Γ.s.heap.size) (hce : ce + 58 ≤ room_1.cells) (hsl : sl + 1570 ≤ room_1.slots) (k18 : Option Nat → Option Nat → Int32 → MM → Option (Int32 × MM)) (h18 : ∀ (x1 : Option Nat) (x2 : Option Nat) (x3 : Int32) (m : MM), Sm (QL Γ) Γ E 4 (ce + 58) (sl + 1570) 18 [(0, va_rf (some b)), (1, va_rf x1), (2, va_rf x2), (3, .int x3)] [] m (k18 x1 x2 x3 m)) (x1 : Option Nat) (x2 : Option Nat) (x3 : Int32) (m : MM) : Sm (QL Γ) Γ E 4 ce sl 1848 [(0, va_rf (some b)), (1, va_rf x1), (2, va_rf x2), (3, .int x3)] [] m (g_L_law_1848 xs Ln k18 x1 x2 x3 m) := by
  unfold g_L_law_1848
  refine z_aload_n C dL_law_1848 rfl 1 rfl ?_
  refine z_aload_n C dL_law_1849 rfl 0 rfl ?_
  refine z_iload_n C dL_law_1850 rfl 3 rfl ?_
  refine z_iconst (v := 1) C dL_law_1851 (by decide) ?_
  refine z_iadd C dL_law_1852 ?_
  refine z_chk (fun hj236 => ?_)
  refine z_scr C hX hbl hbA hj236 dL_law_1853 ?_
  refine z_aload_n C dL_law_1854 rfl 0 rfl ?_
  refine z_iload_n C dL_law_1855 rfl 3 rfl ?_
  refine z_iconst (v := 2) C dL_law_1856 (by decide) ?_
  refine z_iadd C dL_law_1857 ?_
  refine z_chk (fun hj237 => ?_)
  refine z_scr C hX hbl hbA hj237 dL_law_1858 ?_
  refine z_aload_n C dL_law_1859 rfl 0 rfl ?_
  refine z_iload_n C dL_law_1860 rfl 3 rfl ?_
  refine z_iconst (v := 3) C dL_law_1861 (by decide) ?_
  refine z_iadd C dL_law_1862 ?_
  refine z_chk (fun hj238 => ?_)
  refine z_scr C hX hbl hbA hj238 dL_law_1863 ?_
  refine z_if_eq (tgt := 1871) C dL_law_1864 (by decide) (fun c41 => ?_) (fun c41 => ?_)
  · refine z_iconst (v := 0) C dL_law_1871 (by decide) ?_
    exact z_sub [0, 1, 2, 3] rfl (s_L_law_1872 xs Ln C hr hrm hA hX hbl hbA hB hce hsl k18 h18 x1 x2 x3 x1 (xs (Int32.toNatClampNeg (x3 + 1))) (xs (Int32.toNatClampNeg (x3 + 2))) 0 m)
  · refine z_iconst (v := 1) C dL_law_1867 (by decide) ?_
    refine z_goto (tgt := 1872) C dL_law_1868 (by decide) ?_
    exact z_sub [0, 1, 2, 3] rfl (s_L_law_1872 xs Ln C hr hrm hA hX hbl hbA hB hce hsl k18 h18 x1 x2 x3 x1 (xs (Int32.toNatClampNeg (x3 + 1))) (xs (Int32.toNatClampNeg (x3 + 2))) 1 m)
set_option maxRecDepth 100000 in
def g_L_law_1907 (xs : Nat → Int32) (Ln : Nat) (k18 : Option Nat → Option Nat → Int32 → MM → Option (Int32 × MM)) (x1 : Option Nat) (x2 : Option Nat) (x3 : Int32) (m : MM) : Option (Int32 × MM) :=
  chk (inb (x3 + 1) Ln = true) (chk (inb (x3 + 2) Ln = true) (chk (inb (x3 + 3) Ln = true) (chk (inb (x3 + 4) Ln = true) (chk (inb (x3 + 5) Ln = true) (ck m x1 10 (fun a71 => cal (f_X9_feud a71 (xs (Int32.toNatClampNeg (x3 + 1))) (xs (Int32.toNatClampNeg (x3 + 2))) (xs (Int32.toNatClampNeg (x3 + 3))) (xs (Int32.toNatClampNeg (x3 + 4))) (xs (Int32.toNatClampNeg (x3 + 5))) m) (fun r71 m71 => chk (inb (x3 + 1) Ln = true) (chk (inb (x3 + 2) Ln = true) (chk (inb (x3 + 3) Ln = true) (chk (inb (x3 + 4) Ln = true) (chk (inb (x3 + 5) Ln = true) (ck m71 x2 11 (fun a72 => cal (f_X10_feud a72 (xs (Int32.toNatClampNeg (x3 + 1))) (xs (Int32.toNatClampNeg (x3 + 2))) (xs (Int32.toNatClampNeg (x3 + 3))) (xs (Int32.toNatClampNeg (x3 + 4))) (xs (Int32.toNatClampNeg (x3 + 5))) m71) (fun r72 m72 => if r71 = r72 then (g_L_law_2039 xs Ln k18 x1 x2 x3 m72) else (none)))))))))))))))
set_option maxHeartbeats 8000000 in
set_option maxRecDepth 100000 in
theorem s_L_law_1907 {Γ : GX} {E : EX} (xs : Nat → Int32) (Ln : Nat) {b ce sl : Nat} (C : Cx Γ E cL_law RL 4) (hr : Γ.meth.sig.returnType = ret) (hrm : Γ.rm = room_1) (hA : Γ.args = #[Value.ref b]) (hX : va_X b Ln xs Γ.s Γ.s.heap) (hbl : b < Γ.s.heap.size) (hbA : ¬ AA E b) (hB : E.base = Γ.s.heap.size) (hce : ce + 58 ≤ room_1.cells) (hsl : sl + 1570 ≤ room_1.slots) (k18 : Option Nat → Option Nat → Int32 → MM → Option (Int32 × MM)) (h18 : ∀ (x1 : Option Nat) (x2 : Option Nat) (x3 : Int32) (m : MM), Sm (QL Γ) Γ E 4 (ce + 58) (sl + 1570) 18 [(0, va_rf (some b)), (1, va_rf x1), (2, va_rf x2), (3, .int x3)] [] m (k18 x1 x2 x3 m)) (x1 : Option Nat) (x2 : Option Nat) (x3 : Int32) (m : MM) : Sm (QL Γ) Γ E 4 ce sl 1907 [(0, va_rf (some b)), (1, va_rf x1), (2, va_rf x2), (3, .int x3)] [] m (g_L_law_1907 xs Ln k18 x1 x2 x3 m) := by
  unfold g_L_law_1907
  refine z_aload_n C dL_law_1907 rfl 1 rfl ?_
  refine z_aload_n C dL_law_1908 rfl 0 rfl ?_
  refine z_iload_n C dL_law_1909 rfl 3 rfl ?_
  refine z_iconst (v := 1) C dL_law_1910 (by decide) ?_
  refine z_iadd C dL_law_1911 ?_
  refine z_chk (fun hj239 => ?_)
  refine z_scr C hX hbl hbA hj239 dL_law_1912 ?_
  refine z_aload_n C dL_law_1913 rfl 0 rfl ?_
  refine z_iload_n C dL_law_1914 rfl 3 rfl ?_
  refine z_iconst (v := 2) C dL_law_1915 (by decide) ?_
  refine z_iadd C dL_law_1916 ?_
  refine z_chk (fun hj240 => ?_)
  refine z_scr C hX hbl hbA hj240 dL_law_1917 ?_
  refine z_aload_n C dL_law_1918 rfl 0 rfl ?_
  refine z_iload_n C dL_law_1919 rfl 3 rfl ?_
  refine z_iconst (v := 3) C dL_law_1920 (by decide) ?_
  refine z_iadd C dL_law_1921 ?_
  refine z_chk (fun hj241 => ?_)
  refine z_scr C hX hbl hbA hj241 dL_law_1922 ?_
  refine z_aload_n C dL_law_1923 rfl 0 rfl ?_
  refine z_iload_n C dL_law_1924 rfl 3 rfl ?_
  refine z_iconst (v := 4) C dL_law_1925 (by decide) ?_
  refine z_iadd C dL_law_1926 ?_
  refine z_chk (fun hj242 => ?_)
  refine z_scr C hX hbl hbA hj242 dL_law_1927 ?_
  refine z_aload_n C dL_law_1928 rfl 0 rfl ?_
  refine z_iload_n C dL_law_1929 rfl 3 rfl ?_
  refine z_iconst (v := 5) C dL_law_1930 (by decide) ?_
  refine z_iadd C dL_law_1931 ?_
  refine z_chk (fun hj243 => ?_)
  refine z_scr C hX hbl hbA hj243 dL_law_1932 ?_
  refine z_ck (fun a71 hr71 hk71 => ?_)
  refine z_cVI [.int (xs (Int32.toNatClampNeg (x3 + 1))), .int (xs (Int32.toNatClampNeg (x3 + 2))), .int (xs (Int32.toNatClampNeg (x3 + 3))), .int (xs (Int32.toNatClampNeg (x3 + 4))), .int (xs (Int32.toNatClampNeg (x3 + 5)))] [] C mv_RL_166 (fun r0 m0 h0 => M_X9_feud _ _ _ _ _ _ _ _ _ _ _ h0) rfl rfl ⟨by rw [hrm]; exact Nat.le_of_ble_eq_true rfl, by rw [hrm]; exact Nat.le_of_ble_eq_true rfl⟩ ⟨by rw [hrm]; show _ ≤ room_1.cells; omega, by rw [hrm]; show _ ≤ room_1.slots; omega⟩ hr71 hk71 rfl rfl rfl (Nat.le_of_ble_eq_true rfl) dL_law_1933 (fun r71 m71 => ?_)
  refine z_aload_n C dL_law_1936 rfl 2 rfl ?_
  refine z_aload_n C dL_law_1937 rfl 0 rfl ?_
  refine z_iload_n C dL_law_1938 rfl 3 rfl ?_
  refine z_iconst (v := 1) C dL_law_1939 (by decide) ?_
  refine z_iadd C dL_law_1940 ?_
  refine z_chk (fun hj244 => ?_)
  refine z_scr C hX hbl hbA hj244 dL_law_1941 ?_
  refine z_aload_n C dL_law_1942 rfl 0 rfl ?_
  refine z_iload_n C dL_law_1943 rfl 3 rfl ?_
  refine z_iconst (v := 2) C dL_law_1944 (by decide) ?_
  refine z_iadd C dL_law_1945 ?_
  refine z_chk (fun hj245 => ?_)
  refine z_scr C hX hbl hbA hj245 dL_law_1946 ?_
  refine z_aload_n C dL_law_1947 rfl 0 rfl ?_
  refine z_iload_n C dL_law_1948 rfl 3 rfl ?_
  refine z_iconst (v := 3) C dL_law_1949 (by decide) ?_
  refine z_iadd C dL_law_1950 ?_
  refine z_chk (fun hj246 => ?_)
  refine z_scr C hX hbl hbA hj246 dL_law_1951 ?_
  refine z_aload_n C dL_law_1952 rfl 0 rfl ?_
  refine z_iload_n C dL_law_1953 rfl 3 rfl ?_
  refine z_iconst (v := 4) C dL_law_1954 (by decide) ?_
  refine z_iadd C dL_law_1955 ?_
  refine z_chk (fun hj247 => ?_)
  refine z_scr C hX hbl hbA hj247 dL_law_1956 ?_
  refine z_aload_n C dL_law_1957 rfl 0 rfl ?_
  refine z_iload_n C dL_law_1958 rfl 3 rfl ?_
  refine z_iconst (v := 5) C dL_law_1959 (by decide) ?_
  refine z_iadd C dL_law_1960 ?_
  refine z_chk (fun hj248 => ?_)
  refine z_scr C hX hbl hbA hj248 dL_law_1961 ?_
  refine z_ck (fun a72 hr72 hk72 => ?_)
  refine z_cVI [.int (xs (Int32.toNatClampNeg (x3 + 1))), .int (xs (Int32.toNatClampNeg (x3 + 2))), .int (xs (Int32.toNatClampNeg (x3 + 3))), .int (xs (Int32.toNatClampNeg (x3 + 4))), .int (xs (Int32.toNatClampNeg (x3 + 5)))] [.int r71] C mv_RL_169 (fun r0 m0 h0 => M_X10_feud _ _ _ _ _ _ _ _ _ _ _ h0) rfl rfl ⟨by rw [hrm]; exact Nat.le_of_ble_eq_true rfl, by rw [hrm]; exact Nat.le_of_ble_eq_true rfl⟩ ⟨by rw [hrm]; show _ ≤ room_1.cells; omega, by rw [hrm]; show _ ≤ room_1.slots; omega⟩ hr72 hk72 rfl rfl rfl (Nat.le_of_ble_eq_true rfl) dL_law_1962 (fun r72 m72 => ?_)
  refine z_icmp_eq (tgt := 2039) C dL_law_1965 (by decide) (fun c42 => ?_) (fun c42 => ?_)
  · refine z_wid (k := ce + 58) (n := sl + 1570) (by omega) (by omega) ?_
    exact z_sub [0, 1, 2, 3] rfl (s_L_law_2039 xs Ln C hr hrm hA hX hbl hbA hB hce hsl k18 h18 x1 x2 x3 m72)
  · refine z_iconst (v := 0) C dL_law_1968 (by decide) ?_
    exact z_none
set_option maxRecDepth 100000 in
def g_L_law_1970 (xs : Nat → Int32) (Ln : Nat) (k18 : Option Nat → Option Nat → Int32 → MM → Option (Int32 × MM)) (x1 : Option Nat) (x2 : Option Nat) (x3 : Int32) (m : MM) : Option (Int32 × MM) :=
  chk (inb (x3 + 1) Ln = true) (ck m x1 10 (fun a73 => cal (f_X9_count a73 (xs (Int32.toNatClampNeg (x3 + 1))) m) (fun r73 m73 => chk (inb (x3 + 1) Ln = true) (ck m73 x2 11 (fun a74 => cal (f_X10_count a74 (xs (Int32.toNatClampNeg (x3 + 1))) m73) (fun r74 m74 => if r73 = r74 then (g_L_law_2039 xs Ln k18 x1 x2 x3 m74) else (none)))))))
set_option maxHeartbeats 8000000 in
set_option maxRecDepth 100000 in
theorem s_L_law_1970 {Γ : GX} {E : EX} (xs : Nat → Int32) (Ln : Nat) {b ce sl : Nat} (C : Cx Γ E cL_law RL 4) (hr : Γ.meth.sig.returnType = ret) (hrm : Γ.rm = room_1) (hA : Γ.args = #[Value.ref b]) (hX : va_X b Ln xs Γ.s Γ.s.heap) (hbl : b < Γ.s.heap.size) (hbA : ¬ AA E b) (hB : E.base = Γ.s.heap.size) (hce : ce + 58 ≤ room_1.cells) (hsl : sl + 1570 ≤ room_1.slots) (k18 : Option Nat → Option Nat → Int32 → MM → Option (Int32 × MM)) (h18 : ∀ (x1 : Option Nat) (x2 : Option Nat) (x3 : Int32) (m : MM), Sm (QL Γ) Γ E 4 (ce + 58) (sl + 1570) 18 [(0, va_rf (some b)), (1, va_rf x1), (2, va_rf x2), (3, .int x3)] [] m (k18 x1 x2 x3 m)) (x1 : Option Nat) (x2 : Option Nat) (x3 : Int32) (m : MM) : Sm (QL Γ) Γ E 4 ce sl 1970 [(0, va_rf (some b)), (1, va_rf x1), (2, va_rf x2), (3, .int x3)] [] m (g_L_law_1970 xs Ln k18 x1 x2 x3 m) := by
  unfold g_L_law_1970
  refine z_aload_n C dL_law_1970 rfl 1 rfl ?_
  refine z_aload_n C dL_law_1971 rfl 0 rfl ?_
  refine z_iload_n C dL_law_1972 rfl 3 rfl ?_
  refine z_iconst (v := 1) C dL_law_1973 (by decide) ?_
  refine z_iadd C dL_law_1974 ?_
  refine z_chk (fun hj249 => ?_)
  refine z_scr C hX hbl hbA hj249 dL_law_1975 ?_
  refine z_ck (fun a73 hr73 hk73 => ?_)
  refine z_cVI [.int (xs (Int32.toNatClampNeg (x3 + 1)))] [] C mv_RL_170 (fun r0 m0 h0 => M_X9_count _ _ _ _ _ _ _ h0) rfl rfl ⟨by rw [hrm]; exact Nat.le_of_ble_eq_true rfl, by rw [hrm]; exact Nat.le_of_ble_eq_true rfl⟩ ⟨by rw [hrm]; show _ ≤ room_1.cells; omega, by rw [hrm]; show _ ≤ room_1.slots; omega⟩ hr73 hk73 rfl rfl rfl (Nat.le_of_ble_eq_true rfl) dL_law_1976 (fun r73 m73 => ?_)
  refine z_aload_n C dL_law_1979 rfl 2 rfl ?_
  refine z_aload_n C dL_law_1980 rfl 0 rfl ?_
  refine z_iload_n C dL_law_1981 rfl 3 rfl ?_
  refine z_iconst (v := 1) C dL_law_1982 (by decide) ?_
  refine z_iadd C dL_law_1983 ?_
  refine z_chk (fun hj250 => ?_)
  refine z_scr C hX hbl hbA hj250 dL_law_1984 ?_
  refine z_ck (fun a74 hr74 hk74 => ?_)
  refine z_cVI [.int (xs (Int32.toNatClampNeg (x3 + 1)))] [.int r73] C mv_RL_173 (fun r0 m0 h0 => M_X10_count _ _ _ _ _ _ _ h0) rfl rfl ⟨by rw [hrm]; exact Nat.le_of_ble_eq_true rfl, by rw [hrm]; exact Nat.le_of_ble_eq_true rfl⟩ ⟨by rw [hrm]; show _ ≤ room_1.cells; omega, by rw [hrm]; show _ ≤ room_1.slots; omega⟩ hr74 hk74 rfl rfl rfl (Nat.le_of_ble_eq_true rfl) dL_law_1985 (fun r74 m74 => ?_)
  refine z_icmp_eq (tgt := 2039) C dL_law_1988 (by decide) (fun c43 => ?_) (fun c43 => ?_)
  · refine z_wid (k := ce + 58) (n := sl + 1570) (by omega) (by omega) ?_
    exact z_sub [0, 1, 2, 3] rfl (s_L_law_2039 xs Ln C hr hrm hA hX hbl hbA hB hce hsl k18 h18 x1 x2 x3 m74)
  · refine z_iconst (v := 0) C dL_law_1991 (by decide) ?_
    exact z_none
set_option maxRecDepth 100000 in
def g_L_law_1993 (xs : Nat → Int32) (Ln : Nat) (k18 : Option Nat → Option Nat → Int32 → MM → Option (Int32 × MM)) (x1 : Option Nat) (x2 : Option Nat) (x3 : Int32) (m : MM) : Option (Int32 × MM) :=
  chk (inb (x3 + 1) Ln = true) (ck m x1 10 (fun a75 => cal (f_X9_image a75 (xs (Int32.toNatClampNeg (x3 + 1))) m) (fun r75 m75 => chk (inb (x3 + 1) Ln = true) (ck m75 x2 11 (fun a76 => cal (f_X10_image a76 (xs (Int32.toNatClampNeg (x3 + 1))) m75) (fun r76 m76 => if r75 = r76 then (g_L_law_2039 xs Ln k18 x1 x2 x3 m76) else (none)))))))
set_option maxHeartbeats 8000000 in
set_option maxRecDepth 100000 in
theorem s_L_law_1993 {Γ : GX} {E : EX} (xs : Nat → Int32) (Ln : Nat) {b ce sl : Nat} (C : Cx Γ E cL_law RL 4) (hr : Γ.meth.sig.returnType = ret) (hrm : Γ.rm = room_1) (hA : Γ.args = #[Value.ref b]) (hX : va_X b Ln xs Γ.s Γ.s.heap) (hbl : b < Γ.s.heap.size) (hbA : ¬ AA E b) (hB : E.base = Γ.s.heap.size) (hce : ce + 58 ≤ room_1.cells) (hsl : sl + 1570 ≤ room_1.slots) (k18 : Option Nat → Option Nat → Int32 → MM → Option (Int32 × MM)) (h18 : ∀ (x1 : Option Nat) (x2 : Option Nat) (x3 : Int32) (m : MM), Sm (QL Γ) Γ E 4 (ce + 58) (sl + 1570) 18 [(0, va_rf (some b)), (1, va_rf x1), (2, va_rf x2), (3, .int x3)] [] m (k18 x1 x2 x3 m)) (x1 : Option Nat) (x2 : Option Nat) (x3 : Int32) (m : MM) : Sm (QL Γ) Γ E 4 ce sl 1993 [(0, va_rf (some b)), (1, va_rf x1), (2, va_rf x2), (3, .int x3)] [] m (g_L_law_1993 xs Ln k18 x1 x2 x3 m) := by
  unfold g_L_law_1993
  refine z_aload_n C dL_law_1993 rfl 1 rfl ?_
  refine z_aload_n C dL_law_1994 rfl 0 rfl ?_
  refine z_iload_n C dL_law_1995 rfl 3 rfl ?_
  refine z_iconst (v := 1) C dL_law_1996 (by decide) ?_
  refine z_iadd C dL_law_1997 ?_
  refine z_chk (fun hj251 => ?_)
  refine z_scr C hX hbl hbA hj251 dL_law_1998 ?_
  refine z_ck (fun a75 hr75 hk75 => ?_)
  refine z_callV (em := emI) [.int (xs (Int32.toNatClampNeg (x3 + 1)))] [] C mv_RL_174 (fun r0 m0 h0 => M_X9_image _ _ _ _ _ _ _ h0) rfl rfl ⟨by rw [hrm]; exact Nat.le_of_ble_eq_true rfl, by rw [hrm]; exact Nat.le_of_ble_eq_true rfl⟩ hr75 hk75 rfl rfl rfl (Nat.le_of_ble_eq_true rfl) dL_law_1999 ⟨by rw [hrm]; show _ ≤ room_1.cells; omega, by rw [hrm]; show _ ≤ room_1.slots; omega⟩ (fun r75 m75 => ?_)
  refine z_aload_n C dL_law_2002 rfl 2 rfl ?_
  refine z_aload_n C dL_law_2003 rfl 0 rfl ?_
  refine z_iload_n C dL_law_2004 rfl 3 rfl ?_
  refine z_iconst (v := 1) C dL_law_2005 (by decide) ?_
  refine z_iadd C dL_law_2006 ?_
  refine z_chk (fun hj252 => ?_)
  refine z_scr C hX hbl hbA hj252 dL_law_2007 ?_
  refine z_ck (fun a76 hr76 hk76 => ?_)
  refine z_cVI [.int (xs (Int32.toNatClampNeg (x3 + 1)))] [.int r75] C mv_RL_177 (fun r0 m0 h0 => M_X10_image _ _ _ _ _ _ _ h0) rfl rfl ⟨by rw [hrm]; exact Nat.le_of_ble_eq_true rfl, by rw [hrm]; exact Nat.le_of_ble_eq_true rfl⟩ ⟨by rw [hrm]; show _ ≤ room_1.cells; omega, by rw [hrm]; show _ ≤ room_1.slots; omega⟩ hr76 hk76 rfl rfl rfl (Nat.le_of_ble_eq_true rfl) dL_law_2008 (fun r76 m76 => ?_)
  refine z_icmp_eq (tgt := 2039) C dL_law_2011 (by decide) (fun c44 => ?_) (fun c44 => ?_)
  · refine z_wid (k := ce + 58) (n := sl + 1570) (by omega) (by omega) ?_
    exact z_sub [0, 1, 2, 3] rfl (s_L_law_2039 xs Ln C hr hrm hA hX hbl hbA hB hce hsl k18 h18 x1 x2 x3 m76)
  · refine z_iconst (v := 0) C dL_law_2014 (by decide) ?_
    exact z_none
set_option maxRecDepth 100000 in
def g_L_law_2016 (xs : Nat → Int32) (Ln : Nat) (k18 : Option Nat → Option Nat → Int32 → MM → Option (Int32 × MM)) (x1 : Option Nat) (x2 : Option Nat) (x3 : Int32) (m : MM) : Option (Int32 × MM) :=
  chk (inb (x3 + 1) Ln = true) (ck m x1 10 (fun a77 => cal (f_X9_again a77 (xs (Int32.toNatClampNeg (x3 + 1))) m) (fun r77 m77 => chk (inb (x3 + 1) Ln = true) (ck m77 x2 11 (fun a78 => cal (f_X10_again a78 (xs (Int32.toNatClampNeg (x3 + 1))) m77) (fun r78 m78 => if r77 = r78 then (g_L_law_2039 xs Ln k18 x1 x2 x3 m78) else (none)))))))
set_option maxHeartbeats 8000000 in
set_option maxRecDepth 100000 in
theorem s_L_law_2016 {Γ : GX} {E : EX} (xs : Nat → Int32) (Ln : Nat) {b ce sl : Nat} (C : Cx Γ E cL_law RL 4) (hr : Γ.meth.sig.returnType = ret) (hrm : Γ.rm = room_1) (hA : Γ.args = #[Value.ref b]) (hX : va_X b Ln xs Γ.s Γ.s.heap) (hbl : b < Γ.s.heap.size) (hbA : ¬ AA E b) (hB : E.base = Γ.s.heap.size) (hce : ce + 58 ≤ room_1.cells) (hsl : sl + 1570 ≤ room_1.slots) (k18 : Option Nat → Option Nat → Int32 → MM → Option (Int32 × MM)) (h18 : ∀ (x1 : Option Nat) (x2 : Option Nat) (x3 : Int32) (m : MM), Sm (QL Γ) Γ E 4 (ce + 58) (sl + 1570) 18 [(0, va_rf (some b)), (1, va_rf x1), (2, va_rf x2), (3, .int x3)] [] m (k18 x1 x2 x3 m)) (x1 : Option Nat) (x2 : Option Nat) (x3 : Int32) (m : MM) : Sm (QL Γ) Γ E 4 ce sl 2016 [(0, va_rf (some b)), (1, va_rf x1), (2, va_rf x2), (3, .int x3)] [] m (g_L_law_2016 xs Ln k18 x1 x2 x3 m) := by
  unfold g_L_law_2016
  refine z_aload_n C dL_law_2016 rfl 1 rfl ?_
  refine z_aload_n C dL_law_2017 rfl 0 rfl ?_
  refine z_iload_n C dL_law_2018 rfl 3 rfl ?_
  refine z_iconst (v := 1) C dL_law_2019 (by decide) ?_
  refine z_iadd C dL_law_2020 ?_
  refine z_chk (fun hj253 => ?_)
  refine z_scr C hX hbl hbA hj253 dL_law_2021 ?_
  refine z_ck (fun a77 hr77 hk77 => ?_)
  refine z_cVI [.int (xs (Int32.toNatClampNeg (x3 + 1)))] [] C mv_RL_178 (fun r0 m0 h0 => M_X9_again _ _ _ _ _ _ _ h0) rfl rfl ⟨by rw [hrm]; exact Nat.le_of_ble_eq_true rfl, by rw [hrm]; exact Nat.le_of_ble_eq_true rfl⟩ ⟨by rw [hrm]; show _ ≤ room_1.cells; omega, by rw [hrm]; show _ ≤ room_1.slots; omega⟩ hr77 hk77 rfl rfl rfl (Nat.le_of_ble_eq_true rfl) dL_law_2022 (fun r77 m77 => ?_)
  refine z_aload_n C dL_law_2025 rfl 2 rfl ?_
  refine z_aload_n C dL_law_2026 rfl 0 rfl ?_
  refine z_iload_n C dL_law_2027 rfl 3 rfl ?_
  refine z_iconst (v := 1) C dL_law_2028 (by decide) ?_
  refine z_iadd C dL_law_2029 ?_
  refine z_chk (fun hj254 => ?_)
  refine z_scr C hX hbl hbA hj254 dL_law_2030 ?_
  refine z_ck (fun a78 hr78 hk78 => ?_)
  refine z_cVI [.int (xs (Int32.toNatClampNeg (x3 + 1)))] [.int r77] C mv_RL_181 (fun r0 m0 h0 => M_X10_again _ _ _ _ _ _ _ h0) rfl rfl ⟨by rw [hrm]; exact Nat.le_of_ble_eq_true rfl, by rw [hrm]; exact Nat.le_of_ble_eq_true rfl⟩ ⟨by rw [hrm]; show _ ≤ room_1.cells; omega, by rw [hrm]; show _ ≤ room_1.slots; omega⟩ hr78 hk78 rfl rfl rfl (Nat.le_of_ble_eq_true rfl) dL_law_2031 (fun r78 m78 => ?_)
  refine z_icmp_eq (tgt := 2039) C dL_law_2034 (by decide) (fun c45 => ?_) (fun c45 => ?_)
  · refine z_wid (k := ce + 58) (n := sl + 1570) (by omega) (by omega) ?_
    exact z_sub [0, 1, 2, 3] rfl (s_L_law_2039 xs Ln C hr hrm hA hX hbl hbA hB hce hsl k18 h18 x1 x2 x3 m78)
  · refine z_iconst (v := 0) C dL_law_2037 (by decide) ?_
    exact z_none
set_option maxRecDepth 100000 in
def g_L_law_18 (xs : Nat → Int32) (Ln : Nat) (k18 : Option Nat → Option Nat → Int32 → MM → Option (Int32 × MM)) (x1 : Option Nat) (x2 : Option Nat) (x3 : Int32) (m : MM) : Option (Int32 × MM) :=
  if ((Int32.ofNat Ln) - 8) < x3 then (some (1, m)) else (chk (inb x3 Ln = true) (if ((xs (Int32.toNatClampNeg x3)) &&& 63) = 0 then (g_L_law_204 xs Ln k18 x1 x2 x3 m) else (if ((xs (Int32.toNatClampNeg x3)) &&& 63) = 1 then (g_L_law_267 xs Ln k18 x1 x2 x3 m) else (if ((xs (Int32.toNatClampNeg x3)) &&& 63) = 2 then (g_L_law_290 xs Ln k18 x1 x2 x3 m) else (if ((xs (Int32.toNatClampNeg x3)) &&& 63) = 3 then (g_L_law_313 xs Ln k18 x1 x2 x3 m) else (if ((xs (Int32.toNatClampNeg x3)) &&& 63) = 4 then (g_L_law_336 xs Ln k18 x1 x2 x3 m) else (if ((xs (Int32.toNatClampNeg x3)) &&& 63) = 5 then (g_L_law_359 xs Ln k18 x1 x2 x3 m) else (if ((xs (Int32.toNatClampNeg x3)) &&& 63) = 6 then (g_L_law_392 xs Ln k18 x1 x2 x3 m) else (if ((xs (Int32.toNatClampNeg x3)) &&& 63) = 7 then (g_L_law_435 xs Ln k18 x1 x2 x3 m) else (if ((xs (Int32.toNatClampNeg x3)) &&& 63) = 8 then (g_L_law_468 xs Ln k18 x1 x2 x3 m) else (if ((xs (Int32.toNatClampNeg x3)) &&& 63) = 9 then (g_L_law_555 xs Ln k18 x1 x2 x3 m) else (if ((xs (Int32.toNatClampNeg x3)) &&& 63) = 10 then (g_L_law_598 xs Ln k18 x1 x2 x3 m) else (if ((xs (Int32.toNatClampNeg x3)) &&& 63) = 11 then (g_L_law_641 xs Ln k18 x1 x2 x3 m) else (if ((xs (Int32.toNatClampNeg x3)) &&& 63) = 12 then (g_L_law_694 xs Ln k18 x1 x2 x3 m) else (if ((xs (Int32.toNatClampNeg x3)) &&& 63) = 13 then (g_L_law_737 xs Ln k18 x1 x2 x3 m) else (if ((xs (Int32.toNatClampNeg x3)) &&& 63) = 14 then (g_L_law_780 xs Ln k18 x1 x2 x3 m) else (if ((xs (Int32.toNatClampNeg x3)) &&& 63) = 15 then (g_L_law_843 xs Ln k18 x1 x2 x3 m) else (if ((xs (Int32.toNatClampNeg x3)) &&& 63) = 16 then (g_L_law_886 xs Ln k18 x1 x2 x3 m) else (if ((xs (Int32.toNatClampNeg x3)) &&& 63) = 17 then (g_L_law_939 xs Ln k18 x1 x2 x3 m) else (if ((xs (Int32.toNatClampNeg x3)) &&& 63) = 18 then (g_L_law_992 xs Ln k18 x1 x2 x3 m) else (if ((xs (Int32.toNatClampNeg x3)) &&& 63) = 19 then (g_L_law_1079 xs Ln k18 x1 x2 x3 m) else (if ((xs (Int32.toNatClampNeg x3)) &&& 63) = 20 then (g_L_law_1142 xs Ln k18 x1 x2 x3 m) else (if ((xs (Int32.toNatClampNeg x3)) &&& 63) = 21 then (g_L_law_1217 xs Ln k18 x1 x2 x3 m) else (if ((xs (Int32.toNatClampNeg x3)) &&& 63) = 22 then (g_L_law_1260 xs Ln k18 x1 x2 x3 m) else (if ((xs (Int32.toNatClampNeg x3)) &&& 63) = 23 then (g_L_law_1283 xs Ln k18 x1 x2 x3 m) else (if ((xs (Int32.toNatClampNeg x3)) &&& 63) = 24 then (g_L_law_1362 xs Ln k18 x1 x2 x3 m) else (if ((xs (Int32.toNatClampNeg x3)) &&& 63) = 25 then (g_L_law_1405 xs Ln k18 x1 x2 x3 m) else (if ((xs (Int32.toNatClampNeg x3)) &&& 63) = 26 then (g_L_law_1474 xs Ln k18 x1 x2 x3 m) else (if ((xs (Int32.toNatClampNeg x3)) &&& 63) = 27 then (g_L_law_1517 xs Ln k18 x1 x2 x3 m) else (if ((xs (Int32.toNatClampNeg x3)) &&& 63) = 28 then (g_L_law_1560 xs Ln k18 x1 x2 x3 m) else (if ((xs (Int32.toNatClampNeg x3)) &&& 63) = 29 then (g_L_law_1613 xs Ln k18 x1 x2 x3 m) else (if ((xs (Int32.toNatClampNeg x3)) &&& 63) = 30 then (g_L_law_1656 xs Ln k18 x1 x2 x3 m) else (if ((xs (Int32.toNatClampNeg x3)) &&& 63) = 31 then (g_L_law_1709 xs Ln k18 x1 x2 x3 m) else (if ((xs (Int32.toNatClampNeg x3)) &&& 63) = 32 then (g_L_law_1752 xs Ln k18 x1 x2 x3 m) else (if ((xs (Int32.toNatClampNeg x3)) &&& 63) = 33 then (g_L_law_1795 xs Ln k18 x1 x2 x3 m) else (if ((xs (Int32.toNatClampNeg x3)) &&& 63) = 34 then (g_L_law_1848 xs Ln k18 x1 x2 x3 m) else (if ((xs (Int32.toNatClampNeg x3)) &&& 63) = 35 then (g_L_law_1907 xs Ln k18 x1 x2 x3 m) else (if ((xs (Int32.toNatClampNeg x3)) &&& 63) = 36 then (g_L_law_1970 xs Ln k18 x1 x2 x3 m) else (if ((xs (Int32.toNatClampNeg x3)) &&& 63) = 37 then (g_L_law_1993 xs Ln k18 x1 x2 x3 m) else (if ((xs (Int32.toNatClampNeg x3)) &&& 63) = 38 then (g_L_law_2016 xs Ln k18 x1 x2 x3 m) else (g_L_law_2039 xs Ln k18 x1 x2 x3 m)))))))))))))))))))))))))))))))))))))))))
set_option maxHeartbeats 8000000 in
set_option maxRecDepth 100000 in
theorem s_L_law_18 {Γ : GX} {E : EX} (xs : Nat → Int32) (Ln : Nat) {b ce sl : Nat} (C : Cx Γ E cL_law RL 4) (hr : Γ.meth.sig.returnType = ret) (hrm : Γ.rm = room_1) (hA : Γ.args = #[Value.ref b]) (hX : va_X b Ln xs Γ.s Γ.s.heap) (hbl : b < Γ.s.heap.size) (hbA : ¬ AA E b) (hB : E.base = Γ.s.heap.size) (hce : ce + 58 ≤ room_1.cells) (hsl : sl + 1570 ≤ room_1.slots) (k18 : Option Nat → Option Nat → Int32 → MM → Option (Int32 × MM)) (h18 : ∀ (x1 : Option Nat) (x2 : Option Nat) (x3 : Int32) (m : MM), Sm (QL Γ) Γ E 4 (ce + 58) (sl + 1570) 18 [(0, va_rf (some b)), (1, va_rf x1), (2, va_rf x2), (3, .int x3)] [] m (k18 x1 x2 x3 m)) (x1 : Option Nat) (x2 : Option Nat) (x3 : Int32) (m : MM) : Sm (QL Γ) Γ E 4 ce sl 18 [(0, va_rf (some b)), (1, va_rf x1), (2, va_rf x2), (3, .int x3)] [] m (g_L_law_18 xs Ln k18 x1 x2 x3 m) := by
  unfold g_L_law_18
  refine z_iload_n C dL_law_18 rfl 3 rfl ?_
  refine z_aload_n C dL_law_19 rfl 0 rfl ?_
  refine z_scl C hX hbl hbA dL_law_20 ?_
  refine z_bipush (v := 8) C dL_law_21 (by decide) ?_
  refine z_isub C dL_law_23 ?_
  refine z_icmp_gt (tgt := 2045) C dL_law_24 (by decide) (fun c46 => ?_) (fun c46 => ?_)
  · refine z_iconst (v := 1) C dL_law_2045 (by decide) ?_
    exact z_law C hr hrm hA hB (by omega) (by omega) dL_law_2046
  · refine z_aload_n C dL_law_27 rfl 0 rfl ?_
    refine z_iload_n C dL_law_28 rfl 3 rfl ?_
    refine z_chk (fun hj255 => ?_)
    refine z_scr C hX hbl hbA hj255 dL_law_29 ?_
    refine z_bipush (v := 63) C dL_law_30 (by decide) ?_
    refine z_iand C dL_law_32 ?_
    refine z_ite (fun c47 => ?_) (fun c47 => ?_)
    · refine z_tabI (v := 0) (tgt := 204) C dL_law_33 c47 (by decide) (by decide) (off := 171) (by decide) (by decide) ?_
      exact z_sub [0, 1, 2, 3] rfl (s_L_law_204 xs Ln C hr hrm hA hX hbl hbA hB hce hsl k18 h18 x1 x2 x3 m)
    refine z_ite (fun c48 => ?_) (fun c48 => ?_)
    · refine z_tabI (v := 1) (tgt := 267) C dL_law_33 c48 (by decide) (by decide) (off := 234) (by decide) (by decide) ?_
      exact z_sub [0, 1, 2, 3] rfl (s_L_law_267 xs Ln C hr hrm hA hX hbl hbA hB hce hsl k18 h18 x1 x2 x3 m)
    refine z_ite (fun c49 => ?_) (fun c49 => ?_)
    · refine z_tabI (v := 2) (tgt := 290) C dL_law_33 c49 (by decide) (by decide) (off := 257) (by decide) (by decide) ?_
      exact z_sub [0, 1, 2, 3] rfl (s_L_law_290 xs Ln C hr hrm hA hX hbl hbA hB hce hsl k18 h18 x1 x2 x3 m)
    refine z_ite (fun c50 => ?_) (fun c50 => ?_)
    · refine z_tabI (v := 3) (tgt := 313) C dL_law_33 c50 (by decide) (by decide) (off := 280) (by decide) (by decide) ?_
      exact z_sub [0, 1, 2, 3] rfl (s_L_law_313 xs Ln C hr hrm hA hX hbl hbA hB hce hsl k18 h18 x1 x2 x3 m)
    refine z_ite (fun c51 => ?_) (fun c51 => ?_)
    · refine z_tabI (v := 4) (tgt := 336) C dL_law_33 c51 (by decide) (by decide) (off := 303) (by decide) (by decide) ?_
      exact z_sub [0, 1, 2, 3] rfl (s_L_law_336 xs Ln C hr hrm hA hX hbl hbA hB hce hsl k18 h18 x1 x2 x3 m)
    refine z_ite (fun c52 => ?_) (fun c52 => ?_)
    · refine z_tabI (v := 5) (tgt := 359) C dL_law_33 c52 (by decide) (by decide) (off := 326) (by decide) (by decide) ?_
      exact z_sub [0, 1, 2, 3] rfl (s_L_law_359 xs Ln C hr hrm hA hX hbl hbA hB hce hsl k18 h18 x1 x2 x3 m)
    refine z_ite (fun c53 => ?_) (fun c53 => ?_)
    · refine z_tabI (v := 6) (tgt := 392) C dL_law_33 c53 (by decide) (by decide) (off := 359) (by decide) (by decide) ?_
      exact z_sub [0, 1, 2, 3] rfl (s_L_law_392 xs Ln C hr hrm hA hX hbl hbA hB hce hsl k18 h18 x1 x2 x3 m)
    refine z_ite (fun c54 => ?_) (fun c54 => ?_)
    · refine z_tabI (v := 7) (tgt := 435) C dL_law_33 c54 (by decide) (by decide) (off := 402) (by decide) (by decide) ?_
      exact z_sub [0, 1, 2, 3] rfl (s_L_law_435 xs Ln C hr hrm hA hX hbl hbA hB hce hsl k18 h18 x1 x2 x3 m)
    refine z_ite (fun c55 => ?_) (fun c55 => ?_)
    · refine z_tabI (v := 8) (tgt := 468) C dL_law_33 c55 (by decide) (by decide) (off := 435) (by decide) (by decide) ?_
      exact z_sub [0, 1, 2, 3] rfl (s_L_law_468 xs Ln C hr hrm hA hX hbl hbA hB hce hsl k18 h18 x1 x2 x3 m)
    refine z_ite (fun c56 => ?_) (fun c56 => ?_)
    · refine z_tabI (v := 9) (tgt := 555) C dL_law_33 c56 (by decide) (by decide) (off := 522) (by decide) (by decide) ?_
      exact z_sub [0, 1, 2, 3] rfl (s_L_law_555 xs Ln C hr hrm hA hX hbl hbA hB hce hsl k18 h18 x1 x2 x3 m)
    refine z_ite (fun c57 => ?_) (fun c57 => ?_)
    · refine z_tabI (v := 10) (tgt := 598) C dL_law_33 c57 (by decide) (by decide) (off := 565) (by decide) (by decide) ?_
      exact z_sub [0, 1, 2, 3] rfl (s_L_law_598 xs Ln C hr hrm hA hX hbl hbA hB hce hsl k18 h18 x1 x2 x3 m)
    refine z_ite (fun c58 => ?_) (fun c58 => ?_)
    · refine z_tabI (v := 11) (tgt := 641) C dL_law_33 c58 (by decide) (by decide) (off := 608) (by decide) (by decide) ?_
      exact z_sub [0, 1, 2, 3] rfl (s_L_law_641 xs Ln C hr hrm hA hX hbl hbA hB hce hsl k18 h18 x1 x2 x3 m)
    refine z_ite (fun c59 => ?_) (fun c59 => ?_)
    · refine z_tabI (v := 12) (tgt := 694) C dL_law_33 c59 (by decide) (by decide) (off := 661) (by decide) (by decide) ?_
      exact z_sub [0, 1, 2, 3] rfl (s_L_law_694 xs Ln C hr hrm hA hX hbl hbA hB hce hsl k18 h18 x1 x2 x3 m)
    refine z_ite (fun c60 => ?_) (fun c60 => ?_)
    · refine z_tabI (v := 13) (tgt := 737) C dL_law_33 c60 (by decide) (by decide) (off := 704) (by decide) (by decide) ?_
      exact z_sub [0, 1, 2, 3] rfl (s_L_law_737 xs Ln C hr hrm hA hX hbl hbA hB hce hsl k18 h18 x1 x2 x3 m)
    refine z_ite (fun c61 => ?_) (fun c61 => ?_)
    · refine z_tabI (v := 14) (tgt := 780) C dL_law_33 c61 (by decide) (by decide) (off := 747) (by decide) (by decide) ?_
      exact z_sub [0, 1, 2, 3] rfl (s_L_law_780 xs Ln C hr hrm hA hX hbl hbA hB hce hsl k18 h18 x1 x2 x3 m)
    refine z_ite (fun c62 => ?_) (fun c62 => ?_)
    · refine z_tabI (v := 15) (tgt := 843) C dL_law_33 c62 (by decide) (by decide) (off := 810) (by decide) (by decide) ?_
      exact z_sub [0, 1, 2, 3] rfl (s_L_law_843 xs Ln C hr hrm hA hX hbl hbA hB hce hsl k18 h18 x1 x2 x3 m)
    refine z_ite (fun c63 => ?_) (fun c63 => ?_)
    · refine z_tabI (v := 16) (tgt := 886) C dL_law_33 c63 (by decide) (by decide) (off := 853) (by decide) (by decide) ?_
      exact z_sub [0, 1, 2, 3] rfl (s_L_law_886 xs Ln C hr hrm hA hX hbl hbA hB hce hsl k18 h18 x1 x2 x3 m)
    refine z_ite (fun c64 => ?_) (fun c64 => ?_)
    · refine z_tabI (v := 17) (tgt := 939) C dL_law_33 c64 (by decide) (by decide) (off := 906) (by decide) (by decide) ?_
      exact z_sub [0, 1, 2, 3] rfl (s_L_law_939 xs Ln C hr hrm hA hX hbl hbA hB hce hsl k18 h18 x1 x2 x3 m)
    refine z_ite (fun c65 => ?_) (fun c65 => ?_)
    · refine z_tabI (v := 18) (tgt := 992) C dL_law_33 c65 (by decide) (by decide) (off := 959) (by decide) (by decide) ?_
      exact z_sub [0, 1, 2, 3] rfl (s_L_law_992 xs Ln C hr hrm hA hX hbl hbA hB hce hsl k18 h18 x1 x2 x3 m)
    refine z_ite (fun c66 => ?_) (fun c66 => ?_)
    · refine z_tabI (v := 19) (tgt := 1079) C dL_law_33 c66 (by decide) (by decide) (off := 1046) (by decide) (by decide) ?_
      exact z_sub [0, 1, 2, 3] rfl (s_L_law_1079 xs Ln C hr hrm hA hX hbl hbA hB hce hsl k18 h18 x1 x2 x3 m)
    refine z_ite (fun c67 => ?_) (fun c67 => ?_)
    · refine z_tabI (v := 20) (tgt := 1142) C dL_law_33 c67 (by decide) (by decide) (off := 1109) (by decide) (by decide) ?_
      exact z_sub [0, 1, 2, 3] rfl (s_L_law_1142 xs Ln C hr hrm hA hX hbl hbA hB hce hsl k18 h18 x1 x2 x3 m)
    refine z_ite (fun c68 => ?_) (fun c68 => ?_)
    · refine z_tabI (v := 21) (tgt := 1217) C dL_law_33 c68 (by decide) (by decide) (off := 1184) (by decide) (by decide) ?_
      exact z_sub [0, 1, 2, 3] rfl (s_L_law_1217 xs Ln C hr hrm hA hX hbl hbA hB hce hsl k18 h18 x1 x2 x3 m)
    refine z_ite (fun c69 => ?_) (fun c69 => ?_)
    · refine z_tabI (v := 22) (tgt := 1260) C dL_law_33 c69 (by decide) (by decide) (off := 1227) (by decide) (by decide) ?_
      exact z_sub [0, 1, 2, 3] rfl (s_L_law_1260 xs Ln C hr hrm hA hX hbl hbA hB hce hsl k18 h18 x1 x2 x3 m)
    refine z_ite (fun c70 => ?_) (fun c70 => ?_)
    · refine z_tabI (v := 23) (tgt := 1283) C dL_law_33 c70 (by decide) (by decide) (off := 1250) (by decide) (by decide) ?_
      exact z_sub [0, 1, 2, 3] rfl (s_L_law_1283 xs Ln C hr hrm hA hX hbl hbA hB hce hsl k18 h18 x1 x2 x3 m)
    refine z_ite (fun c71 => ?_) (fun c71 => ?_)
    · refine z_tabI (v := 24) (tgt := 1362) C dL_law_33 c71 (by decide) (by decide) (off := 1329) (by decide) (by decide) ?_
      exact z_sub [0, 1, 2, 3] rfl (s_L_law_1362 xs Ln C hr hrm hA hX hbl hbA hB hce hsl k18 h18 x1 x2 x3 m)
    refine z_ite (fun c72 => ?_) (fun c72 => ?_)
    · refine z_tabI (v := 25) (tgt := 1405) C dL_law_33 c72 (by decide) (by decide) (off := 1372) (by decide) (by decide) ?_
      exact z_sub [0, 1, 2, 3] rfl (s_L_law_1405 xs Ln C hr hrm hA hX hbl hbA hB hce hsl k18 h18 x1 x2 x3 m)
    refine z_ite (fun c73 => ?_) (fun c73 => ?_)
    · refine z_tabI (v := 26) (tgt := 1474) C dL_law_33 c73 (by decide) (by decide) (off := 1441) (by decide) (by decide) ?_
      exact z_sub [0, 1, 2, 3] rfl (s_L_law_1474 xs Ln C hr hrm hA hX hbl hbA hB hce hsl k18 h18 x1 x2 x3 m)
    refine z_ite (fun c74 => ?_) (fun c74 => ?_)
    · refine z_tabI (v := 27) (tgt := 1517) C dL_law_33 c74 (by decide) (by decide) (off := 1484) (by decide) (by decide) ?_
      exact z_sub [0, 1, 2, 3] rfl (s_L_law_1517 xs Ln C hr hrm hA hX hbl hbA hB hce hsl k18 h18 x1 x2 x3 m)
    refine z_ite (fun c75 => ?_) (fun c75 => ?_)
    · refine z_tabI (v := 28) (tgt := 1560) C dL_law_33 c75 (by decide) (by decide) (off := 1527) (by decide) (by decide) ?_
      exact z_sub [0, 1, 2, 3] rfl (s_L_law_1560 xs Ln C hr hrm hA hX hbl hbA hB hce hsl k18 h18 x1 x2 x3 m)
    refine z_ite (fun c76 => ?_) (fun c76 => ?_)
    · refine z_tabI (v := 29) (tgt := 1613) C dL_law_33 c76 (by decide) (by decide) (off := 1580) (by decide) (by decide) ?_
      exact z_sub [0, 1, 2, 3] rfl (s_L_law_1613 xs Ln C hr hrm hA hX hbl hbA hB hce hsl k18 h18 x1 x2 x3 m)
    refine z_ite (fun c77 => ?_) (fun c77 => ?_)
    · refine z_tabI (v := 30) (tgt := 1656) C dL_law_33 c77 (by decide) (by decide) (off := 1623) (by decide) (by decide) ?_
      exact z_sub [0, 1, 2, 3] rfl (s_L_law_1656 xs Ln C hr hrm hA hX hbl hbA hB hce hsl k18 h18 x1 x2 x3 m)
    refine z_ite (fun c78 => ?_) (fun c78 => ?_)
    · refine z_tabI (v := 31) (tgt := 1709) C dL_law_33 c78 (by decide) (by decide) (off := 1676) (by decide) (by decide) ?_
      exact z_sub [0, 1, 2, 3] rfl (s_L_law_1709 xs Ln C hr hrm hA hX hbl hbA hB hce hsl k18 h18 x1 x2 x3 m)
    refine z_ite (fun c79 => ?_) (fun c79 => ?_)
    · refine z_tabI (v := 32) (tgt := 1752) C dL_law_33 c79 (by decide) (by decide) (off := 1719) (by decide) (by decide) ?_
      exact z_sub [0, 1, 2, 3] rfl (s_L_law_1752 xs Ln C hr hrm hA hX hbl hbA hB hce hsl k18 h18 x1 x2 x3 m)
    refine z_ite (fun c80 => ?_) (fun c80 => ?_)
    · refine z_tabI (v := 33) (tgt := 1795) C dL_law_33 c80 (by decide) (by decide) (off := 1762) (by decide) (by decide) ?_
      exact z_sub [0, 1, 2, 3] rfl (s_L_law_1795 xs Ln C hr hrm hA hX hbl hbA hB hce hsl k18 h18 x1 x2 x3 m)
    refine z_ite (fun c81 => ?_) (fun c81 => ?_)
    · refine z_tabI (v := 34) (tgt := 1848) C dL_law_33 c81 (by decide) (by decide) (off := 1815) (by decide) (by decide) ?_
      exact z_sub [0, 1, 2, 3] rfl (s_L_law_1848 xs Ln C hr hrm hA hX hbl hbA hB hce hsl k18 h18 x1 x2 x3 m)
    refine z_ite (fun c82 => ?_) (fun c82 => ?_)
    · refine z_tabI (v := 35) (tgt := 1907) C dL_law_33 c82 (by decide) (by decide) (off := 1874) (by decide) (by decide) ?_
      exact z_sub [0, 1, 2, 3] rfl (s_L_law_1907 xs Ln C hr hrm hA hX hbl hbA hB hce hsl k18 h18 x1 x2 x3 m)
    refine z_ite (fun c83 => ?_) (fun c83 => ?_)
    · refine z_tabI (v := 36) (tgt := 1970) C dL_law_33 c83 (by decide) (by decide) (off := 1937) (by decide) (by decide) ?_
      exact z_sub [0, 1, 2, 3] rfl (s_L_law_1970 xs Ln C hr hrm hA hX hbl hbA hB hce hsl k18 h18 x1 x2 x3 m)
    refine z_ite (fun c84 => ?_) (fun c84 => ?_)
    · refine z_tabI (v := 37) (tgt := 1993) C dL_law_33 c84 (by decide) (by decide) (off := 1960) (by decide) (by decide) ?_
      exact z_sub [0, 1, 2, 3] rfl (s_L_law_1993 xs Ln C hr hrm hA hX hbl hbA hB hce hsl k18 h18 x1 x2 x3 m)
    refine z_ite (fun c85 => ?_) (fun c85 => ?_)
    · refine z_tabI (v := 38) (tgt := 2016) C dL_law_33 c85 (by decide) (by decide) (off := 1983) (by decide) (by decide) ?_
      exact z_sub [0, 1, 2, 3] rfl (s_L_law_2016 xs Ln C hr hrm hA hX hbl hbA hB hce hsl k18 h18 x1 x2 x3 m)
    refine z_tabO (tgt := 2039) C dL_law_33 (by have qc47 := ne_int (n := 0) c47 (by decide); have qc48 := ne_int (n := 1) c48 (by decide); have qc49 := ne_int (n := 2) c49 (by decide); have qc50 := ne_int (n := 3) c50 (by decide); have qc51 := ne_int (n := 4) c51 (by decide); have qc52 := ne_int (n := 5) c52 (by decide); have qc53 := ne_int (n := 6) c53 (by decide); have qc54 := ne_int (n := 7) c54 (by decide); have qc55 := ne_int (n := 8) c55 (by decide); have qc56 := ne_int (n := 9) c56 (by decide); have qc57 := ne_int (n := 10) c57 (by decide); have qc58 := ne_int (n := 11) c58 (by decide); have qc59 := ne_int (n := 12) c59 (by decide); have qc60 := ne_int (n := 13) c60 (by decide); have qc61 := ne_int (n := 14) c61 (by decide); have qc62 := ne_int (n := 15) c62 (by decide); have qc63 := ne_int (n := 16) c63 (by decide); have qc64 := ne_int (n := 17) c64 (by decide); have qc65 := ne_int (n := 18) c65 (by decide); have qc66 := ne_int (n := 19) c66 (by decide); have qc67 := ne_int (n := 20) c67 (by decide); have qc68 := ne_int (n := 21) c68 (by decide); have qc69 := ne_int (n := 22) c69 (by decide); have qc70 := ne_int (n := 23) c70 (by decide); have qc71 := ne_int (n := 24) c71 (by decide); have qc72 := ne_int (n := 25) c72 (by decide); have qc73 := ne_int (n := 26) c73 (by decide); have qc74 := ne_int (n := 27) c74 (by decide); have qc75 := ne_int (n := 28) c75 (by decide); have qc76 := ne_int (n := 29) c76 (by decide); have qc77 := ne_int (n := 30) c77 (by decide); have qc78 := ne_int (n := 31) c78 (by decide); have qc79 := ne_int (n := 32) c79 (by decide); have qc80 := ne_int (n := 33) c80 (by decide); have qc81 := ne_int (n := 34) c81 (by decide); have qc82 := ne_int (n := 35) c82 (by decide); have qc83 := ne_int (n := 36) c83 (by decide); have qc84 := ne_int (n := 37) c84 (by decide); have qc85 := ne_int (n := 38) c85 (by decide); omega) (by decide) ?_
    refine z_wid (k := ce + 58) (n := sl + 1570) (by omega) (by omega) ?_
    exact z_sub [0, 1, 2, 3] rfl (s_L_law_2039 xs Ln C hr hrm hA hX hbl hbA hB hce hsl k18 h18 x1 x2 x3 m)
