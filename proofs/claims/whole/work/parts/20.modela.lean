theorem dX10_init_0 : decode cX10_init 0 = .ok (.aload_n 0, 1) := by decide +kernel
theorem dX10_init_1 : decode cX10_init 1 = .ok (.invokespecial 1, 3) := by decide +kernel
theorem dX10_init_4 : decode cX10_init 4 = .ok (.aload_n 0, 1) := by decide +kernel
theorem dX10_init_5 : decode cX10_init 5 = .ok (.sipush 2000, 3) := by decide +kernel
theorem dX10_init_8 : decode cX10_init 8 = .ok (.newarray .byte, 2) := by decide +kernel
theorem dX10_init_10 : decode cX10_init 10 = .ok (.putfield 7, 3) := by decide +kernel
theorem dX10_init_13 : decode cX10_init 13 = .ok (.aload_n 0, 1) := by decide +kernel
theorem dX10_init_14 : decode cX10_init 14 = .ok (.iconst 4, 1) := by decide +kernel
theorem dX10_init_15 : decode cX10_init 15 = .ok (.newarray .int, 2) := by decide +kernel
theorem dX10_init_17 : decode cX10_init 17 = .ok (.putfield 13, 3) := by decide +kernel
theorem dX10_init_20 : decode cX10_init 20 = .ok (.aload_n 0, 1) := by decide +kernel
theorem dX10_init_21 : decode cX10_init 21 = .ok (.iconst 4, 1) := by decide +kernel
theorem dX10_init_22 : decode cX10_init 22 = .ok (.newarray .int, 2) := by decide +kernel
theorem dX10_init_24 : decode cX10_init 24 = .ok (.putfield 17, 3) := by decide +kernel
theorem dX10_init_27 : decode cX10_init 27 = .ok (.aload_n 0, 1) := by decide +kernel
theorem dX10_init_28 : decode cX10_init 28 = .ok (.iconst 4, 1) := by decide +kernel
theorem dX10_init_29 : decode cX10_init 29 = .ok (.newarray .int, 2) := by decide +kernel
theorem dX10_init_31 : decode cX10_init 31 = .ok (.putfield 20, 3) := by decide +kernel
theorem dX10_init_34 : decode cX10_init 34 = .ok (.aload_n 0, 1) := by decide +kernel
theorem dX10_init_35 : decode cX10_init 35 = .ok (.iconst 4, 1) := by decide +kernel
theorem dX10_init_36 : decode cX10_init 36 = .ok (.newarray .int, 2) := by decide +kernel
theorem dX10_init_38 : decode cX10_init 38 = .ok (.putfield 23, 3) := by decide +kernel
theorem dX10_init_41 : decode cX10_init 41 = .ok (.aload_n 0, 1) := by decide +kernel
theorem dX10_init_42 : decode cX10_init 42 = .ok (.sipush 384, 3) := by decide +kernel
theorem dX10_init_45 : decode cX10_init 45 = .ok (.newarray .int, 2) := by decide +kernel
theorem dX10_init_47 : decode cX10_init 47 = .ok (.putfield 26, 3) := by decide +kernel
theorem dX10_init_50 : decode cX10_init 50 = .ok (.aload_n 0, 1) := by decide +kernel
theorem dX10_init_51 : decode cX10_init 51 = .ok (.sipush 144, 3) := by decide +kernel
theorem dX10_init_54 : decode cX10_init 54 = .ok (.newarray .int, 2) := by decide +kernel
theorem dX10_init_56 : decode cX10_init 56 = .ok (.putfield 29, 3) := by decide +kernel
theorem dX10_init_59 : decode cX10_init 59 = .ok (.aload_n 0, 1) := by decide +kernel
theorem dX10_init_60 : decode cX10_init 60 = .ok (.sipush 144, 3) := by decide +kernel
theorem dX10_init_63 : decode cX10_init 63 = .ok (.newarray .int, 2) := by decide +kernel
theorem dX10_init_65 : decode cX10_init 65 = .ok (.putfield 32, 3) := by decide +kernel
theorem dX10_init_68 : decode cX10_init 68 = .ok (.aload_n 0, 1) := by decide +kernel
theorem dX10_init_69 : decode cX10_init 69 = .ok (.sipush 144, 3) := by decide +kernel
theorem dX10_init_72 : decode cX10_init 72 = .ok (.newarray .int, 2) := by decide +kernel
theorem dX10_init_74 : decode cX10_init 74 = .ok (.putfield 35, 3) := by decide +kernel
theorem dX10_init_77 : decode cX10_init 77 = .ok (.aload_n 0, 1) := by decide +kernel
theorem dX10_init_78 : decode cX10_init 78 = .ok (.sipush 144, 3) := by decide +kernel
theorem dX10_init_81 : decode cX10_init 81 = .ok (.newarray .int, 2) := by decide +kernel
theorem dX10_init_83 : decode cX10_init 83 = .ok (.putfield 38, 3) := by decide +kernel
theorem dX10_init_86 : decode cX10_init 86 = .ok (.aload_n 0, 1) := by decide +kernel
theorem dX10_init_87 : decode cX10_init 87 = .ok (.sipush 144, 3) := by decide +kernel
theorem dX10_init_90 : decode cX10_init 90 = .ok (.newarray .int, 2) := by decide +kernel
theorem dX10_init_92 : decode cX10_init 92 = .ok (.putfield 41, 3) := by decide +kernel
theorem dX10_init_95 : decode cX10_init 95 = .ok (.aload_n 0, 1) := by decide +kernel
theorem dX10_init_96 : decode cX10_init 96 = .ok (.sipush 144, 3) := by decide +kernel
theorem dX10_init_99 : decode cX10_init 99 = .ok (.newarray .int, 2) := by decide +kernel
theorem dX10_init_101 : decode cX10_init 101 = .ok (.putfield 44, 3) := by decide +kernel
theorem dX10_init_104 : decode cX10_init 104 = .ok (.aload_n 0, 1) := by decide +kernel
theorem dX10_init_105 : decode cX10_init 105 = .ok (.sipush 144, 3) := by decide +kernel
theorem dX10_init_108 : decode cX10_init 108 = .ok (.newarray .int, 2) := by decide +kernel
theorem dX10_init_110 : decode cX10_init 110 = .ok (.putfield 47, 3) := by decide +kernel
theorem dX10_init_113 : decode cX10_init 113 = .ok (.aload_n 0, 1) := by decide +kernel
theorem dX10_init_114 : decode cX10_init 114 = .ok (.sipush 144, 3) := by decide +kernel
theorem dX10_init_117 : decode cX10_init 117 = .ok (.newarray .int, 2) := by decide +kernel
theorem dX10_init_119 : decode cX10_init 119 = .ok (.putfield 50, 3) := by decide +kernel
theorem dX10_init_122 : decode cX10_init 122 = .ok (.aload_n 0, 1) := by decide +kernel
theorem dX10_init_123 : decode cX10_init 123 = .ok (.sipush 168, 3) := by decide +kernel
theorem dX10_init_126 : decode cX10_init 126 = .ok (.newarray .int, 2) := by decide +kernel
theorem dX10_init_128 : decode cX10_init 128 = .ok (.putfield 53, 3) := by decide +kernel
theorem dX10_init_131 : decode cX10_init 131 = .ok (.aload_n 0, 1) := by decide +kernel
theorem dX10_init_132 : decode cX10_init 132 = .ok (.sipush 168, 3) := by decide +kernel
theorem dX10_init_135 : decode cX10_init 135 = .ok (.newarray .int, 2) := by decide +kernel
theorem dX10_init_137 : decode cX10_init 137 = .ok (.putfield 56, 3) := by decide +kernel
theorem dX10_init_140 : decode cX10_init 140 = .ok (.aload_n 0, 1) := by decide +kernel
theorem dX10_init_141 : decode cX10_init 141 = .ok (.sipush 168, 3) := by decide +kernel
theorem dX10_init_144 : decode cX10_init 144 = .ok (.newarray .int, 2) := by decide +kernel
theorem dX10_init_146 : decode cX10_init 146 = .ok (.putfield 59, 3) := by decide +kernel
theorem dX10_init_149 : decode cX10_init 149 = .ok (.aload_n 0, 1) := by decide +kernel
theorem dX10_init_150 : decode cX10_init 150 = .ok (.sipush 168, 3) := by decide +kernel
theorem dX10_init_153 : decode cX10_init 153 = .ok (.newarray .int, 2) := by decide +kernel
theorem dX10_init_155 : decode cX10_init 155 = .ok (.putfield 62, 3) := by decide +kernel
theorem dX10_init_158 : decode cX10_init 158 = .ok (.aload_n 0, 1) := by decide +kernel
theorem dX10_init_159 : decode cX10_init 159 = .ok (.sipush 168, 3) := by decide +kernel
theorem dX10_init_162 : decode cX10_init 162 = .ok (.newarray .int, 2) := by decide +kernel
theorem dX10_init_164 : decode cX10_init 164 = .ok (.putfield 65, 3) := by decide +kernel
theorem dX10_init_167 : decode cX10_init 167 = .ok (.aload_n 0, 1) := by decide +kernel
theorem dX10_init_168 : decode cX10_init 168 = .ok (.sipush 144, 3) := by decide +kernel
theorem dX10_init_171 : decode cX10_init 171 = .ok (.newarray .int, 2) := by decide +kernel
theorem dX10_init_173 : decode cX10_init 173 = .ok (.putfield 68, 3) := by decide +kernel
theorem dX10_init_176 : decode cX10_init 176 = .ok (.aload_n 0, 1) := by decide +kernel
theorem dX10_init_177 : decode cX10_init 177 = .ok (.sipush 144, 3) := by decide +kernel
theorem dX10_init_180 : decode cX10_init 180 = .ok (.newarray .int, 2) := by decide +kernel
theorem dX10_init_182 : decode cX10_init 182 = .ok (.putfield 71, 3) := by decide +kernel
theorem dX10_init_185 : decode cX10_init 185 = .ok (.aload_n 0, 1) := by decide +kernel
theorem dX10_init_186 : decode cX10_init 186 = .ok (.sipush 144, 3) := by decide +kernel
theorem dX10_init_189 : decode cX10_init 189 = .ok (.newarray .int, 2) := by decide +kernel
theorem dX10_init_191 : decode cX10_init 191 = .ok (.putfield 74, 3) := by decide +kernel
theorem dX10_init_194 : decode cX10_init 194 = .ok (.aload_n 0, 1) := by decide +kernel
theorem dX10_init_195 : decode cX10_init 195 = .ok (.sipush 144, 3) := by decide +kernel
theorem dX10_init_198 : decode cX10_init 198 = .ok (.newarray .int, 2) := by decide +kernel
theorem dX10_init_200 : decode cX10_init 200 = .ok (.putfield 77, 3) := by decide +kernel
theorem dX10_init_203 : decode cX10_init 203 = .ok (.aload_n 0, 1) := by decide +kernel
theorem dX10_init_204 : decode cX10_init 204 = .ok (.sipush 144, 3) := by decide +kernel
theorem dX10_init_207 : decode cX10_init 207 = .ok (.newarray .int, 2) := by decide +kernel
theorem dX10_init_209 : decode cX10_init 209 = .ok (.putfield 80, 3) := by decide +kernel
theorem dX10_init_212 : decode cX10_init 212 = .ok (.aload_n 0, 1) := by decide +kernel
theorem dX10_init_213 : decode cX10_init 213 = .ok (.sipush 144, 3) := by decide +kernel
theorem dX10_init_216 : decode cX10_init 216 = .ok (.newarray .int, 2) := by decide +kernel
theorem dX10_init_218 : decode cX10_init 218 = .ok (.putfield 83, 3) := by decide +kernel
theorem dX10_init_221 : decode cX10_init 221 = .ok (.aload_n 0, 1) := by decide +kernel
theorem dX10_init_222 : decode cX10_init 222 = .ok (.bipush 36, 2) := by decide +kernel
theorem dX10_init_224 : decode cX10_init 224 = .ok (.newarray .int, 2) := by decide +kernel
theorem dX10_init_226 : decode cX10_init 226 = .ok (.putfield 86, 3) := by decide +kernel
theorem dX10_init_229 : decode cX10_init 229 = .ok (.aload_n 0, 1) := by decide +kernel
theorem dX10_init_230 : decode cX10_init 230 = .ok (.bipush 36, 2) := by decide +kernel
theorem dX10_init_232 : decode cX10_init 232 = .ok (.newarray .int, 2) := by decide +kernel
theorem dX10_init_234 : decode cX10_init 234 = .ok (.putfield 89, 3) := by decide +kernel
theorem dX10_init_237 : decode cX10_init 237 = .ok (.aload_n 0, 1) := by decide +kernel
theorem dX10_init_238 : decode cX10_init 238 = .ok (.iconst 4, 1) := by decide +kernel
theorem dX10_init_239 : decode cX10_init 239 = .ok (.newarray .int, 2) := by decide +kernel
theorem dX10_init_241 : decode cX10_init 241 = .ok (.putfield 92, 3) := by decide +kernel
theorem dX10_init_244 : decode cX10_init 244 = .ok (.aload_n 0, 1) := by decide +kernel
theorem dX10_init_245 : decode cX10_init 245 = .ok (.bipush 12, 2) := by decide +kernel
theorem dX10_init_247 : decode cX10_init 247 = .ok (.newarray .int, 2) := by decide +kernel
theorem dX10_init_249 : decode cX10_init 249 = .ok (.putfield 95, 3) := by decide +kernel
theorem dX10_init_252 : decode cX10_init 252 = .ok (.aload_n 0, 1) := by decide +kernel
theorem dX10_init_253 : decode cX10_init 253 = .ok (.bipush 12, 2) := by decide +kernel
theorem dX10_init_255 : decode cX10_init 255 = .ok (.newarray .int, 2) := by decide +kernel
theorem dX10_init_257 : decode cX10_init 257 = .ok (.putfield 98, 3) := by decide +kernel
theorem dX10_init_260 : decode cX10_init 260 = .ok (.aload_n 0, 1) := by decide +kernel
theorem dX10_init_261 : decode cX10_init 261 = .ok (.bipush 12, 2) := by decide +kernel
theorem dX10_init_263 : decode cX10_init 263 = .ok (.newarray .int, 2) := by decide +kernel
theorem dX10_init_265 : decode cX10_init 265 = .ok (.putfield 101, 3) := by decide +kernel
theorem dX10_init_268 : decode cX10_init 268 = .ok (.aload_n 0, 1) := by decide +kernel
theorem dX10_init_269 : decode cX10_init 269 = .ok (.bipush 12, 2) := by decide +kernel
theorem dX10_init_271 : decode cX10_init 271 = .ok (.newarray .int, 2) := by decide +kernel
theorem dX10_init_273 : decode cX10_init 273 = .ok (.putfield 104, 3) := by decide +kernel
theorem dX10_init_276 : decode cX10_init 276 = .ok (.aload_n 0, 1) := by decide +kernel
theorem dX10_init_277 : decode cX10_init 277 = .ok (.bipush 120, 2) := by decide +kernel
theorem dX10_init_279 : decode cX10_init 279 = .ok (.newarray .int, 2) := by decide +kernel
theorem dX10_init_281 : decode cX10_init 281 = .ok (.putfield 107, 3) := by decide +kernel
theorem dX10_init_284 : decode cX10_init 284 = .ok (.aload_n 0, 1) := by decide +kernel
theorem dX10_init_285 : decode cX10_init 285 = .ok (.bipush 120, 2) := by decide +kernel
theorem dX10_init_287 : decode cX10_init 287 = .ok (.newarray .int, 2) := by decide +kernel
theorem dX10_init_289 : decode cX10_init 289 = .ok (.putfield 110, 3) := by decide +kernel
theorem dX10_init_292 : decode cX10_init 292 = .ok (.aload_n 0, 1) := by decide +kernel
theorem dX10_init_293 : decode cX10_init 293 = .ok (.bipush 120, 2) := by decide +kernel
theorem dX10_init_295 : decode cX10_init 295 = .ok (.newarray .int, 2) := by decide +kernel
theorem dX10_init_297 : decode cX10_init 297 = .ok (.putfield 113, 3) := by decide +kernel
theorem dX10_init_300 : decode cX10_init 300 = .ok (.aload_n 0, 1) := by decide +kernel
theorem dX10_init_301 : decode cX10_init 301 = .ok (.bipush 120, 2) := by decide +kernel
theorem dX10_init_303 : decode cX10_init 303 = .ok (.newarray .int, 2) := by decide +kernel
theorem dX10_init_305 : decode cX10_init 305 = .ok (.putfield 116, 3) := by decide +kernel
theorem dX10_init_308 : decode cX10_init 308 = .ok (.aload_n 0, 1) := by decide +kernel
theorem dX10_init_309 : decode cX10_init 309 = .ok (.bipush 120, 2) := by decide +kernel
theorem dX10_init_311 : decode cX10_init 311 = .ok (.newarray .int, 2) := by decide +kernel
theorem dX10_init_313 : decode cX10_init 313 = .ok (.putfield 119, 3) := by decide +kernel
theorem dX10_init_316 : decode cX10_init 316 = .ok (.aload_n 0, 1) := by decide +kernel
theorem dX10_init_317 : decode cX10_init 317 = .ok (.bipush 6, 2) := by decide +kernel
theorem dX10_init_319 : decode cX10_init 319 = .ok (.newarray .int, 2) := by decide +kernel
theorem dX10_init_321 : decode cX10_init 321 = .ok (.putfield 122, 3) := by decide +kernel
theorem dX10_init_324 : decode cX10_init 324 = .ok (.aload_n 0, 1) := by decide +kernel
theorem dX10_init_325 : decode cX10_init 325 = .ok (.bipush 32, 2) := by decide +kernel
theorem dX10_init_327 : decode cX10_init 327 = .ok (.newarray .int, 2) := by decide +kernel
theorem dX10_init_329 : decode cX10_init 329 = .ok (.putfield 125, 3) := by decide +kernel
theorem dX10_init_332 : decode cX10_init 332 = .ok (.aload_n 0, 1) := by decide +kernel
theorem dX10_init_333 : decode cX10_init 333 = .ok (.bipush 91, 2) := by decide +kernel
theorem dX10_init_335 : decode cX10_init 335 = .ok (.newarray .int, 2) := by decide +kernel
theorem dX10_init_337 : decode cX10_init 337 = .ok (.putfield 128, 3) := by decide +kernel
theorem dX10_init_340 : decode cX10_init 340 = .ok (.aload_n 0, 1) := by decide +kernel
theorem dX10_init_341 : decode cX10_init 341 = .ok (.bipush 75, 2) := by decide +kernel
theorem dX10_init_343 : decode cX10_init 343 = .ok (.newarray .int, 2) := by decide +kernel
theorem dX10_init_345 : decode cX10_init 345 = .ok (.putfield 131, 3) := by decide +kernel
theorem dX10_init_348 : decode cX10_init 348 = .ok (.aload_n 0, 1) := by decide +kernel
theorem dX10_init_349 : decode cX10_init 349 = .ok (.bipush 39, 2) := by decide +kernel
theorem dX10_init_351 : decode cX10_init 351 = .ok (.newarray .int, 2) := by decide +kernel
theorem dX10_init_353 : decode cX10_init 353 = .ok (.putfield 134, 3) := by decide +kernel
theorem dX10_init_356 : decode cX10_init 356 = .ok (.aload_n 0, 1) := by decide +kernel
theorem dX10_init_357 : decode cX10_init 357 = .ok (.bipush 39, 2) := by decide +kernel
theorem dX10_init_359 : decode cX10_init 359 = .ok (.newarray .int, 2) := by decide +kernel
theorem dX10_init_361 : decode cX10_init 361 = .ok (.putfield 137, 3) := by decide +kernel
theorem dX10_init_364 : decode cX10_init 364 = .ok (.aload_n 0, 1) := by decide +kernel
theorem dX10_init_365 : decode cX10_init 365 = .ok (.bipush 55, 2) := by decide +kernel
theorem dX10_init_367 : decode cX10_init 367 = .ok (.newarray .int, 2) := by decide +kernel
theorem dX10_init_369 : decode cX10_init 369 = .ok (.putfield 140, 3) := by decide +kernel
theorem dX10_init_372 : decode cX10_init 372 = .ok (.aload_n 0, 1) := by decide +kernel
theorem dX10_init_373 : decode cX10_init 373 = .ok (.bipush 15, 2) := by decide +kernel
theorem dX10_init_375 : decode cX10_init 375 = .ok (.newarray .int, 2) := by decide +kernel
theorem dX10_init_377 : decode cX10_init 377 = .ok (.putfield 143, 3) := by decide +kernel
theorem dX10_init_380 : decode cX10_init 380 = .ok (.aload_n 0, 1) := by decide +kernel
theorem dX10_init_381 : decode cX10_init 381 = .ok (.bipush 15, 2) := by decide +kernel
theorem dX10_init_383 : decode cX10_init 383 = .ok (.newarray .int, 2) := by decide +kernel
theorem dX10_init_385 : decode cX10_init 385 = .ok (.putfield 146, 3) := by decide +kernel
theorem dX10_init_388 : decode cX10_init 388 = .ok (.aload_n 0, 1) := by decide +kernel
theorem dX10_init_389 : decode cX10_init 389 = .ok (.bipush 15, 2) := by decide +kernel
theorem dX10_init_391 : decode cX10_init 391 = .ok (.newarray .int, 2) := by decide +kernel
theorem dX10_init_393 : decode cX10_init 393 = .ok (.putfield 149, 3) := by decide +kernel
theorem dX10_init_396 : decode cX10_init 396 = .ok (.aload_n 0, 1) := by decide +kernel
theorem dX10_init_397 : decode cX10_init 397 = .ok (.bipush 15, 2) := by decide +kernel
theorem dX10_init_399 : decode cX10_init 399 = .ok (.newarray .int, 2) := by decide +kernel
theorem dX10_init_401 : decode cX10_init 401 = .ok (.putfield 152, 3) := by decide +kernel
theorem dX10_init_404 : decode cX10_init 404 = .ok (.aload_n 0, 1) := by decide +kernel
theorem dX10_init_405 : decode cX10_init 405 = .ok (.bipush 15, 2) := by decide +kernel
theorem dX10_init_407 : decode cX10_init 407 = .ok (.newarray .int, 2) := by decide +kernel
theorem dX10_init_409 : decode cX10_init 409 = .ok (.putfield 155, 3) := by decide +kernel
theorem dX10_init_412 : decode cX10_init 412 = .ok (.aload_n 0, 1) := by decide +kernel
theorem dX10_init_413 : decode cX10_init 413 = .ok (.sipush 1440, 3) := by decide +kernel
theorem dX10_init_416 : decode cX10_init 416 = .ok (.newarray .int, 2) := by decide +kernel
theorem dX10_init_418 : decode cX10_init 418 = .ok (.putfield 158, 3) := by decide +kernel
theorem dX10_init_421 : decode cX10_init 421 = .ok (.aload_n 0, 1) := by decide +kernel
theorem dX10_init_422 : decode cX10_init 422 = .ok (.sipush 1440, 3) := by decide +kernel
theorem dX10_init_425 : decode cX10_init 425 = .ok (.newarray .int, 2) := by decide +kernel
theorem dX10_init_427 : decode cX10_init 427 = .ok (.putfield 161, 3) := by decide +kernel
theorem dX10_init_430 : decode cX10_init 430 = .ok (.aload_n 0, 1) := by decide +kernel
theorem dX10_init_431 : decode cX10_init 431 = .ok (.sipush 1440, 3) := by decide +kernel
theorem dX10_init_434 : decode cX10_init 434 = .ok (.newarray .int, 2) := by decide +kernel
theorem dX10_init_436 : decode cX10_init 436 = .ok (.putfield 164, 3) := by decide +kernel
theorem dX10_init_439 : decode cX10_init 439 = .ok (.aload_n 0, 1) := by decide +kernel
theorem dX10_init_440 : decode cX10_init 440 = .ok (.iconst 3, 1) := by decide +kernel
theorem dX10_init_441 : decode cX10_init 441 = .ok (.newarray .int, 2) := by decide +kernel
theorem dX10_init_443 : decode cX10_init 443 = .ok (.putfield 167, 3) := by decide +kernel
theorem dX10_init_446 : decode cX10_init 446 = .ok (.aload_n 0, 1) := by decide +kernel
theorem dX10_init_447 : decode cX10_init 447 = .ok (.bipush 64, 2) := by decide +kernel
theorem dX10_init_449 : decode cX10_init 449 = .ok (.newarray .boolean, 2) := by decide +kernel
theorem dX10_init_451 : decode cX10_init 451 = .ok (.putfield 170, 3) := by decide +kernel
theorem dX10_init_454 : decode cX10_init 454 = .ok (.aload_n 0, 1) := by decide +kernel
theorem dX10_init_455 : decode cX10_init 455 = .ok (.bipush 64, 2) := by decide +kernel
theorem dX10_init_457 : decode cX10_init 457 = .ok (.newarray .boolean, 2) := by decide +kernel
theorem dX10_init_459 : decode cX10_init 459 = .ok (.putfield 174, 3) := by decide +kernel
theorem dX10_init_462 : decode cX10_init 462 = .ok (.aload_n 0, 1) := by decide +kernel
theorem dX10_init_463 : decode cX10_init 463 = .ok (.iconst 3, 1) := by decide +kernel
theorem dX10_init_464 : decode cX10_init 464 = .ok (.newarray .boolean, 2) := by decide +kernel
theorem dX10_init_466 : decode cX10_init 466 = .ok (.putfield 177, 3) := by decide +kernel
theorem dX10_init_469 : decode cX10_init 469 = .ok (.aload_n 0, 1) := by decide +kernel
theorem dX10_init_470 : decode cX10_init 470 = .ok (.getfield 20, 3) := by decide +kernel
theorem dX10_init_473 : decode cX10_init 473 = .ok (.iconst 0, 1) := by decide +kernel
theorem dX10_init_474 : decode cX10_init 474 = .ok (.iconst (-1), 1) := by decide +kernel
theorem dX10_init_475 : decode cX10_init 475 = .ok (.iastore, 1) := by decide +kernel
theorem dX10_init_476 : decode cX10_init 476 = .ok (.return_, 1) := by decide +kernel
def rmX10_init : Room := { frames := 1, cells := 56, slots := 10846, locals := 20 }
set_option maxRecDepth 100000 in
def f_X10_init (th : Nat) (m : MM) : Option (Unit × MM) :=
  bnd m.S (fun a1 => bnd (m.nw 21 2000) (fun m1 => chk (m1.K th = 11) (bnd (m1.sR 1101 th 0 (some a1)) (fun m2 => bnd m2.S (fun a2 => bnd (m2.nw 22 4) (fun m3 => chk (m3.K th = 11) (bnd (m3.sR 1102 th 0 (some a2)) (fun m4 => bnd m4.S (fun a3 => bnd (m4.nw 22 4) (fun m5 => chk (m5.K th = 11) (bnd (m5.sR 1103 th 0 (some a3)) (fun m6 => bnd m6.S (fun a4 => bnd (m6.nw 22 4) (fun m7 => chk (m7.K th = 11) (bnd (m7.sR 1104 th 0 (some a4)) (fun m8 => bnd m8.S (fun a5 => bnd (m8.nw 22 4) (fun m9 => chk (m9.K th = 11) (bnd (m9.sR 1105 th 0 (some a5)) (fun m10 => bnd m10.S (fun a6 => bnd (m10.nw 22 384) (fun m11 => chk (m11.K th = 11) (bnd (m11.sR 1106 th 0 (some a6)) (fun m12 => bnd m12.S (fun a7 => bnd (m12.nw 22 144) (fun m13 => chk (m13.K th = 11) (bnd (m13.sR 1107 th 0 (some a7)) (fun m14 => bnd m14.S (fun a8 => bnd (m14.nw 22 144) (fun m15 => chk (m15.K th = 11) (bnd (m15.sR 1108 th 0 (some a8)) (fun m16 => bnd m16.S (fun a9 => bnd (m16.nw 22 144) (fun m17 => chk (m17.K th = 11) (bnd (m17.sR 1109 th 0 (some a9)) (fun m18 => bnd m18.S (fun a10 => bnd (m18.nw 22 144) (fun m19 => chk (m19.K th = 11) (bnd (m19.sR 1110 th 0 (some a10)) (fun m20 => bnd m20.S (fun a11 => bnd (m20.nw 22 144) (fun m21 => chk (m21.K th = 11) (bnd (m21.sR 1111 th 0 (some a11)) (fun m22 => bnd m22.S (fun a12 => bnd (m22.nw 22 144) (fun m23 => chk (m23.K th = 11) (bnd (m23.sR 1112 th 0 (some a12)) (fun m24 => bnd m24.S (fun a13 => bnd (m24.nw 22 144) (fun m25 => chk (m25.K th = 11) (bnd (m25.sR 1113 th 0 (some a13)) (fun m26 => bnd m26.S (fun a14 => bnd (m26.nw 22 144) (fun m27 => chk (m27.K th = 11) (bnd (m27.sR 1114 th 0 (some a14)) (fun m28 => bnd m28.S (fun a15 => bnd (m28.nw 22 168) (fun m29 => chk (m29.K th = 11) (bnd (m29.sR 1115 th 0 (some a15)) (fun m30 => bnd m30.S (fun a16 => bnd (m30.nw 22 168) (fun m31 => chk (m31.K th = 11) (bnd (m31.sR 1116 th 0 (some a16)) (fun m32 => bnd m32.S (fun a17 => bnd (m32.nw 22 168) (fun m33 => chk (m33.K th = 11) (bnd (m33.sR 1117 th 0 (some a17)) (fun m34 => bnd m34.S (fun a18 => bnd (m34.nw 22 168) (fun m35 => chk (m35.K th = 11) (bnd (m35.sR 1118 th 0 (some a18)) (fun m36 => bnd m36.S (fun a19 => bnd (m36.nw 22 168) (fun m37 => chk (m37.K th = 11) (bnd (m37.sR 1119 th 0 (some a19)) (fun m38 => bnd m38.S (fun a20 => bnd (m38.nw 22 144) (fun m39 => chk (m39.K th = 11) (bnd (m39.sR 1120 th 0 (some a20)) (fun m40 => bnd m40.S (fun a21 => bnd (m40.nw 22 144) (fun m41 => chk (m41.K th = 11) (bnd (m41.sR 1121 th 0 (some a21)) (fun m42 => bnd m42.S (fun a22 => bnd (m42.nw 22 144) (fun m43 => chk (m43.K th = 11) (bnd (m43.sR 1122 th 0 (some a22)) (fun m44 => bnd m44.S (fun a23 => bnd (m44.nw 22 144) (fun m45 => chk (m45.K th = 11) (bnd (m45.sR 1123 th 0 (some a23)) (fun m46 => bnd m46.S (fun a24 => bnd (m46.nw 22 144) (fun m47 => chk (m47.K th = 11) (bnd (m47.sR 1124 th 0 (some a24)) (fun m48 => bnd m48.S (fun a25 => bnd (m48.nw 22 144) (fun m49 => chk (m49.K th = 11) (bnd (m49.sR 1125 th 0 (some a25)) (fun m50 => bnd m50.S (fun a26 => bnd (m50.nw 22 36) (fun m51 => chk (m51.K th = 11) (bnd (m51.sR 1126 th 0 (some a26)) (fun m52 => bnd m52.S (fun a27 => bnd (m52.nw 22 36) (fun m53 => chk (m53.K th = 11) (bnd (m53.sR 1127 th 0 (some a27)) (fun m54 => bnd m54.S (fun a28 => bnd (m54.nw 22 4) (fun m55 => chk (m55.K th = 11) (bnd (m55.sR 1128 th 0 (some a28)) (fun m56 => bnd m56.S (fun a29 => bnd (m56.nw 22 12) (fun m57 => chk (m57.K th = 11) (bnd (m57.sR 1129 th 0 (some a29)) (fun m58 => bnd m58.S (fun a30 => bnd (m58.nw 22 12) (fun m59 => chk (m59.K th = 11) (bnd (m59.sR 1130 th 0 (some a30)) (fun m60 => bnd m60.S (fun a31 => bnd (m60.nw 22 12) (fun m61 => chk (m61.K th = 11) (bnd (m61.sR 1131 th 0 (some a31)) (fun m62 => bnd m62.S (fun a32 => bnd (m62.nw 22 12) (fun m63 => chk (m63.K th = 11) (bnd (m63.sR 1132 th 0 (some a32)) (fun m64 => bnd m64.S (fun a33 => bnd (m64.nw 22 120) (fun m65 => chk (m65.K th = 11) (bnd (m65.sR 1133 th 0 (some a33)) (fun m66 => bnd m66.S (fun a34 => bnd (m66.nw 22 120) (fun m67 => chk (m67.K th = 11) (bnd (m67.sR 1134 th 0 (some a34)) (fun m68 => bnd m68.S (fun a35 => bnd (m68.nw 22 120) (fun m69 => chk (m69.K th = 11) (bnd (m69.sR 1135 th 0 (some a35)) (fun m70 => bnd m70.S (fun a36 => bnd (m70.nw 22 120) (fun m71 => chk (m71.K th = 11) (bnd (m71.sR 1136 th 0 (some a36)) (fun m72 => bnd m72.S (fun a37 => bnd (m72.nw 22 120) (fun m73 => chk (m73.K th = 11) (bnd (m73.sR 1137 th 0 (some a37)) (fun m74 => bnd m74.S (fun a38 => bnd (m74.nw 22 6) (fun m75 => chk (m75.K th = 11) (bnd (m75.sR 1147 th 0 (some a38)) (fun m76 => bnd m76.S (fun a39 => bnd (m76.nw 22 32) (fun m77 => chk (m77.K th = 11) (bnd (m77.sR 1150 th 0 (some a39)) (fun m78 => bnd m78.S (fun a40 => bnd (m78.nw 22 91) (fun m79 => chk (m79.K th = 11) (bnd (m79.sR 1151 th 0 (some a40)) (fun m80 => bnd m80.S (fun a41 => bnd (m80.nw 22 75) (fun m81 => chk (m81.K th = 11) (bnd (m81.sR 1152 th 0 (some a41)) (fun m82 => bnd m82.S (fun a42 => bnd (m82.nw 22 39) (fun m83 => chk (m83.K th = 11) (bnd (m83.sR 1153 th 0 (some a42)) (fun m84 => bnd m84.S (fun a43 => bnd (m84.nw 22 39) (fun m85 => chk (m85.K th = 11) (bnd (m85.sR 1154 th 0 (some a43)) (fun m86 => bnd m86.S (fun a44 => bnd (m86.nw 22 55) (fun m87 => chk (m87.K th = 11) (bnd (m87.sR 1159 th 0 (some a44)) (fun m88 => bnd m88.S (fun a45 => bnd (m88.nw 22 15) (fun m89 => chk (m89.K th = 11) (bnd (m89.sR 1160 th 0 (some a45)) (fun m90 => bnd m90.S (fun a46 => bnd (m90.nw 22 15) (fun m91 => chk (m91.K th = 11) (bnd (m91.sR 1161 th 0 (some a46)) (fun m92 => bnd m92.S (fun a47 => bnd (m92.nw 22 15) (fun m93 => chk (m93.K th = 11) (bnd (m93.sR 1162 th 0 (some a47)) (fun m94 => bnd m94.S (fun a48 => bnd (m94.nw 22 15) (fun m95 => chk (m95.K th = 11) (bnd (m95.sR 1163 th 0 (some a48)) (fun m96 => bnd m96.S (fun a49 => bnd (m96.nw 22 15) (fun m97 => chk (m97.K th = 11) (bnd (m97.sR 1164 th 0 (some a49)) (fun m98 => bnd m98.S (fun a50 => bnd (m98.nw 22 1440) (fun m99 => chk (m99.K th = 11) (bnd (m99.sR 1171 th 0 (some a50)) (fun m100 => bnd m100.S (fun a51 => bnd (m100.nw 22 1440) (fun m101 => chk (m101.K th = 11) (bnd (m101.sR 1172 th 0 (some a51)) (fun m102 => bnd m102.S (fun a52 => bnd (m102.nw 22 1440) (fun m103 => chk (m103.K th = 11) (bnd (m103.sR 1173 th 0 (some a52)) (fun m104 => bnd m104.S (fun a53 => bnd (m104.nw 22 3) (fun m105 => chk (m105.K th = 11) (bnd (m105.sR 1176 th 0 (some a53)) (fun m106 => bnd m106.S (fun a54 => bnd (m106.nw 24 64) (fun m107 => chk (m107.K th = 11) (bnd (m107.sR 1181 th 0 (some a54)) (fun m108 => bnd m108.S (fun a55 => bnd (m108.nw 24 64) (fun m109 => chk (m109.K th = 11) (bnd (m109.sR 1182 th 0 (some a55)) (fun m110 => bnd m110.S (fun a56 => bnd (m110.nw 24 3) (fun m111 => chk (m111.K th = 11) (bnd (m111.sR 1183 th 0 (some a56)) (fun m112 => ck m112 (m112.R 1104 th 0) 22 (fun a57 => chk (inb 0 (m112.N a57) = true) (bnd (m112.sI 22 a57 (Int32.toNatClampNeg 0) (-1)) (fun m113 => some ((), m113))))))))))))))))))))))))))))))))))))))))))))))))))))))))))))))))))))))))))))))))))))))))))))))))))))))))))))))))))))))))))))))))))))))))))))))))))))))))))))))))))))))))))))))))))))))))))))))))))))))))))))))))))))))))))))))))))))
set_option maxHeartbeats 4000000 in
set_option maxRecDepth 100000 in
theorem s_X10_init_0 {Γ : GX} {E : EX} (C : Cx Γ E cX10_init RX10 1) (hr : Γ.meth.sig.returnType = none) (hrm : Γ.rm = rmX10_init) (hnm : Γ.meth.name = "<init>") (th : Nat) (m : MM) : Sm (QM Γ E emV 56 10846) Γ E 1 0 0 0 [(0, va_rf (some th))] [] m (f_X10_init th m) := by
  unfold f_X10_init
  refine z_aload_n C dX10_init_0 rfl 0 rfl ?_
  refine z_obj C rfl mo_RX10_1 (by rw [hrm]; exact Nat.le_of_ble_eq_true rfl) (by rw [hrm]; exact Nat.le_of_ble_eq_true rfl) (Nat.le_of_ble_eq_true rfl) dX10_init_1 ?_
  refine z_aload_n C dX10_init_4 rfl 0 rfl ?_
  refine z_sipush (v := 2000) C dX10_init_5 (by decide) ?_
  refine z_newa2 (at0 := .byte) (kd := 21) (N := 2000) C ac_byte (by decide) (by decide) rfl (by decide) (by decide) (by decide) (by rw [hrm]; exact Nat.le_of_ble_eq_true rfl) (by rw [hrm]; exact Nat.le_of_ble_eq_true rfl) dX10_init_8 (fun a1 m1 hk1 => ?_)
  refine z_chk (fun hk2 => ?_)
  refine z_putR C fl_RX10_7 (fun _ => ⟨hnm, rfl⟩) rfl hk2 na_of fa_of dX10_init_10 (fun m2 eK1 eN1 => ?_)
  refine z_aload_n C dX10_init_13 rfl 0 rfl ?_
  refine z_iconst (v := 4) C dX10_init_14 (by decide) ?_
  refine z_newa2 (at0 := .int) (kd := 22) (N := 4) C ac_int (by decide) (by decide) rfl (by decide) (by decide) (by decide) (by rw [hrm]; exact Nat.le_of_ble_eq_true rfl) (by rw [hrm]; exact Nat.le_of_ble_eq_true rfl) dX10_init_15 (fun a2 m3 hk3 => ?_)
  refine z_chk (fun hk4 => ?_)
  refine z_putR C fl_RX10_13 (fun _ => ⟨hnm, rfl⟩) rfl hk4 na_of fa_of dX10_init_17 (fun m4 eK2 eN2 => ?_)
  refine z_aload_n C dX10_init_20 rfl 0 rfl ?_
  refine z_iconst (v := 4) C dX10_init_21 (by decide) ?_
  refine z_newa2 (at0 := .int) (kd := 22) (N := 4) C ac_int (by decide) (by decide) rfl (by decide) (by decide) (by decide) (by rw [hrm]; exact Nat.le_of_ble_eq_true rfl) (by rw [hrm]; exact Nat.le_of_ble_eq_true rfl) dX10_init_22 (fun a3 m5 hk5 => ?_)
  refine z_chk (fun hk6 => ?_)
  refine z_putR C fl_RX10_17 (fun _ => ⟨hnm, rfl⟩) rfl hk6 na_of fa_of dX10_init_24 (fun m6 eK3 eN3 => ?_)
  refine z_aload_n C dX10_init_27 rfl 0 rfl ?_
  refine z_iconst (v := 4) C dX10_init_28 (by decide) ?_
  refine z_newa2 (at0 := .int) (kd := 22) (N := 4) C ac_int (by decide) (by decide) rfl (by decide) (by decide) (by decide) (by rw [hrm]; exact Nat.le_of_ble_eq_true rfl) (by rw [hrm]; exact Nat.le_of_ble_eq_true rfl) dX10_init_29 (fun a4 m7 hk7 => ?_)
  refine z_chk (fun hk8 => ?_)
  refine z_putR C fl_RX10_20 (fun _ => ⟨hnm, rfl⟩) rfl hk8 na_of fa_of dX10_init_31 (fun m8 eK4 eN4 => ?_)
  refine z_aload_n C dX10_init_34 rfl 0 rfl ?_
  refine z_iconst (v := 4) C dX10_init_35 (by decide) ?_
  refine z_newa2 (at0 := .int) (kd := 22) (N := 4) C ac_int (by decide) (by decide) rfl (by decide) (by decide) (by decide) (by rw [hrm]; exact Nat.le_of_ble_eq_true rfl) (by rw [hrm]; exact Nat.le_of_ble_eq_true rfl) dX10_init_36 (fun a5 m9 hk9 => ?_)
  refine z_chk (fun hk10 => ?_)
  refine z_putR C fl_RX10_23 (fun _ => ⟨hnm, rfl⟩) rfl hk10 na_of fa_of dX10_init_38 (fun m10 eK5 eN5 => ?_)
  refine z_aload_n C dX10_init_41 rfl 0 rfl ?_
  refine z_sipush (v := 384) C dX10_init_42 (by decide) ?_
  refine z_newa2 (at0 := .int) (kd := 22) (N := 384) C ac_int (by decide) (by decide) rfl (by decide) (by decide) (by decide) (by rw [hrm]; exact Nat.le_of_ble_eq_true rfl) (by rw [hrm]; exact Nat.le_of_ble_eq_true rfl) dX10_init_45 (fun a6 m11 hk11 => ?_)
  refine z_chk (fun hk12 => ?_)
  refine z_putR C fl_RX10_26 (fun _ => ⟨hnm, rfl⟩) rfl hk12 na_of fa_of dX10_init_47 (fun m12 eK6 eN6 => ?_)
  refine z_aload_n C dX10_init_50 rfl 0 rfl ?_
  refine z_sipush (v := 144) C dX10_init_51 (by decide) ?_
  refine z_newa2 (at0 := .int) (kd := 22) (N := 144) C ac_int (by decide) (by decide) rfl (by decide) (by decide) (by decide) (by rw [hrm]; exact Nat.le_of_ble_eq_true rfl) (by rw [hrm]; exact Nat.le_of_ble_eq_true rfl) dX10_init_54 (fun a7 m13 hk13 => ?_)
  refine z_chk (fun hk14 => ?_)
  refine z_putR C fl_RX10_29 (fun _ => ⟨hnm, rfl⟩) rfl hk14 na_of fa_of dX10_init_56 (fun m14 eK7 eN7 => ?_)
  refine z_aload_n C dX10_init_59 rfl 0 rfl ?_
  refine z_sipush (v := 144) C dX10_init_60 (by decide) ?_
  refine z_newa2 (at0 := .int) (kd := 22) (N := 144) C ac_int (by decide) (by decide) rfl (by decide) (by decide) (by decide) (by rw [hrm]; exact Nat.le_of_ble_eq_true rfl) (by rw [hrm]; exact Nat.le_of_ble_eq_true rfl) dX10_init_63 (fun a8 m15 hk15 => ?_)
  refine z_chk (fun hk16 => ?_)
  refine z_putR C fl_RX10_32 (fun _ => ⟨hnm, rfl⟩) rfl hk16 na_of fa_of dX10_init_65 (fun m16 eK8 eN8 => ?_)
  refine z_aload_n C dX10_init_68 rfl 0 rfl ?_
  refine z_sipush (v := 144) C dX10_init_69 (by decide) ?_
  refine z_newa2 (at0 := .int) (kd := 22) (N := 144) C ac_int (by decide) (by decide) rfl (by decide) (by decide) (by decide) (by rw [hrm]; exact Nat.le_of_ble_eq_true rfl) (by rw [hrm]; exact Nat.le_of_ble_eq_true rfl) dX10_init_72 (fun a9 m17 hk17 => ?_)
  refine z_chk (fun hk18 => ?_)
  refine z_putR C fl_RX10_35 (fun _ => ⟨hnm, rfl⟩) rfl hk18 na_of fa_of dX10_init_74 (fun m18 eK9 eN9 => ?_)
  refine z_aload_n C dX10_init_77 rfl 0 rfl ?_
  refine z_sipush (v := 144) C dX10_init_78 (by decide) ?_
  refine z_newa2 (at0 := .int) (kd := 22) (N := 144) C ac_int (by decide) (by decide) rfl (by decide) (by decide) (by decide) (by rw [hrm]; exact Nat.le_of_ble_eq_true rfl) (by rw [hrm]; exact Nat.le_of_ble_eq_true rfl) dX10_init_81 (fun a10 m19 hk19 => ?_)
  refine z_chk (fun hk20 => ?_)
  refine z_putR C fl_RX10_38 (fun _ => ⟨hnm, rfl⟩) rfl hk20 na_of fa_of dX10_init_83 (fun m20 eK10 eN10 => ?_)
  refine z_aload_n C dX10_init_86 rfl 0 rfl ?_
  refine z_sipush (v := 144) C dX10_init_87 (by decide) ?_
  refine z_newa2 (at0 := .int) (kd := 22) (N := 144) C ac_int (by decide) (by decide) rfl (by decide) (by decide) (by decide) (by rw [hrm]; exact Nat.le_of_ble_eq_true rfl) (by rw [hrm]; exact Nat.le_of_ble_eq_true rfl) dX10_init_90 (fun a11 m21 hk21 => ?_)
  refine z_chk (fun hk22 => ?_)
  refine z_putR C fl_RX10_41 (fun _ => ⟨hnm, rfl⟩) rfl hk22 na_of fa_of dX10_init_92 (fun m22 eK11 eN11 => ?_)
  refine z_aload_n C dX10_init_95 rfl 0 rfl ?_
  refine z_sipush (v := 144) C dX10_init_96 (by decide) ?_
  refine z_newa2 (at0 := .int) (kd := 22) (N := 144) C ac_int (by decide) (by decide) rfl (by decide) (by decide) (by decide) (by rw [hrm]; exact Nat.le_of_ble_eq_true rfl) (by rw [hrm]; exact Nat.le_of_ble_eq_true rfl) dX10_init_99 (fun a12 m23 hk23 => ?_)
  refine z_chk (fun hk24 => ?_)
  refine z_putR C fl_RX10_44 (fun _ => ⟨hnm, rfl⟩) rfl hk24 na_of fa_of dX10_init_101 (fun m24 eK12 eN12 => ?_)
  refine z_aload_n C dX10_init_104 rfl 0 rfl ?_
  refine z_sipush (v := 144) C dX10_init_105 (by decide) ?_
  refine z_newa2 (at0 := .int) (kd := 22) (N := 144) C ac_int (by decide) (by decide) rfl (by decide) (by decide) (by decide) (by rw [hrm]; exact Nat.le_of_ble_eq_true rfl) (by rw [hrm]; exact Nat.le_of_ble_eq_true rfl) dX10_init_108 (fun a13 m25 hk25 => ?_)
  refine z_chk (fun hk26 => ?_)
  refine z_putR C fl_RX10_47 (fun _ => ⟨hnm, rfl⟩) rfl hk26 na_of fa_of dX10_init_110 (fun m26 eK13 eN13 => ?_)
  refine z_aload_n C dX10_init_113 rfl 0 rfl ?_
  refine z_sipush (v := 144) C dX10_init_114 (by decide) ?_
  refine z_newa2 (at0 := .int) (kd := 22) (N := 144) C ac_int (by decide) (by decide) rfl (by decide) (by decide) (by decide) (by rw [hrm]; exact Nat.le_of_ble_eq_true rfl) (by rw [hrm]; exact Nat.le_of_ble_eq_true rfl) dX10_init_117 (fun a14 m27 hk27 => ?_)
  refine z_chk (fun hk28 => ?_)
  refine z_putR C fl_RX10_50 (fun _ => ⟨hnm, rfl⟩) rfl hk28 na_of fa_of dX10_init_119 (fun m28 eK14 eN14 => ?_)
  refine z_aload_n C dX10_init_122 rfl 0 rfl ?_
  refine z_sipush (v := 168) C dX10_init_123 (by decide) ?_
  refine z_newa2 (at0 := .int) (kd := 22) (N := 168) C ac_int (by decide) (by decide) rfl (by decide) (by decide) (by decide) (by rw [hrm]; exact Nat.le_of_ble_eq_true rfl) (by rw [hrm]; exact Nat.le_of_ble_eq_true rfl) dX10_init_126 (fun a15 m29 hk29 => ?_)
  refine z_chk (fun hk30 => ?_)
  refine z_putR C fl_RX10_53 (fun _ => ⟨hnm, rfl⟩) rfl hk30 na_of fa_of dX10_init_128 (fun m30 eK15 eN15 => ?_)
  refine z_aload_n C dX10_init_131 rfl 0 rfl ?_
  refine z_sipush (v := 168) C dX10_init_132 (by decide) ?_
  refine z_newa2 (at0 := .int) (kd := 22) (N := 168) C ac_int (by decide) (by decide) rfl (by decide) (by decide) (by decide) (by rw [hrm]; exact Nat.le_of_ble_eq_true rfl) (by rw [hrm]; exact Nat.le_of_ble_eq_true rfl) dX10_init_135 (fun a16 m31 hk31 => ?_)
  refine z_chk (fun hk32 => ?_)
  refine z_putR C fl_RX10_56 (fun _ => ⟨hnm, rfl⟩) rfl hk32 na_of fa_of dX10_init_137 (fun m32 eK16 eN16 => ?_)
  refine z_aload_n C dX10_init_140 rfl 0 rfl ?_
  refine z_sipush (v := 168) C dX10_init_141 (by decide) ?_
  refine z_newa2 (at0 := .int) (kd := 22) (N := 168) C ac_int (by decide) (by decide) rfl (by decide) (by decide) (by decide) (by rw [hrm]; exact Nat.le_of_ble_eq_true rfl) (by rw [hrm]; exact Nat.le_of_ble_eq_true rfl) dX10_init_144 (fun a17 m33 hk33 => ?_)
  refine z_chk (fun hk34 => ?_)
  refine z_putR C fl_RX10_59 (fun _ => ⟨hnm, rfl⟩) rfl hk34 na_of fa_of dX10_init_146 (fun m34 eK17 eN17 => ?_)
  refine z_aload_n C dX10_init_149 rfl 0 rfl ?_
  refine z_sipush (v := 168) C dX10_init_150 (by decide) ?_
  refine z_newa2 (at0 := .int) (kd := 22) (N := 168) C ac_int (by decide) (by decide) rfl (by decide) (by decide) (by decide) (by rw [hrm]; exact Nat.le_of_ble_eq_true rfl) (by rw [hrm]; exact Nat.le_of_ble_eq_true rfl) dX10_init_153 (fun a18 m35 hk35 => ?_)
  refine z_chk (fun hk36 => ?_)
  refine z_putR C fl_RX10_62 (fun _ => ⟨hnm, rfl⟩) rfl hk36 na_of fa_of dX10_init_155 (fun m36 eK18 eN18 => ?_)
  refine z_aload_n C dX10_init_158 rfl 0 rfl ?_
  refine z_sipush (v := 168) C dX10_init_159 (by decide) ?_
  refine z_newa2 (at0 := .int) (kd := 22) (N := 168) C ac_int (by decide) (by decide) rfl (by decide) (by decide) (by decide) (by rw [hrm]; exact Nat.le_of_ble_eq_true rfl) (by rw [hrm]; exact Nat.le_of_ble_eq_true rfl) dX10_init_162 (fun a19 m37 hk37 => ?_)
  refine z_chk (fun hk38 => ?_)
  refine z_putR C fl_RX10_65 (fun _ => ⟨hnm, rfl⟩) rfl hk38 na_of fa_of dX10_init_164 (fun m38 eK19 eN19 => ?_)
  refine z_aload_n C dX10_init_167 rfl 0 rfl ?_
  refine z_sipush (v := 144) C dX10_init_168 (by decide) ?_
  refine z_newa2 (at0 := .int) (kd := 22) (N := 144) C ac_int (by decide) (by decide) rfl (by decide) (by decide) (by decide) (by rw [hrm]; exact Nat.le_of_ble_eq_true rfl) (by rw [hrm]; exact Nat.le_of_ble_eq_true rfl) dX10_init_171 (fun a20 m39 hk39 => ?_)
  refine z_chk (fun hk40 => ?_)
  refine z_putR C fl_RX10_68 (fun _ => ⟨hnm, rfl⟩) rfl hk40 na_of fa_of dX10_init_173 (fun m40 eK20 eN20 => ?_)
  refine z_aload_n C dX10_init_176 rfl 0 rfl ?_
  refine z_sipush (v := 144) C dX10_init_177 (by decide) ?_
  refine z_newa2 (at0 := .int) (kd := 22) (N := 144) C ac_int (by decide) (by decide) rfl (by decide) (by decide) (by decide) (by rw [hrm]; exact Nat.le_of_ble_eq_true rfl) (by rw [hrm]; exact Nat.le_of_ble_eq_true rfl) dX10_init_180 (fun a21 m41 hk41 => ?_)
  refine z_chk (fun hk42 => ?_)
  refine z_putR C fl_RX10_71 (fun _ => ⟨hnm, rfl⟩) rfl hk42 na_of fa_of dX10_init_182 (fun m42 eK21 eN21 => ?_)
  refine z_aload_n C dX10_init_185 rfl 0 rfl ?_
  refine z_sipush (v := 144) C dX10_init_186 (by decide) ?_
  refine z_newa2 (at0 := .int) (kd := 22) (N := 144) C ac_int (by decide) (by decide) rfl (by decide) (by decide) (by decide) (by rw [hrm]; exact Nat.le_of_ble_eq_true rfl) (by rw [hrm]; exact Nat.le_of_ble_eq_true rfl) dX10_init_189 (fun a22 m43 hk43 => ?_)
  refine z_chk (fun hk44 => ?_)
  refine z_putR C fl_RX10_74 (fun _ => ⟨hnm, rfl⟩) rfl hk44 na_of fa_of dX10_init_191 (fun m44 eK22 eN22 => ?_)
  refine z_aload_n C dX10_init_194 rfl 0 rfl ?_
  refine z_sipush (v := 144) C dX10_init_195 (by decide) ?_
  refine z_newa2 (at0 := .int) (kd := 22) (N := 144) C ac_int (by decide) (by decide) rfl (by decide) (by decide) (by decide) (by rw [hrm]; exact Nat.le_of_ble_eq_true rfl) (by rw [hrm]; exact Nat.le_of_ble_eq_true rfl) dX10_init_198 (fun a23 m45 hk45 => ?_)
  refine z_chk (fun hk46 => ?_)
  refine z_putR C fl_RX10_77 (fun _ => ⟨hnm, rfl⟩) rfl hk46 na_of fa_of dX10_init_200 (fun m46 eK23 eN23 => ?_)
  refine z_aload_n C dX10_init_203 rfl 0 rfl ?_
  refine z_sipush (v := 144) C dX10_init_204 (by decide) ?_
  refine z_newa2 (at0 := .int) (kd := 22) (N := 144) C ac_int (by decide) (by decide) rfl (by decide) (by decide) (by decide) (by rw [hrm]; exact Nat.le_of_ble_eq_true rfl) (by rw [hrm]; exact Nat.le_of_ble_eq_true rfl) dX10_init_207 (fun a24 m47 hk47 => ?_)
  refine z_chk (fun hk48 => ?_)
  refine z_putR C fl_RX10_80 (fun _ => ⟨hnm, rfl⟩) rfl hk48 na_of fa_of dX10_init_209 (fun m48 eK24 eN24 => ?_)
  refine z_aload_n C dX10_init_212 rfl 0 rfl ?_
  refine z_sipush (v := 144) C dX10_init_213 (by decide) ?_
  refine z_newa2 (at0 := .int) (kd := 22) (N := 144) C ac_int (by decide) (by decide) rfl (by decide) (by decide) (by decide) (by rw [hrm]; exact Nat.le_of_ble_eq_true rfl) (by rw [hrm]; exact Nat.le_of_ble_eq_true rfl) dX10_init_216 (fun a25 m49 hk49 => ?_)
  refine z_chk (fun hk50 => ?_)
  refine z_putR C fl_RX10_83 (fun _ => ⟨hnm, rfl⟩) rfl hk50 na_of fa_of dX10_init_218 (fun m50 eK25 eN25 => ?_)
  refine z_aload_n C dX10_init_221 rfl 0 rfl ?_
  refine z_bipush (v := 36) C dX10_init_222 (by decide) ?_
  refine z_newa2 (at0 := .int) (kd := 22) (N := 36) C ac_int (by decide) (by decide) rfl (by decide) (by decide) (by decide) (by rw [hrm]; exact Nat.le_of_ble_eq_true rfl) (by rw [hrm]; exact Nat.le_of_ble_eq_true rfl) dX10_init_224 (fun a26 m51 hk51 => ?_)
  refine z_chk (fun hk52 => ?_)
  refine z_putR C fl_RX10_86 (fun _ => ⟨hnm, rfl⟩) rfl hk52 na_of fa_of dX10_init_226 (fun m52 eK26 eN26 => ?_)
  refine z_aload_n C dX10_init_229 rfl 0 rfl ?_
  refine z_bipush (v := 36) C dX10_init_230 (by decide) ?_
  refine z_newa2 (at0 := .int) (kd := 22) (N := 36) C ac_int (by decide) (by decide) rfl (by decide) (by decide) (by decide) (by rw [hrm]; exact Nat.le_of_ble_eq_true rfl) (by rw [hrm]; exact Nat.le_of_ble_eq_true rfl) dX10_init_232 (fun a27 m53 hk53 => ?_)
  refine z_chk (fun hk54 => ?_)
  refine z_putR C fl_RX10_89 (fun _ => ⟨hnm, rfl⟩) rfl hk54 na_of fa_of dX10_init_234 (fun m54 eK27 eN27 => ?_)
  refine z_aload_n C dX10_init_237 rfl 0 rfl ?_
  refine z_iconst (v := 4) C dX10_init_238 (by decide) ?_
  refine z_newa2 (at0 := .int) (kd := 22) (N := 4) C ac_int (by decide) (by decide) rfl (by decide) (by decide) (by decide) (by rw [hrm]; exact Nat.le_of_ble_eq_true rfl) (by rw [hrm]; exact Nat.le_of_ble_eq_true rfl) dX10_init_239 (fun a28 m55 hk55 => ?_)
  refine z_chk (fun hk56 => ?_)
  refine z_putR C fl_RX10_92 (fun _ => ⟨hnm, rfl⟩) rfl hk56 na_of fa_of dX10_init_241 (fun m56 eK28 eN28 => ?_)
  refine z_aload_n C dX10_init_244 rfl 0 rfl ?_
  refine z_bipush (v := 12) C dX10_init_245 (by decide) ?_
  refine z_newa2 (at0 := .int) (kd := 22) (N := 12) C ac_int (by decide) (by decide) rfl (by decide) (by decide) (by decide) (by rw [hrm]; exact Nat.le_of_ble_eq_true rfl) (by rw [hrm]; exact Nat.le_of_ble_eq_true rfl) dX10_init_247 (fun a29 m57 hk57 => ?_)
  refine z_chk (fun hk58 => ?_)
  refine z_putR C fl_RX10_95 (fun _ => ⟨hnm, rfl⟩) rfl hk58 na_of fa_of dX10_init_249 (fun m58 eK29 eN29 => ?_)
  refine z_aload_n C dX10_init_252 rfl 0 rfl ?_
  refine z_bipush (v := 12) C dX10_init_253 (by decide) ?_
  refine z_newa2 (at0 := .int) (kd := 22) (N := 12) C ac_int (by decide) (by decide) rfl (by decide) (by decide) (by decide) (by rw [hrm]; exact Nat.le_of_ble_eq_true rfl) (by rw [hrm]; exact Nat.le_of_ble_eq_true rfl) dX10_init_255 (fun a30 m59 hk59 => ?_)
  refine z_chk (fun hk60 => ?_)
  refine z_putR C fl_RX10_98 (fun _ => ⟨hnm, rfl⟩) rfl hk60 na_of fa_of dX10_init_257 (fun m60 eK30 eN30 => ?_)
  refine z_aload_n C dX10_init_260 rfl 0 rfl ?_
  refine z_bipush (v := 12) C dX10_init_261 (by decide) ?_
  refine z_newa2 (at0 := .int) (kd := 22) (N := 12) C ac_int (by decide) (by decide) rfl (by decide) (by decide) (by decide) (by rw [hrm]; exact Nat.le_of_ble_eq_true rfl) (by rw [hrm]; exact Nat.le_of_ble_eq_true rfl) dX10_init_263 (fun a31 m61 hk61 => ?_)
  refine z_chk (fun hk62 => ?_)
  refine z_putR C fl_RX10_101 (fun _ => ⟨hnm, rfl⟩) rfl hk62 na_of fa_of dX10_init_265 (fun m62 eK31 eN31 => ?_)
  refine z_aload_n C dX10_init_268 rfl 0 rfl ?_
  refine z_bipush (v := 12) C dX10_init_269 (by decide) ?_
  refine z_newa2 (at0 := .int) (kd := 22) (N := 12) C ac_int (by decide) (by decide) rfl (by decide) (by decide) (by decide) (by rw [hrm]; exact Nat.le_of_ble_eq_true rfl) (by rw [hrm]; exact Nat.le_of_ble_eq_true rfl) dX10_init_271 (fun a32 m63 hk63 => ?_)
  refine z_chk (fun hk64 => ?_)
  refine z_putR C fl_RX10_104 (fun _ => ⟨hnm, rfl⟩) rfl hk64 na_of fa_of dX10_init_273 (fun m64 eK32 eN32 => ?_)
  refine z_aload_n C dX10_init_276 rfl 0 rfl ?_
  refine z_bipush (v := 120) C dX10_init_277 (by decide) ?_
  refine z_newa2 (at0 := .int) (kd := 22) (N := 120) C ac_int (by decide) (by decide) rfl (by decide) (by decide) (by decide) (by rw [hrm]; exact Nat.le_of_ble_eq_true rfl) (by rw [hrm]; exact Nat.le_of_ble_eq_true rfl) dX10_init_279 (fun a33 m65 hk65 => ?_)
  refine z_chk (fun hk66 => ?_)
  refine z_putR C fl_RX10_107 (fun _ => ⟨hnm, rfl⟩) rfl hk66 na_of fa_of dX10_init_281 (fun m66 eK33 eN33 => ?_)
  refine z_aload_n C dX10_init_284 rfl 0 rfl ?_
  refine z_bipush (v := 120) C dX10_init_285 (by decide) ?_
  refine z_newa2 (at0 := .int) (kd := 22) (N := 120) C ac_int (by decide) (by decide) rfl (by decide) (by decide) (by decide) (by rw [hrm]; exact Nat.le_of_ble_eq_true rfl) (by rw [hrm]; exact Nat.le_of_ble_eq_true rfl) dX10_init_287 (fun a34 m67 hk67 => ?_)
  refine z_chk (fun hk68 => ?_)
  refine z_putR C fl_RX10_110 (fun _ => ⟨hnm, rfl⟩) rfl hk68 na_of fa_of dX10_init_289 (fun m68 eK34 eN34 => ?_)
  refine z_aload_n C dX10_init_292 rfl 0 rfl ?_
  refine z_bipush (v := 120) C dX10_init_293 (by decide) ?_
  refine z_newa2 (at0 := .int) (kd := 22) (N := 120) C ac_int (by decide) (by decide) rfl (by decide) (by decide) (by decide) (by rw [hrm]; exact Nat.le_of_ble_eq_true rfl) (by rw [hrm]; exact Nat.le_of_ble_eq_true rfl) dX10_init_295 (fun a35 m69 hk69 => ?_)
  refine z_chk (fun hk70 => ?_)
  refine z_putR C fl_RX10_113 (fun _ => ⟨hnm, rfl⟩) rfl hk70 na_of fa_of dX10_init_297 (fun m70 eK35 eN35 => ?_)
  refine z_aload_n C dX10_init_300 rfl 0 rfl ?_
  refine z_bipush (v := 120) C dX10_init_301 (by decide) ?_
  refine z_newa2 (at0 := .int) (kd := 22) (N := 120) C ac_int (by decide) (by decide) rfl (by decide) (by decide) (by decide) (by rw [hrm]; exact Nat.le_of_ble_eq_true rfl) (by rw [hrm]; exact Nat.le_of_ble_eq_true rfl) dX10_init_303 (fun a36 m71 hk71 => ?_)
  refine z_chk (fun hk72 => ?_)
  refine z_putR C fl_RX10_116 (fun _ => ⟨hnm, rfl⟩) rfl hk72 na_of fa_of dX10_init_305 (fun m72 eK36 eN36 => ?_)
  refine z_aload_n C dX10_init_308 rfl 0 rfl ?_
  refine z_bipush (v := 120) C dX10_init_309 (by decide) ?_
  refine z_newa2 (at0 := .int) (kd := 22) (N := 120) C ac_int (by decide) (by decide) rfl (by decide) (by decide) (by decide) (by rw [hrm]; exact Nat.le_of_ble_eq_true rfl) (by rw [hrm]; exact Nat.le_of_ble_eq_true rfl) dX10_init_311 (fun a37 m73 hk73 => ?_)
  refine z_chk (fun hk74 => ?_)
  refine z_putR C fl_RX10_119 (fun _ => ⟨hnm, rfl⟩) rfl hk74 na_of fa_of dX10_init_313 (fun m74 eK37 eN37 => ?_)
  refine z_aload_n C dX10_init_316 rfl 0 rfl ?_
  refine z_bipush (v := 6) C dX10_init_317 (by decide) ?_
  refine z_newa2 (at0 := .int) (kd := 22) (N := 6) C ac_int (by decide) (by decide) rfl (by decide) (by decide) (by decide) (by rw [hrm]; exact Nat.le_of_ble_eq_true rfl) (by rw [hrm]; exact Nat.le_of_ble_eq_true rfl) dX10_init_319 (fun a38 m75 hk75 => ?_)
  refine z_chk (fun hk76 => ?_)
  refine z_putR C fl_RX10_122 (fun _ => ⟨hnm, rfl⟩) rfl hk76 na_of fa_of dX10_init_321 (fun m76 eK38 eN38 => ?_)
  refine z_aload_n C dX10_init_324 rfl 0 rfl ?_
  refine z_bipush (v := 32) C dX10_init_325 (by decide) ?_
  refine z_newa2 (at0 := .int) (kd := 22) (N := 32) C ac_int (by decide) (by decide) rfl (by decide) (by decide) (by decide) (by rw [hrm]; exact Nat.le_of_ble_eq_true rfl) (by rw [hrm]; exact Nat.le_of_ble_eq_true rfl) dX10_init_327 (fun a39 m77 hk77 => ?_)
  refine z_chk (fun hk78 => ?_)
  refine z_putR C fl_RX10_125 (fun _ => ⟨hnm, rfl⟩) rfl hk78 na_of fa_of dX10_init_329 (fun m78 eK39 eN39 => ?_)
  refine z_aload_n C dX10_init_332 rfl 0 rfl ?_
  refine z_bipush (v := 91) C dX10_init_333 (by decide) ?_
  refine z_newa2 (at0 := .int) (kd := 22) (N := 91) C ac_int (by decide) (by decide) rfl (by decide) (by decide) (by decide) (by rw [hrm]; exact Nat.le_of_ble_eq_true rfl) (by rw [hrm]; exact Nat.le_of_ble_eq_true rfl) dX10_init_335 (fun a40 m79 hk79 => ?_)
  refine z_chk (fun hk80 => ?_)
  refine z_putR C fl_RX10_128 (fun _ => ⟨hnm, rfl⟩) rfl hk80 na_of fa_of dX10_init_337 (fun m80 eK40 eN40 => ?_)
  refine z_aload_n C dX10_init_340 rfl 0 rfl ?_
  refine z_bipush (v := 75) C dX10_init_341 (by decide) ?_
  refine z_newa2 (at0 := .int) (kd := 22) (N := 75) C ac_int (by decide) (by decide) rfl (by decide) (by decide) (by decide) (by rw [hrm]; exact Nat.le_of_ble_eq_true rfl) (by rw [hrm]; exact Nat.le_of_ble_eq_true rfl) dX10_init_343 (fun a41 m81 hk81 => ?_)
  refine z_chk (fun hk82 => ?_)
  refine z_putR C fl_RX10_131 (fun _ => ⟨hnm, rfl⟩) rfl hk82 na_of fa_of dX10_init_345 (fun m82 eK41 eN41 => ?_)
  refine z_aload_n C dX10_init_348 rfl 0 rfl ?_
  refine z_bipush (v := 39) C dX10_init_349 (by decide) ?_
  refine z_newa2 (at0 := .int) (kd := 22) (N := 39) C ac_int (by decide) (by decide) rfl (by decide) (by decide) (by decide) (by rw [hrm]; exact Nat.le_of_ble_eq_true rfl) (by rw [hrm]; exact Nat.le_of_ble_eq_true rfl) dX10_init_351 (fun a42 m83 hk83 => ?_)
  refine z_chk (fun hk84 => ?_)
  refine z_putR C fl_RX10_134 (fun _ => ⟨hnm, rfl⟩) rfl hk84 na_of fa_of dX10_init_353 (fun m84 eK42 eN42 => ?_)
  refine z_aload_n C dX10_init_356 rfl 0 rfl ?_
  refine z_bipush (v := 39) C dX10_init_357 (by decide) ?_
  refine z_newa2 (at0 := .int) (kd := 22) (N := 39) C ac_int (by decide) (by decide) rfl (by decide) (by decide) (by decide) (by rw [hrm]; exact Nat.le_of_ble_eq_true rfl) (by rw [hrm]; exact Nat.le_of_ble_eq_true rfl) dX10_init_359 (fun a43 m85 hk85 => ?_)
  refine z_chk (fun hk86 => ?_)
  refine z_putR C fl_RX10_137 (fun _ => ⟨hnm, rfl⟩) rfl hk86 na_of fa_of dX10_init_361 (fun m86 eK43 eN43 => ?_)
  refine z_aload_n C dX10_init_364 rfl 0 rfl ?_
  refine z_bipush (v := 55) C dX10_init_365 (by decide) ?_
  refine z_newa2 (at0 := .int) (kd := 22) (N := 55) C ac_int (by decide) (by decide) rfl (by decide) (by decide) (by decide) (by rw [hrm]; exact Nat.le_of_ble_eq_true rfl) (by rw [hrm]; exact Nat.le_of_ble_eq_true rfl) dX10_init_367 (fun a44 m87 hk87 => ?_)
  refine z_chk (fun hk88 => ?_)
  refine z_putR C fl_RX10_140 (fun _ => ⟨hnm, rfl⟩) rfl hk88 na_of fa_of dX10_init_369 (fun m88 eK44 eN44 => ?_)
  refine z_aload_n C dX10_init_372 rfl 0 rfl ?_
  refine z_bipush (v := 15) C dX10_init_373 (by decide) ?_
  refine z_newa2 (at0 := .int) (kd := 22) (N := 15) C ac_int (by decide) (by decide) rfl (by decide) (by decide) (by decide) (by rw [hrm]; exact Nat.le_of_ble_eq_true rfl) (by rw [hrm]; exact Nat.le_of_ble_eq_true rfl) dX10_init_375 (fun a45 m89 hk89 => ?_)
  refine z_chk (fun hk90 => ?_)
  refine z_putR C fl_RX10_143 (fun _ => ⟨hnm, rfl⟩) rfl hk90 na_of fa_of dX10_init_377 (fun m90 eK45 eN45 => ?_)
  refine z_aload_n C dX10_init_380 rfl 0 rfl ?_
  refine z_bipush (v := 15) C dX10_init_381 (by decide) ?_
  refine z_newa2 (at0 := .int) (kd := 22) (N := 15) C ac_int (by decide) (by decide) rfl (by decide) (by decide) (by decide) (by rw [hrm]; exact Nat.le_of_ble_eq_true rfl) (by rw [hrm]; exact Nat.le_of_ble_eq_true rfl) dX10_init_383 (fun a46 m91 hk91 => ?_)
  refine z_chk (fun hk92 => ?_)
  refine z_putR C fl_RX10_146 (fun _ => ⟨hnm, rfl⟩) rfl hk92 na_of fa_of dX10_init_385 (fun m92 eK46 eN46 => ?_)
  refine z_aload_n C dX10_init_388 rfl 0 rfl ?_
  refine z_bipush (v := 15) C dX10_init_389 (by decide) ?_
  refine z_newa2 (at0 := .int) (kd := 22) (N := 15) C ac_int (by decide) (by decide) rfl (by decide) (by decide) (by decide) (by rw [hrm]; exact Nat.le_of_ble_eq_true rfl) (by rw [hrm]; exact Nat.le_of_ble_eq_true rfl) dX10_init_391 (fun a47 m93 hk93 => ?_)
  refine z_chk (fun hk94 => ?_)
  refine z_putR C fl_RX10_149 (fun _ => ⟨hnm, rfl⟩) rfl hk94 na_of fa_of dX10_init_393 (fun m94 eK47 eN47 => ?_)
  refine z_aload_n C dX10_init_396 rfl 0 rfl ?_
  refine z_bipush (v := 15) C dX10_init_397 (by decide) ?_
  refine z_newa2 (at0 := .int) (kd := 22) (N := 15) C ac_int (by decide) (by decide) rfl (by decide) (by decide) (by decide) (by rw [hrm]; exact Nat.le_of_ble_eq_true rfl) (by rw [hrm]; exact Nat.le_of_ble_eq_true rfl) dX10_init_399 (fun a48 m95 hk95 => ?_)
  refine z_chk (fun hk96 => ?_)
  refine z_putR C fl_RX10_152 (fun _ => ⟨hnm, rfl⟩) rfl hk96 na_of fa_of dX10_init_401 (fun m96 eK48 eN48 => ?_)
  refine z_aload_n C dX10_init_404 rfl 0 rfl ?_
  refine z_bipush (v := 15) C dX10_init_405 (by decide) ?_
  refine z_newa2 (at0 := .int) (kd := 22) (N := 15) C ac_int (by decide) (by decide) rfl (by decide) (by decide) (by decide) (by rw [hrm]; exact Nat.le_of_ble_eq_true rfl) (by rw [hrm]; exact Nat.le_of_ble_eq_true rfl) dX10_init_407 (fun a49 m97 hk97 => ?_)
  refine z_chk (fun hk98 => ?_)
  refine z_putR C fl_RX10_155 (fun _ => ⟨hnm, rfl⟩) rfl hk98 na_of fa_of dX10_init_409 (fun m98 eK49 eN49 => ?_)
  refine z_aload_n C dX10_init_412 rfl 0 rfl ?_
  refine z_sipush (v := 1440) C dX10_init_413 (by decide) ?_
  refine z_newa2 (at0 := .int) (kd := 22) (N := 1440) C ac_int (by decide) (by decide) rfl (by decide) (by decide) (by decide) (by rw [hrm]; exact Nat.le_of_ble_eq_true rfl) (by rw [hrm]; exact Nat.le_of_ble_eq_true rfl) dX10_init_416 (fun a50 m99 hk99 => ?_)
  refine z_chk (fun hk100 => ?_)
  refine z_putR C fl_RX10_158 (fun _ => ⟨hnm, rfl⟩) rfl hk100 na_of fa_of dX10_init_418 (fun m100 eK50 eN50 => ?_)
  refine z_aload_n C dX10_init_421 rfl 0 rfl ?_
  refine z_sipush (v := 1440) C dX10_init_422 (by decide) ?_
  refine z_newa2 (at0 := .int) (kd := 22) (N := 1440) C ac_int (by decide) (by decide) rfl (by decide) (by decide) (by decide) (by rw [hrm]; exact Nat.le_of_ble_eq_true rfl) (by rw [hrm]; exact Nat.le_of_ble_eq_true rfl) dX10_init_425 (fun a51 m101 hk101 => ?_)
  refine z_chk (fun hk102 => ?_)
  refine z_putR C fl_RX10_161 (fun _ => ⟨hnm, rfl⟩) rfl hk102 na_of fa_of dX10_init_427 (fun m102 eK51 eN51 => ?_)
  refine z_aload_n C dX10_init_430 rfl 0 rfl ?_
  refine z_sipush (v := 1440) C dX10_init_431 (by decide) ?_
  refine z_newa2 (at0 := .int) (kd := 22) (N := 1440) C ac_int (by decide) (by decide) rfl (by decide) (by decide) (by decide) (by rw [hrm]; exact Nat.le_of_ble_eq_true rfl) (by rw [hrm]; exact Nat.le_of_ble_eq_true rfl) dX10_init_434 (fun a52 m103 hk103 => ?_)
  refine z_chk (fun hk104 => ?_)
  refine z_putR C fl_RX10_164 (fun _ => ⟨hnm, rfl⟩) rfl hk104 na_of fa_of dX10_init_436 (fun m104 eK52 eN52 => ?_)
  refine z_aload_n C dX10_init_439 rfl 0 rfl ?_
  refine z_iconst (v := 3) C dX10_init_440 (by decide) ?_
  refine z_newa2 (at0 := .int) (kd := 22) (N := 3) C ac_int (by decide) (by decide) rfl (by decide) (by decide) (by decide) (by rw [hrm]; exact Nat.le_of_ble_eq_true rfl) (by rw [hrm]; exact Nat.le_of_ble_eq_true rfl) dX10_init_441 (fun a53 m105 hk105 => ?_)
  refine z_chk (fun hk106 => ?_)
  refine z_putR C fl_RX10_167 (fun _ => ⟨hnm, rfl⟩) rfl hk106 na_of fa_of dX10_init_443 (fun m106 eK53 eN53 => ?_)
  refine z_aload_n C dX10_init_446 rfl 0 rfl ?_
  refine z_bipush (v := 64) C dX10_init_447 (by decide) ?_
  refine z_newa2 (at0 := .boolean) (kd := 24) (N := 64) C ac_boolean (by decide) (by decide) rfl (by decide) (by decide) (by decide) (by rw [hrm]; exact Nat.le_of_ble_eq_true rfl) (by rw [hrm]; exact Nat.le_of_ble_eq_true rfl) dX10_init_449 (fun a54 m107 hk107 => ?_)
  refine z_chk (fun hk108 => ?_)
  refine z_putR C fl_RX10_170 (fun _ => ⟨hnm, rfl⟩) rfl hk108 na_of fa_of dX10_init_451 (fun m108 eK54 eN54 => ?_)
  refine z_aload_n C dX10_init_454 rfl 0 rfl ?_
  refine z_bipush (v := 64) C dX10_init_455 (by decide) ?_
  refine z_newa2 (at0 := .boolean) (kd := 24) (N := 64) C ac_boolean (by decide) (by decide) rfl (by decide) (by decide) (by decide) (by rw [hrm]; exact Nat.le_of_ble_eq_true rfl) (by rw [hrm]; exact Nat.le_of_ble_eq_true rfl) dX10_init_457 (fun a55 m109 hk109 => ?_)
  refine z_chk (fun hk110 => ?_)
  refine z_putR C fl_RX10_174 (fun _ => ⟨hnm, rfl⟩) rfl hk110 na_of fa_of dX10_init_459 (fun m110 eK55 eN55 => ?_)
  refine z_aload_n C dX10_init_462 rfl 0 rfl ?_
  refine z_iconst (v := 3) C dX10_init_463 (by decide) ?_
  refine z_newa2 (at0 := .boolean) (kd := 24) (N := 3) C ac_boolean (by decide) (by decide) rfl (by decide) (by decide) (by decide) (by rw [hrm]; exact Nat.le_of_ble_eq_true rfl) (by rw [hrm]; exact Nat.le_of_ble_eq_true rfl) dX10_init_464 (fun a56 m111 hk111 => ?_)
  refine z_chk (fun hk112 => ?_)
  refine z_putR C fl_RX10_177 (fun _ => ⟨hnm, rfl⟩) rfl hk112 na_of fa_of dX10_init_466 (fun m112 eK56 eN56 => ?_)
  refine z_aload_n C dX10_init_469 rfl 0 rfl ?_
  refine z_getR C fl_RX10_20 rfl (kfw eK56 hk112) dX10_init_470 ?_
  refine z_iconst (v := 0) C dX10_init_473 (by decide) ?_
  refine z_iconst (v := (-1)) C dX10_init_474 (by decide) ?_
  refine z_ck (fun a57 hr1 hk113 => ?_)
  refine z_chk (fun hj1 => ?_)
  refine z_iast C hr1 hk113 hj1 dX10_init_475 (fun m113 eK57 eN57 => ?_)
  refine z_wid (k := 56) (n := 10846) (Nat.le_of_ble_eq_true rfl) (Nat.le_of_ble_eq_true rfl) ?_
  exact z_vret C hr dX10_init_476
theorem M_X10_init (l : Launch) (E : EX) (th : Nat) (m : MM) (r : Unit) (m2 : MM) (h : f_X10_init th m = some (r, m2)) : Met l yX10_init (.code yX10_init cX10_init 1 none :: TB) rmX10_init (va_Pc [.ref th] (St E m)) (QR E (emV r) m2) 56 10846 (AA E) :=
  met_of (em := emV) (plainFor_of_name rfl) (Nat.le_of_ble_eq_true rfl) (L0 := [(0, va_rf (some th))]) rfl (fun Γ _ hrm C hr hn => s_X10_init_0 C hr hrm hn th m) h

theorem dX10_in_0 : decode cX10_in 0 = .ok (.iload_n 0, 1) := by decide +kernel
theorem dX10_in_1 : decode cX10_in 1 = .ok (.iload_n 1, 1) := by decide +kernel
theorem dX10_in_2 : decode cX10_in 2 = .ok (.if_icmp .lt 12, 3) := by decide +kernel
theorem dX10_in_5 : decode cX10_in 5 = .ok (.iload_n 0, 1) := by decide +kernel
theorem dX10_in_6 : decode cX10_in 6 = .ok (.iload_n 2, 1) := by decide +kernel
theorem dX10_in_7 : decode cX10_in 7 = .ok (.if_icmp .gt 7, 3) := by decide +kernel
theorem dX10_in_10 : decode cX10_in 10 = .ok (.iconst 1, 1) := by decide +kernel
theorem dX10_in_11 : decode cX10_in 11 = .ok (.goto 4, 3) := by decide +kernel
theorem dX10_in_14 : decode cX10_in 14 = .ok (.iconst 0, 1) := by decide +kernel
theorem dX10_in_15 : decode cX10_in 15 = .ok (.ireturn, 1) := by decide +kernel
def rmX10_in : Room := { frames := 0, cells := 0, slots := 0, locals := 0 }
set_option maxRecDepth 100000 in
def g_X10_in_14 (p0 : Int32) (p1 : Int32) (p2 : Int32) (m : MM) : Option (Int32 × MM) :=
  some (0, m)
set_option maxHeartbeats 4000000 in
set_option maxRecDepth 100000 in
theorem s_X10_in_14 {Γ : GX} {E : EX} (C : Cx Γ E cX10_in RX10 3) (hr : Γ.meth.sig.returnType = (some .boolean)) (hrm : Γ.rm = rmX10_in) (p0 : Int32) (p1 : Int32) (p2 : Int32) (m : MM) : Sm (QM Γ E emI 0 0) Γ E 3 0 0 14 [(0, .int p0), (1, .int p1), (2, .int p2)] [] m (g_X10_in_14 p0 p1 p2 m) := by
  unfold g_X10_in_14
  refine z_iconst (v := 0) C dX10_in_14 (by decide) ?_
  exact z_zret C hr rfl dX10_in_15
set_option maxRecDepth 100000 in
def g_X10_in_0 (p0 : Int32) (p1 : Int32) (p2 : Int32) (m : MM) : Option (Int32 × MM) :=
  if p0 < p1 then (g_X10_in_14 p0 p1 p2 m) else (if p2 < p0 then (g_X10_in_14 p0 p1 p2 m) else (some (1, m)))
set_option maxHeartbeats 4000000 in
set_option maxRecDepth 100000 in
theorem s_X10_in_0 {Γ : GX} {E : EX} (C : Cx Γ E cX10_in RX10 3) (hr : Γ.meth.sig.returnType = (some .boolean)) (hrm : Γ.rm = rmX10_in) (p0 : Int32) (p1 : Int32) (p2 : Int32) (m : MM) : Sm (QM Γ E emI 0 0) Γ E 3 0 0 0 [(0, .int p0), (1, .int p1), (2, .int p2)] [] m (g_X10_in_0 p0 p1 p2 m) := by
  unfold g_X10_in_0
  refine z_iload_n C dX10_in_0 rfl 0 rfl ?_
  refine z_iload_n C dX10_in_1 rfl 1 rfl ?_
  refine z_icmp_lt (tgt := 14) C dX10_in_2 (by decide) (fun c1 => ?_) (fun c1 => ?_)
  · exact z_sub [0, 1, 2] rfl (s_X10_in_14 C hr hrm p0 p1 p2 m)
  · refine z_iload_n C dX10_in_5 rfl 0 rfl ?_
    refine z_iload_n C dX10_in_6 rfl 2 rfl ?_
    refine z_icmp_gt (tgt := 14) C dX10_in_7 (by decide) (fun c2 => ?_) (fun c2 => ?_)
    · exact z_sub [0, 1, 2] rfl (s_X10_in_14 C hr hrm p0 p1 p2 m)
    · refine z_iconst (v := 1) C dX10_in_10 (by decide) ?_
      refine z_goto (tgt := 15) C dX10_in_11 (by decide) ?_
      exact z_zret C hr rfl dX10_in_15
def f_X10_in (p0 : Int32) (p1 : Int32) (p2 : Int32) (m : MM) : Option (Int32 × MM) := g_X10_in_0 p0 p1 p2 m
theorem M_X10_in (l : Launch) (E : EX) (p0 : Int32) (p1 : Int32) (p2 : Int32) (m : MM) (r : Int32) (m2 : MM) (h : f_X10_in p0 p1 p2 m = some (r, m2)) : Met l yX10_in (.code yX10_in cX10_in 3 (some .boolean) :: TB) rmX10_in (va_Pc [.int p0, .int p1, .int p2] (St E m)) (QR E (emI r) m2) 0 0 (AA E) :=
  met_of (em := emI) (plainFor_of_name rfl) (Nat.le_of_ble_eq_true rfl) (L0 := [(0, .int p0), (1, .int p1), (2, .int p2)]) rfl (fun Γ _ hrm C hr hn => s_X10_in_0 C hr hrm p0 p1 p2 m) h

theorem dX10_move_0 : decode cX10_move 0 = .ok (.iconst 0, 1) := by decide +kernel
theorem dX10_move_1 : decode cX10_move 1 = .ok (.istore 4, 2) := by decide +kernel
theorem dX10_move_3 : decode cX10_move 3 = .ok (.iload 4, 2) := by decide +kernel
theorem dX10_move_5 : decode cX10_move 5 = .ok (.iload_n 1, 1) := by decide +kernel
theorem dX10_move_6 : decode cX10_move 6 = .ok (.if_icmp .ge 25, 3) := by decide +kernel
theorem dX10_move_9 : decode cX10_move 9 = .ok (.aload_n 0, 1) := by decide +kernel
theorem dX10_move_10 : decode cX10_move 10 = .ok (.iload_n 1, 1) := by decide +kernel
theorem dX10_move_11 : decode cX10_move 11 = .ok (.iload_n 3, 1) := by decide +kernel
theorem dX10_move_12 : decode cX10_move 12 = .ok (.imul, 1) := by decide +kernel
theorem dX10_move_13 : decode cX10_move 13 = .ok (.iload 4, 2) := by decide +kernel
theorem dX10_move_15 : decode cX10_move 15 = .ok (.iadd, 1) := by decide +kernel
theorem dX10_move_16 : decode cX10_move 16 = .ok (.aload_n 0, 1) := by decide +kernel
theorem dX10_move_17 : decode cX10_move 17 = .ok (.iload_n 1, 1) := by decide +kernel
theorem dX10_move_18 : decode cX10_move 18 = .ok (.iload_n 2, 1) := by decide +kernel
theorem dX10_move_19 : decode cX10_move 19 = .ok (.imul, 1) := by decide +kernel
theorem dX10_move_20 : decode cX10_move 20 = .ok (.iload 4, 2) := by decide +kernel
theorem dX10_move_22 : decode cX10_move 22 = .ok (.iadd, 1) := by decide +kernel
theorem dX10_move_23 : decode cX10_move 23 = .ok (.iaload, 1) := by decide +kernel
theorem dX10_move_24 : decode cX10_move 24 = .ok (.iastore, 1) := by decide +kernel
theorem dX10_move_25 : decode cX10_move 25 = .ok (.iinc 4 1, 3) := by decide +kernel
theorem dX10_move_28 : decode cX10_move 28 = .ok (.goto (-25), 3) := by decide +kernel
theorem dX10_move_31 : decode cX10_move 31 = .ok (.return_, 1) := by decide +kernel
def rmX10_move : Room := { frames := 0, cells := 0, slots := 0, locals := 0 }
set_option maxRecDepth 100000 in
def g_X10_move_3 (p0 : Option Nat) (p1 : Int32) (p2 : Int32) (p3 : Int32) (k3 : Int32 → MM → Option (Unit × MM)) (x4 : Int32) (m : MM) : Option (Unit × MM) :=
  if p1 ≤ x4 then (some ((), m)) else (ck m p0 22 (fun a1 => chk (inb ((p1 * p2) + x4) (m.N a1) = true) (chk (inb ((p1 * p3) + x4) (m.N a1) = true) (bnd (m.sI 22 a1 (Int32.toNatClampNeg ((p1 * p3) + x4)) (m.I 22 a1 (Int32.toNatClampNeg ((p1 * p2) + x4)))) (fun m1 => k3 (x4 + 1) m1)))))
set_option maxHeartbeats 4000000 in
set_option maxRecDepth 100000 in
theorem s_X10_move_3 {Γ : GX} {E : EX} (C : Cx Γ E cX10_move RX10 5) (hr : Γ.meth.sig.returnType = none) (hrm : Γ.rm = rmX10_move) (p0 : Option Nat) (p1 : Int32) (p2 : Int32) (p3 : Int32) (k3 : Int32 → MM → Option (Unit × MM)) (h3 : ∀ (x4 : Int32) (m : MM), Sm (QM Γ E emV 0 0) Γ E 5 0 0 3 [(0, va_rf p0), (1, .int p1), (2, .int p2), (3, .int p3), (4, .int x4)] [] m (k3 x4 m)) (x4 : Int32) (m : MM) : Sm (QM Γ E emV 0 0) Γ E 5 0 0 3 [(0, va_rf p0), (1, .int p1), (2, .int p2), (3, .int p3), (4, .int x4)] [] m (g_X10_move_3 p0 p1 p2 p3 k3 x4 m) := by
  unfold g_X10_move_3
  refine z_iload C dX10_move_3 4 rfl ?_
  refine z_iload_n C dX10_move_5 rfl 1 rfl ?_
  refine z_icmp_ge (tgt := 31) C dX10_move_6 (by decide) (fun c1 => ?_) (fun c1 => ?_)
  · exact z_vret C hr dX10_move_31
  · refine z_aload_n C dX10_move_9 rfl 0 rfl ?_
    refine z_iload_n C dX10_move_10 rfl 1 rfl ?_
    refine z_iload_n C dX10_move_11 rfl 3 rfl ?_
    refine z_imul C dX10_move_12 ?_
    refine z_iload C dX10_move_13 4 rfl ?_
    refine z_iadd C dX10_move_15 ?_
    refine z_aload_n C dX10_move_16 rfl 0 rfl ?_
    refine z_iload_n C dX10_move_17 rfl 1 rfl ?_
    refine z_iload_n C dX10_move_18 rfl 2 rfl ?_
    refine z_imul C dX10_move_19 ?_
    refine z_iload C dX10_move_20 4 rfl ?_
    refine z_iadd C dX10_move_22 ?_
    refine z_ck (fun a1 hr1 hk1 => ?_)
    refine z_chk (fun hj1 => ?_)
    refine z_iald C hr1 hk1 hj1 dX10_move_23 ?_
    refine z_chk (fun hj2 => ?_)
    refine z_iast C hr1 hk1 hj2 dX10_move_24 (fun m1 eK1 eN1 => ?_)
    refine z_iinc (v := 1) (L2 := [(4, .int (x4 + 1)), (0, va_rf p0), (1, .int p1), (2, .int p2), (3, .int p3)]) C dX10_move_25 4 rfl (by decide) (by decide) rfl ?_
    refine z_goto (tgt := 3) C dX10_move_28 (by decide) ?_
    exact z_sub [1, 2, 3, 4, 0] rfl (h3 (x4 + 1) m1)
def l_X10_move_3 (p0 : Option Nat) (p1 : Int32) (p2 : Int32) (p3 : Int32) : Nat → Int32 → MM → Option (Unit × MM) := lp (fun _ _ => none) (fun k3 => g_X10_move_3 p0 p1 p2 p3 k3)
theorem t_X10_move_3 {Γ : GX} {E : EX} (C : Cx Γ E cX10_move RX10 5) (hr : Γ.meth.sig.returnType = none) (hrm : Γ.rm = rmX10_move) (p0 : Option Nat) (p1 : Int32) (p2 : Int32) (p3 : Int32) : ∀ (n : Nat) (x4 : Int32) (m : MM), Sm (QM Γ E emV 0 0) Γ E 5 0 0 3 [(0, va_rf p0), (1, .int p1), (2, .int p2), (3, .int p3), (4, .int x4)] [] m (l_X10_move_3 p0 p1 p2 p3 n x4 m) := by
  intro n
  induction n with
  | zero => intros; exact z_none
  | succ n ih => intro x4 m; exact s_X10_move_3 C hr hrm p0 p1 p2 p3 (l_X10_move_3 p0 p1 p2 p3 n) ih x4 m
set_option maxRecDepth 100000 in
def g_X10_move_0 (p0 : Option Nat) (p1 : Int32) (p2 : Int32) (p3 : Int32) (m : MM) : Option (Unit × MM) :=
  l_X10_move_3 p0 p1 p2 p3 FU 0 m
set_option maxHeartbeats 4000000 in
set_option maxRecDepth 100000 in
theorem s_X10_move_0 {Γ : GX} {E : EX} (C : Cx Γ E cX10_move RX10 5) (hr : Γ.meth.sig.returnType = none) (hrm : Γ.rm = rmX10_move) (p0 : Option Nat) (p1 : Int32) (p2 : Int32) (p3 : Int32) (m : MM) : Sm (QM Γ E emV 0 0) Γ E 5 0 0 0 [(0, va_rf p0), (1, .int p1), (2, .int p2), (3, .int p3)] [] m (g_X10_move_0 p0 p1 p2 p3 m) := by
  unfold g_X10_move_0
  refine z_iconst (v := 0) C dX10_move_0 (by decide) ?_
  refine z_istore (i := 4) (L2 := [(4, .int 0), (0, va_rf p0), (1, .int p1), (2, .int p2), (3, .int p3)]) C dX10_move_1 (by decide) rfl ?_
  exact z_sub [1, 2, 3, 4, 0] rfl (t_X10_move_3 C hr hrm p0 p1 p2 p3 FU 0 m)
def f_X10_move (p0 : Option Nat) (p1 : Int32) (p2 : Int32) (p3 : Int32) (m : MM) : Option (Unit × MM) := g_X10_move_0 p0 p1 p2 p3 m
theorem M_X10_move (l : Launch) (E : EX) (p0 : Option Nat) (p1 : Int32) (p2 : Int32) (p3 : Int32) (m : MM) (r : Unit) (m2 : MM) (h : f_X10_move p0 p1 p2 p3 m = some (r, m2)) : Met l yX10_move (.code yX10_move cX10_move 5 none :: TB) rmX10_move (va_Pc [va_rf p0, .int p1, .int p2, .int p3] (St E m)) (QR E (emV r) m2) 0 0 (AA E) :=
  met_of (em := emV) (plainFor_of_name rfl) (by simp [lg_sl, cat_rf, cat_i, cat_l, cat_a]) (L0 := [(0, va_rf p0), (1, .int p1), (2, .int p2), (3, .int p3)]) (by simp [lv_args, cat_rf, cat_i, cat_l, cat_a] <;> rfl) (fun Γ _ hrm C hr hn => s_X10_move_0 C hr hrm p0 p1 p2 p3 m) h

theorem dX10_copy_0 : decode cX10_copy 0 = .ok (.iconst 0, 1) := by decide +kernel
theorem dX10_copy_1 : decode cX10_copy 1 = .ok (.istore_n 3, 1) := by decide +kernel
theorem dX10_copy_2 : decode cX10_copy 2 = .ok (.iload_n 3, 1) := by decide +kernel
theorem dX10_copy_3 : decode cX10_copy 3 = .ok (.sipush 500, 3) := by decide +kernel
theorem dX10_copy_6 : decode cX10_copy 6 = .ok (.if_icmp .ge 33, 3) := by decide +kernel
theorem dX10_copy_9 : decode cX10_copy 9 = .ok (.aload_n 0, 1) := by decide +kernel
theorem dX10_copy_10 : decode cX10_copy 10 = .ok (.getfield 7, 3) := by decide +kernel
theorem dX10_copy_13 : decode cX10_copy 13 = .ok (.sipush 500, 3) := by decide +kernel
theorem dX10_copy_16 : decode cX10_copy 16 = .ok (.iload_n 2, 1) := by decide +kernel
theorem dX10_copy_17 : decode cX10_copy 17 = .ok (.imul, 1) := by decide +kernel
theorem dX10_copy_18 : decode cX10_copy 18 = .ok (.iload_n 3, 1) := by decide +kernel
theorem dX10_copy_19 : decode cX10_copy 19 = .ok (.iadd, 1) := by decide +kernel
theorem dX10_copy_20 : decode cX10_copy 20 = .ok (.aload_n 0, 1) := by decide +kernel
theorem dX10_copy_21 : decode cX10_copy 21 = .ok (.getfield 7, 3) := by decide +kernel
theorem dX10_copy_24 : decode cX10_copy 24 = .ok (.sipush 500, 3) := by decide +kernel
theorem dX10_copy_27 : decode cX10_copy 27 = .ok (.iload_n 1, 1) := by decide +kernel
theorem dX10_copy_28 : decode cX10_copy 28 = .ok (.imul, 1) := by decide +kernel
theorem dX10_copy_29 : decode cX10_copy 29 = .ok (.iload_n 3, 1) := by decide +kernel
theorem dX10_copy_30 : decode cX10_copy 30 = .ok (.iadd, 1) := by decide +kernel
theorem dX10_copy_31 : decode cX10_copy 31 = .ok (.baload, 1) := by decide +kernel
theorem dX10_copy_32 : decode cX10_copy 32 = .ok (.bastore, 1) := by decide +kernel
theorem dX10_copy_33 : decode cX10_copy 33 = .ok (.iinc 3 1, 3) := by decide +kernel
theorem dX10_copy_36 : decode cX10_copy 36 = .ok (.goto (-34), 3) := by decide +kernel
theorem dX10_copy_39 : decode cX10_copy 39 = .ok (.aload_n 0, 1) := by decide +kernel
theorem dX10_copy_40 : decode cX10_copy 40 = .ok (.getfield 13, 3) := by decide +kernel
theorem dX10_copy_43 : decode cX10_copy 43 = .ok (.iconst 1, 1) := by decide +kernel
theorem dX10_copy_44 : decode cX10_copy 44 = .ok (.iload_n 1, 1) := by decide +kernel
theorem dX10_copy_45 : decode cX10_copy 45 = .ok (.iload_n 2, 1) := by decide +kernel
theorem dX10_copy_46 : decode cX10_copy 46 = .ok (.invokestatic 184, 3) := by decide +kernel
theorem dX10_copy_49 : decode cX10_copy 49 = .ok (.aload_n 0, 1) := by decide +kernel
theorem dX10_copy_50 : decode cX10_copy 50 = .ok (.getfield 17, 3) := by decide +kernel
theorem dX10_copy_53 : decode cX10_copy 53 = .ok (.iconst 1, 1) := by decide +kernel
theorem dX10_copy_54 : decode cX10_copy 54 = .ok (.iload_n 1, 1) := by decide +kernel
theorem dX10_copy_55 : decode cX10_copy 55 = .ok (.iload_n 2, 1) := by decide +kernel
theorem dX10_copy_56 : decode cX10_copy 56 = .ok (.invokestatic 184, 3) := by decide +kernel
theorem dX10_copy_59 : decode cX10_copy 59 = .ok (.aload_n 0, 1) := by decide +kernel
theorem dX10_copy_60 : decode cX10_copy 60 = .ok (.getfield 20, 3) := by decide +kernel
theorem dX10_copy_63 : decode cX10_copy 63 = .ok (.iconst 1, 1) := by decide +kernel
theorem dX10_copy_64 : decode cX10_copy 64 = .ok (.iload_n 1, 1) := by decide +kernel
theorem dX10_copy_65 : decode cX10_copy 65 = .ok (.iload_n 2, 1) := by decide +kernel
theorem dX10_copy_66 : decode cX10_copy 66 = .ok (.invokestatic 184, 3) := by decide +kernel
theorem dX10_copy_69 : decode cX10_copy 69 = .ok (.aload_n 0, 1) := by decide +kernel
theorem dX10_copy_70 : decode cX10_copy 70 = .ok (.getfield 23, 3) := by decide +kernel
theorem dX10_copy_73 : decode cX10_copy 73 = .ok (.iconst 1, 1) := by decide +kernel
theorem dX10_copy_74 : decode cX10_copy 74 = .ok (.iload_n 1, 1) := by decide +kernel
theorem dX10_copy_75 : decode cX10_copy 75 = .ok (.iload_n 2, 1) := by decide +kernel
theorem dX10_copy_76 : decode cX10_copy 76 = .ok (.invokestatic 184, 3) := by decide +kernel
theorem dX10_copy_79 : decode cX10_copy 79 = .ok (.aload_n 0, 1) := by decide +kernel
theorem dX10_copy_80 : decode cX10_copy 80 = .ok (.getfield 26, 3) := by decide +kernel
theorem dX10_copy_83 : decode cX10_copy 83 = .ok (.bipush 96, 2) := by decide +kernel
theorem dX10_copy_85 : decode cX10_copy 85 = .ok (.iload_n 1, 1) := by decide +kernel
theorem dX10_copy_86 : decode cX10_copy 86 = .ok (.iload_n 2, 1) := by decide +kernel
theorem dX10_copy_87 : decode cX10_copy 87 = .ok (.invokestatic 184, 3) := by decide +kernel
theorem dX10_copy_90 : decode cX10_copy 90 = .ok (.aload_n 0, 1) := by decide +kernel
theorem dX10_copy_91 : decode cX10_copy 91 = .ok (.getfield 29, 3) := by decide +kernel
theorem dX10_copy_94 : decode cX10_copy 94 = .ok (.bipush 36, 2) := by decide +kernel
theorem dX10_copy_96 : decode cX10_copy 96 = .ok (.iload_n 1, 1) := by decide +kernel
theorem dX10_copy_97 : decode cX10_copy 97 = .ok (.iload_n 2, 1) := by decide +kernel
theorem dX10_copy_98 : decode cX10_copy 98 = .ok (.invokestatic 184, 3) := by decide +kernel
theorem dX10_copy_101 : decode cX10_copy 101 = .ok (.aload_n 0, 1) := by decide +kernel
theorem dX10_copy_102 : decode cX10_copy 102 = .ok (.getfield 32, 3) := by decide +kernel
theorem dX10_copy_105 : decode cX10_copy 105 = .ok (.bipush 36, 2) := by decide +kernel
theorem dX10_copy_107 : decode cX10_copy 107 = .ok (.iload_n 1, 1) := by decide +kernel
theorem dX10_copy_108 : decode cX10_copy 108 = .ok (.iload_n 2, 1) := by decide +kernel
theorem dX10_copy_109 : decode cX10_copy 109 = .ok (.invokestatic 184, 3) := by decide +kernel
theorem dX10_copy_112 : decode cX10_copy 112 = .ok (.aload_n 0, 1) := by decide +kernel
theorem dX10_copy_113 : decode cX10_copy 113 = .ok (.getfield 35, 3) := by decide +kernel
theorem dX10_copy_116 : decode cX10_copy 116 = .ok (.bipush 36, 2) := by decide +kernel
theorem dX10_copy_118 : decode cX10_copy 118 = .ok (.iload_n 1, 1) := by decide +kernel
theorem dX10_copy_119 : decode cX10_copy 119 = .ok (.iload_n 2, 1) := by decide +kernel
theorem dX10_copy_120 : decode cX10_copy 120 = .ok (.invokestatic 184, 3) := by decide +kernel
theorem dX10_copy_123 : decode cX10_copy 123 = .ok (.aload_n 0, 1) := by decide +kernel
theorem dX10_copy_124 : decode cX10_copy 124 = .ok (.getfield 38, 3) := by decide +kernel
theorem dX10_copy_127 : decode cX10_copy 127 = .ok (.bipush 36, 2) := by decide +kernel
theorem dX10_copy_129 : decode cX10_copy 129 = .ok (.iload_n 1, 1) := by decide +kernel
theorem dX10_copy_130 : decode cX10_copy 130 = .ok (.iload_n 2, 1) := by decide +kernel
theorem dX10_copy_131 : decode cX10_copy 131 = .ok (.invokestatic 184, 3) := by decide +kernel
theorem dX10_copy_134 : decode cX10_copy 134 = .ok (.aload_n 0, 1) := by decide +kernel
theorem dX10_copy_135 : decode cX10_copy 135 = .ok (.getfield 41, 3) := by decide +kernel
theorem dX10_copy_138 : decode cX10_copy 138 = .ok (.bipush 36, 2) := by decide +kernel
theorem dX10_copy_140 : decode cX10_copy 140 = .ok (.iload_n 1, 1) := by decide +kernel
theorem dX10_copy_141 : decode cX10_copy 141 = .ok (.iload_n 2, 1) := by decide +kernel
theorem dX10_copy_142 : decode cX10_copy 142 = .ok (.invokestatic 184, 3) := by decide +kernel
theorem dX10_copy_145 : decode cX10_copy 145 = .ok (.aload_n 0, 1) := by decide +kernel
theorem dX10_copy_146 : decode cX10_copy 146 = .ok (.getfield 44, 3) := by decide +kernel
theorem dX10_copy_149 : decode cX10_copy 149 = .ok (.bipush 36, 2) := by decide +kernel
theorem dX10_copy_151 : decode cX10_copy 151 = .ok (.iload_n 1, 1) := by decide +kernel
theorem dX10_copy_152 : decode cX10_copy 152 = .ok (.iload_n 2, 1) := by decide +kernel
theorem dX10_copy_153 : decode cX10_copy 153 = .ok (.invokestatic 184, 3) := by decide +kernel
theorem dX10_copy_156 : decode cX10_copy 156 = .ok (.aload_n 0, 1) := by decide +kernel
theorem dX10_copy_157 : decode cX10_copy 157 = .ok (.getfield 47, 3) := by decide +kernel
theorem dX10_copy_160 : decode cX10_copy 160 = .ok (.bipush 36, 2) := by decide +kernel
theorem dX10_copy_162 : decode cX10_copy 162 = .ok (.iload_n 1, 1) := by decide +kernel
theorem dX10_copy_163 : decode cX10_copy 163 = .ok (.iload_n 2, 1) := by decide +kernel
theorem dX10_copy_164 : decode cX10_copy 164 = .ok (.invokestatic 184, 3) := by decide +kernel
theorem dX10_copy_167 : decode cX10_copy 167 = .ok (.aload_n 0, 1) := by decide +kernel
theorem dX10_copy_168 : decode cX10_copy 168 = .ok (.getfield 50, 3) := by decide +kernel
theorem dX10_copy_171 : decode cX10_copy 171 = .ok (.bipush 36, 2) := by decide +kernel
theorem dX10_copy_173 : decode cX10_copy 173 = .ok (.iload_n 1, 1) := by decide +kernel
theorem dX10_copy_174 : decode cX10_copy 174 = .ok (.iload_n 2, 1) := by decide +kernel
theorem dX10_copy_175 : decode cX10_copy 175 = .ok (.invokestatic 184, 3) := by decide +kernel
theorem dX10_copy_178 : decode cX10_copy 178 = .ok (.aload_n 0, 1) := by decide +kernel
theorem dX10_copy_179 : decode cX10_copy 179 = .ok (.getfield 53, 3) := by decide +kernel
theorem dX10_copy_182 : decode cX10_copy 182 = .ok (.bipush 42, 2) := by decide +kernel
theorem dX10_copy_184 : decode cX10_copy 184 = .ok (.iload_n 1, 1) := by decide +kernel
theorem dX10_copy_185 : decode cX10_copy 185 = .ok (.iload_n 2, 1) := by decide +kernel
theorem dX10_copy_186 : decode cX10_copy 186 = .ok (.invokestatic 184, 3) := by decide +kernel
theorem dX10_copy_189 : decode cX10_copy 189 = .ok (.aload_n 0, 1) := by decide +kernel
theorem dX10_copy_190 : decode cX10_copy 190 = .ok (.getfield 56, 3) := by decide +kernel
theorem dX10_copy_193 : decode cX10_copy 193 = .ok (.bipush 42, 2) := by decide +kernel
theorem dX10_copy_195 : decode cX10_copy 195 = .ok (.iload_n 1, 1) := by decide +kernel
theorem dX10_copy_196 : decode cX10_copy 196 = .ok (.iload_n 2, 1) := by decide +kernel
theorem dX10_copy_197 : decode cX10_copy 197 = .ok (.invokestatic 184, 3) := by decide +kernel
theorem dX10_copy_200 : decode cX10_copy 200 = .ok (.aload_n 0, 1) := by decide +kernel
theorem dX10_copy_201 : decode cX10_copy 201 = .ok (.getfield 59, 3) := by decide +kernel
theorem dX10_copy_204 : decode cX10_copy 204 = .ok (.bipush 42, 2) := by decide +kernel
theorem dX10_copy_206 : decode cX10_copy 206 = .ok (.iload_n 1, 1) := by decide +kernel
theorem dX10_copy_207 : decode cX10_copy 207 = .ok (.iload_n 2, 1) := by decide +kernel
theorem dX10_copy_208 : decode cX10_copy 208 = .ok (.invokestatic 184, 3) := by decide +kernel
theorem dX10_copy_211 : decode cX10_copy 211 = .ok (.aload_n 0, 1) := by decide +kernel
theorem dX10_copy_212 : decode cX10_copy 212 = .ok (.getfield 62, 3) := by decide +kernel
theorem dX10_copy_215 : decode cX10_copy 215 = .ok (.bipush 42, 2) := by decide +kernel
theorem dX10_copy_217 : decode cX10_copy 217 = .ok (.iload_n 1, 1) := by decide +kernel
theorem dX10_copy_218 : decode cX10_copy 218 = .ok (.iload_n 2, 1) := by decide +kernel
theorem dX10_copy_219 : decode cX10_copy 219 = .ok (.invokestatic 184, 3) := by decide +kernel
theorem dX10_copy_222 : decode cX10_copy 222 = .ok (.aload_n 0, 1) := by decide +kernel
theorem dX10_copy_223 : decode cX10_copy 223 = .ok (.getfield 65, 3) := by decide +kernel
theorem dX10_copy_226 : decode cX10_copy 226 = .ok (.bipush 42, 2) := by decide +kernel
theorem dX10_copy_228 : decode cX10_copy 228 = .ok (.iload_n 1, 1) := by decide +kernel
theorem dX10_copy_229 : decode cX10_copy 229 = .ok (.iload_n 2, 1) := by decide +kernel
theorem dX10_copy_230 : decode cX10_copy 230 = .ok (.invokestatic 184, 3) := by decide +kernel
theorem dX10_copy_233 : decode cX10_copy 233 = .ok (.aload_n 0, 1) := by decide +kernel
theorem dX10_copy_234 : decode cX10_copy 234 = .ok (.getfield 68, 3) := by decide +kernel
theorem dX10_copy_237 : decode cX10_copy 237 = .ok (.bipush 36, 2) := by decide +kernel
theorem dX10_copy_239 : decode cX10_copy 239 = .ok (.iload_n 1, 1) := by decide +kernel
theorem dX10_copy_240 : decode cX10_copy 240 = .ok (.iload_n 2, 1) := by decide +kernel
theorem dX10_copy_241 : decode cX10_copy 241 = .ok (.invokestatic 184, 3) := by decide +kernel
theorem dX10_copy_244 : decode cX10_copy 244 = .ok (.aload_n 0, 1) := by decide +kernel
theorem dX10_copy_245 : decode cX10_copy 245 = .ok (.getfield 71, 3) := by decide +kernel
theorem dX10_copy_248 : decode cX10_copy 248 = .ok (.bipush 36, 2) := by decide +kernel
theorem dX10_copy_250 : decode cX10_copy 250 = .ok (.iload_n 1, 1) := by decide +kernel
theorem dX10_copy_251 : decode cX10_copy 251 = .ok (.iload_n 2, 1) := by decide +kernel
theorem dX10_copy_252 : decode cX10_copy 252 = .ok (.invokestatic 184, 3) := by decide +kernel
theorem dX10_copy_255 : decode cX10_copy 255 = .ok (.aload_n 0, 1) := by decide +kernel
theorem dX10_copy_256 : decode cX10_copy 256 = .ok (.getfield 74, 3) := by decide +kernel
theorem dX10_copy_259 : decode cX10_copy 259 = .ok (.bipush 36, 2) := by decide +kernel
theorem dX10_copy_261 : decode cX10_copy 261 = .ok (.iload_n 1, 1) := by decide +kernel
theorem dX10_copy_262 : decode cX10_copy 262 = .ok (.iload_n 2, 1) := by decide +kernel
theorem dX10_copy_263 : decode cX10_copy 263 = .ok (.invokestatic 184, 3) := by decide +kernel
theorem dX10_copy_266 : decode cX10_copy 266 = .ok (.aload_n 0, 1) := by decide +kernel
theorem dX10_copy_267 : decode cX10_copy 267 = .ok (.getfield 77, 3) := by decide +kernel
theorem dX10_copy_270 : decode cX10_copy 270 = .ok (.bipush 36, 2) := by decide +kernel
theorem dX10_copy_272 : decode cX10_copy 272 = .ok (.iload_n 1, 1) := by decide +kernel
theorem dX10_copy_273 : decode cX10_copy 273 = .ok (.iload_n 2, 1) := by decide +kernel
theorem dX10_copy_274 : decode cX10_copy 274 = .ok (.invokestatic 184, 3) := by decide +kernel
theorem dX10_copy_277 : decode cX10_copy 277 = .ok (.aload_n 0, 1) := by decide +kernel
theorem dX10_copy_278 : decode cX10_copy 278 = .ok (.getfield 80, 3) := by decide +kernel
theorem dX10_copy_281 : decode cX10_copy 281 = .ok (.bipush 36, 2) := by decide +kernel
theorem dX10_copy_283 : decode cX10_copy 283 = .ok (.iload_n 1, 1) := by decide +kernel
theorem dX10_copy_284 : decode cX10_copy 284 = .ok (.iload_n 2, 1) := by decide +kernel
theorem dX10_copy_285 : decode cX10_copy 285 = .ok (.invokestatic 184, 3) := by decide +kernel
theorem dX10_copy_288 : decode cX10_copy 288 = .ok (.aload_n 0, 1) := by decide +kernel
theorem dX10_copy_289 : decode cX10_copy 289 = .ok (.getfield 83, 3) := by decide +kernel
theorem dX10_copy_292 : decode cX10_copy 292 = .ok (.bipush 36, 2) := by decide +kernel
theorem dX10_copy_294 : decode cX10_copy 294 = .ok (.iload_n 1, 1) := by decide +kernel
theorem dX10_copy_295 : decode cX10_copy 295 = .ok (.iload_n 2, 1) := by decide +kernel
theorem dX10_copy_296 : decode cX10_copy 296 = .ok (.invokestatic 184, 3) := by decide +kernel
theorem dX10_copy_299 : decode cX10_copy 299 = .ok (.aload_n 0, 1) := by decide +kernel
theorem dX10_copy_300 : decode cX10_copy 300 = .ok (.getfield 86, 3) := by decide +kernel
theorem dX10_copy_303 : decode cX10_copy 303 = .ok (.bipush 9, 2) := by decide +kernel
theorem dX10_copy_305 : decode cX10_copy 305 = .ok (.iload_n 1, 1) := by decide +kernel
theorem dX10_copy_306 : decode cX10_copy 306 = .ok (.iload_n 2, 1) := by decide +kernel
theorem dX10_copy_307 : decode cX10_copy 307 = .ok (.invokestatic 184, 3) := by decide +kernel
theorem dX10_copy_310 : decode cX10_copy 310 = .ok (.aload_n 0, 1) := by decide +kernel
theorem dX10_copy_311 : decode cX10_copy 311 = .ok (.getfield 89, 3) := by decide +kernel
theorem dX10_copy_314 : decode cX10_copy 314 = .ok (.bipush 9, 2) := by decide +kernel
theorem dX10_copy_316 : decode cX10_copy 316 = .ok (.iload_n 1, 1) := by decide +kernel
theorem dX10_copy_317 : decode cX10_copy 317 = .ok (.iload_n 2, 1) := by decide +kernel
theorem dX10_copy_318 : decode cX10_copy 318 = .ok (.invokestatic 184, 3) := by decide +kernel
theorem dX10_copy_321 : decode cX10_copy 321 = .ok (.aload_n 0, 1) := by decide +kernel
theorem dX10_copy_322 : decode cX10_copy 322 = .ok (.getfield 92, 3) := by decide +kernel
theorem dX10_copy_325 : decode cX10_copy 325 = .ok (.iconst 1, 1) := by decide +kernel
theorem dX10_copy_326 : decode cX10_copy 326 = .ok (.iload_n 1, 1) := by decide +kernel
theorem dX10_copy_327 : decode cX10_copy 327 = .ok (.iload_n 2, 1) := by decide +kernel
theorem dX10_copy_328 : decode cX10_copy 328 = .ok (.invokestatic 184, 3) := by decide +kernel
theorem dX10_copy_331 : decode cX10_copy 331 = .ok (.aload_n 0, 1) := by decide +kernel
theorem dX10_copy_332 : decode cX10_copy 332 = .ok (.getfield 95, 3) := by decide +kernel
theorem dX10_copy_335 : decode cX10_copy 335 = .ok (.iconst 3, 1) := by decide +kernel
theorem dX10_copy_336 : decode cX10_copy 336 = .ok (.iload_n 1, 1) := by decide +kernel
theorem dX10_copy_337 : decode cX10_copy 337 = .ok (.iload_n 2, 1) := by decide +kernel
theorem dX10_copy_338 : decode cX10_copy 338 = .ok (.invokestatic 184, 3) := by decide +kernel
theorem dX10_copy_341 : decode cX10_copy 341 = .ok (.aload_n 0, 1) := by decide +kernel
theorem dX10_copy_342 : decode cX10_copy 342 = .ok (.getfield 98, 3) := by decide +kernel
theorem dX10_copy_345 : decode cX10_copy 345 = .ok (.iconst 3, 1) := by decide +kernel
theorem dX10_copy_346 : decode cX10_copy 346 = .ok (.iload_n 1, 1) := by decide +kernel
theorem dX10_copy_347 : decode cX10_copy 347 = .ok (.iload_n 2, 1) := by decide +kernel
theorem dX10_copy_348 : decode cX10_copy 348 = .ok (.invokestatic 184, 3) := by decide +kernel
theorem dX10_copy_351 : decode cX10_copy 351 = .ok (.aload_n 0, 1) := by decide +kernel
theorem dX10_copy_352 : decode cX10_copy 352 = .ok (.getfield 101, 3) := by decide +kernel
theorem dX10_copy_355 : decode cX10_copy 355 = .ok (.iconst 3, 1) := by decide +kernel
theorem dX10_copy_356 : decode cX10_copy 356 = .ok (.iload_n 1, 1) := by decide +kernel
theorem dX10_copy_357 : decode cX10_copy 357 = .ok (.iload_n 2, 1) := by decide +kernel
theorem dX10_copy_358 : decode cX10_copy 358 = .ok (.invokestatic 184, 3) := by decide +kernel
theorem dX10_copy_361 : decode cX10_copy 361 = .ok (.aload_n 0, 1) := by decide +kernel
theorem dX10_copy_362 : decode cX10_copy 362 = .ok (.getfield 104, 3) := by decide +kernel
theorem dX10_copy_365 : decode cX10_copy 365 = .ok (.iconst 3, 1) := by decide +kernel
theorem dX10_copy_366 : decode cX10_copy 366 = .ok (.iload_n 1, 1) := by decide +kernel
theorem dX10_copy_367 : decode cX10_copy 367 = .ok (.iload_n 2, 1) := by decide +kernel
theorem dX10_copy_368 : decode cX10_copy 368 = .ok (.invokestatic 184, 3) := by decide +kernel
theorem dX10_copy_371 : decode cX10_copy 371 = .ok (.aload_n 0, 1) := by decide +kernel
theorem dX10_copy_372 : decode cX10_copy 372 = .ok (.getfield 107, 3) := by decide +kernel
theorem dX10_copy_375 : decode cX10_copy 375 = .ok (.bipush 30, 2) := by decide +kernel
theorem dX10_copy_377 : decode cX10_copy 377 = .ok (.iload_n 1, 1) := by decide +kernel
theorem dX10_copy_378 : decode cX10_copy 378 = .ok (.iload_n 2, 1) := by decide +kernel
theorem dX10_copy_379 : decode cX10_copy 379 = .ok (.invokestatic 184, 3) := by decide +kernel
theorem dX10_copy_382 : decode cX10_copy 382 = .ok (.aload_n 0, 1) := by decide +kernel
theorem dX10_copy_383 : decode cX10_copy 383 = .ok (.getfield 110, 3) := by decide +kernel
theorem dX10_copy_386 : decode cX10_copy 386 = .ok (.bipush 30, 2) := by decide +kernel
theorem dX10_copy_388 : decode cX10_copy 388 = .ok (.iload_n 1, 1) := by decide +kernel
theorem dX10_copy_389 : decode cX10_copy 389 = .ok (.iload_n 2, 1) := by decide +kernel
theorem dX10_copy_390 : decode cX10_copy 390 = .ok (.invokestatic 184, 3) := by decide +kernel
theorem dX10_copy_393 : decode cX10_copy 393 = .ok (.aload_n 0, 1) := by decide +kernel
theorem dX10_copy_394 : decode cX10_copy 394 = .ok (.getfield 113, 3) := by decide +kernel
theorem dX10_copy_397 : decode cX10_copy 397 = .ok (.bipush 30, 2) := by decide +kernel
theorem dX10_copy_399 : decode cX10_copy 399 = .ok (.iload_n 1, 1) := by decide +kernel
theorem dX10_copy_400 : decode cX10_copy 400 = .ok (.iload_n 2, 1) := by decide +kernel
theorem dX10_copy_401 : decode cX10_copy 401 = .ok (.invokestatic 184, 3) := by decide +kernel
theorem dX10_copy_404 : decode cX10_copy 404 = .ok (.aload_n 0, 1) := by decide +kernel
theorem dX10_copy_405 : decode cX10_copy 405 = .ok (.getfield 116, 3) := by decide +kernel
theorem dX10_copy_408 : decode cX10_copy 408 = .ok (.bipush 30, 2) := by decide +kernel
theorem dX10_copy_410 : decode cX10_copy 410 = .ok (.iload_n 1, 1) := by decide +kernel
theorem dX10_copy_411 : decode cX10_copy 411 = .ok (.iload_n 2, 1) := by decide +kernel
theorem dX10_copy_412 : decode cX10_copy 412 = .ok (.invokestatic 184, 3) := by decide +kernel
theorem dX10_copy_415 : decode cX10_copy 415 = .ok (.aload_n 0, 1) := by decide +kernel
theorem dX10_copy_416 : decode cX10_copy 416 = .ok (.getfield 119, 3) := by decide +kernel
theorem dX10_copy_419 : decode cX10_copy 419 = .ok (.bipush 30, 2) := by decide +kernel
theorem dX10_copy_421 : decode cX10_copy 421 = .ok (.iload_n 1, 1) := by decide +kernel
theorem dX10_copy_422 : decode cX10_copy 422 = .ok (.iload_n 2, 1) := by decide +kernel
theorem dX10_copy_423 : decode cX10_copy 423 = .ok (.invokestatic 184, 3) := by decide +kernel
theorem dX10_copy_426 : decode cX10_copy 426 = .ok (.return_, 1) := by decide +kernel
def rmX10_copy : Room := { frames := 1, cells := 0, slots := 0, locals := 24 }
set_option maxRecDepth 100000 in
def g_X10_copy_2 (th : Nat) (p1 : Int32) (p2 : Int32) (k2 : Int32 → MM → Option (Unit × MM)) (k39 : MM → Option (Unit × MM)) (x3 : Int32) (m : MM) : Option (Unit × MM) :=
  if 500 ≤ x3 then (k39 m) else (chk (m.K th = 11) (ck m (m.R 1101 th 0) 21 (fun a1 => chk (inb ((500 * p1) + x3) (m.N a1) = true) (chk (inb ((500 * p2) + x3) (m.N a1) = true) (bnd (m.sI 21 a1 (Int32.toNatClampNeg ((500 * p2) + x3)) (Int32.toInt8 (m.I 21 a1 (Int32.toNatClampNeg ((500 * p1) + x3)))).toInt32) (fun m1 => k2 (x3 + 1) m1))))))
set_option maxHeartbeats 4000000 in
set_option maxRecDepth 100000 in
theorem s_X10_copy_2 {Γ : GX} {E : EX} (C : Cx Γ E cX10_copy RX10 4) (hr : Γ.meth.sig.returnType = none) (hrm : Γ.rm = rmX10_copy) (th : Nat) (p1 : Int32) (p2 : Int32) (k2 : Int32 → MM → Option (Unit × MM)) (k39 : MM → Option (Unit × MM)) (h2 : ∀ (x3 : Int32) (m : MM), Sm (QM Γ E emV 0 0) Γ E 4 0 0 2 [(0, va_rf (some th)), (1, .int p1), (2, .int p2), (3, .int x3)] [] m (k2 x3 m)) (h39 : ∀ (m : MM), Sm (QM Γ E emV 0 0) Γ E 4 0 0 39 [(0, va_rf (some th)), (1, .int p1), (2, .int p2)] [] m (k39 m)) (x3 : Int32) (m : MM) : Sm (QM Γ E emV 0 0) Γ E 4 0 0 2 [(0, va_rf (some th)), (1, .int p1), (2, .int p2), (3, .int x3)] [] m (g_X10_copy_2 th p1 p2 k2 k39 x3 m) := by
  unfold g_X10_copy_2
  refine z_iload_n C dX10_copy_2 rfl 3 rfl ?_
  refine z_sipush (v := 500) C dX10_copy_3 (by decide) ?_
  refine z_icmp_ge (tgt := 39) C dX10_copy_6 (by decide) (fun c1 => ?_) (fun c1 => ?_)
  · exact z_sub [0, 1, 2] rfl (h39 m)
  · refine z_aload_n C dX10_copy_9 rfl 0 rfl ?_
    refine z_chk (fun hk1 => ?_)
    refine z_getR C fl_RX10_7 rfl hk1 dX10_copy_10 ?_
    refine z_sipush (v := 500) C dX10_copy_13 (by decide) ?_
    refine z_iload_n C dX10_copy_16 rfl 2 rfl ?_
    refine z_imul C dX10_copy_17 ?_
    refine z_iload_n C dX10_copy_18 rfl 3 rfl ?_
    refine z_iadd C dX10_copy_19 ?_
    refine z_aload_n C dX10_copy_20 rfl 0 rfl ?_
    refine z_getR C fl_RX10_7 rfl hk1 dX10_copy_21 ?_
    refine z_sipush (v := 500) C dX10_copy_24 (by decide) ?_
    refine z_iload_n C dX10_copy_27 rfl 1 rfl ?_
    refine z_imul C dX10_copy_28 ?_
    refine z_iload_n C dX10_copy_29 rfl 3 rfl ?_
    refine z_iadd C dX10_copy_30 ?_
    refine z_ck (fun a1 hr1 hk2 => ?_)
    refine z_chk (fun hj1 => ?_)
    refine z_bald C hr1 hk2 hj1 dX10_copy_31 ?_
    refine z_chk (fun hj2 => ?_)
    refine z_bast C hr1 hk2 hj2 dX10_copy_32 (fun m1 eK1 eN1 => ?_)
    refine z_iinc (v := 1) (L2 := [(3, .int (x3 + 1)), (0, va_rf (some th)), (1, .int p1), (2, .int p2)]) C dX10_copy_33 3 rfl (by decide) (by decide) rfl ?_
    refine z_goto (tgt := 2) C dX10_copy_36 (by decide) ?_
    exact z_sub [1, 2, 3, 0] rfl (h2 (x3 + 1) m1)
def l_X10_copy_2 (th : Nat) (p1 : Int32) (p2 : Int32) (k39 : MM → Option (Unit × MM)) : Nat → Int32 → MM → Option (Unit × MM) := lp (fun _ _ => none) (fun k2 => g_X10_copy_2 th p1 p2 k2 k39)
theorem t_X10_copy_2 {Γ : GX} {E : EX} (C : Cx Γ E cX10_copy RX10 4) (hr : Γ.meth.sig.returnType = none) (hrm : Γ.rm = rmX10_copy) (th : Nat) (p1 : Int32) (p2 : Int32) (k39 : MM → Option (Unit × MM)) (h39 : ∀ (m : MM), Sm (QM Γ E emV 0 0) Γ E 4 0 0 39 [(0, va_rf (some th)), (1, .int p1), (2, .int p2)] [] m (k39 m)) : ∀ (n : Nat) (x3 : Int32) (m : MM), Sm (QM Γ E emV 0 0) Γ E 4 0 0 2 [(0, va_rf (some th)), (1, .int p1), (2, .int p2), (3, .int x3)] [] m (l_X10_copy_2 th p1 p2 k39 n x3 m) := by
  intro n
  induction n with
  | zero => intros; exact z_none
  | succ n ih => intro x3 m; exact s_X10_copy_2 C hr hrm th p1 p2 (l_X10_copy_2 th p1 p2 k39 n) k39 ih h39 x3 m
set_option maxRecDepth 100000 in
def g_X10_copy_39 (th : Nat) (p1 : Int32) (p2 : Int32) (m : MM) : Option (Unit × MM) :=
  chk (m.K th = 11) (cal (f_X10_move (m.R 1102 th 0) 1 p1 p2 m) (fun r1 m2 => chk (m2.K th = 11) (cal (f_X10_move (m2.R 1103 th 0) 1 p1 p2 m2) (fun r2 m3 => chk (m3.K th = 11) (cal (f_X10_move (m3.R 1104 th 0) 1 p1 p2 m3) (fun r3 m4 => chk (m4.K th = 11) (cal (f_X10_move (m4.R 1105 th 0) 1 p1 p2 m4) (fun r4 m5 => chk (m5.K th = 11) (cal (f_X10_move (m5.R 1106 th 0) 96 p1 p2 m5) (fun r5 m6 => chk (m6.K th = 11) (cal (f_X10_move (m6.R 1107 th 0) 36 p1 p2 m6) (fun r6 m7 => chk (m7.K th = 11) (cal (f_X10_move (m7.R 1108 th 0) 36 p1 p2 m7) (fun r7 m8 => chk (m8.K th = 11) (cal (f_X10_move (m8.R 1109 th 0) 36 p1 p2 m8) (fun r8 m9 => chk (m9.K th = 11) (cal (f_X10_move (m9.R 1110 th 0) 36 p1 p2 m9) (fun r9 m10 => chk (m10.K th = 11) (cal (f_X10_move (m10.R 1111 th 0) 36 p1 p2 m10) (fun r10 m11 => chk (m11.K th = 11) (cal (f_X10_move (m11.R 1112 th 0) 36 p1 p2 m11) (fun r11 m12 => chk (m12.K th = 11) (cal (f_X10_move (m12.R 1113 th 0) 36 p1 p2 m12) (fun r12 m13 => chk (m13.K th = 11) (cal (f_X10_move (m13.R 1114 th 0) 36 p1 p2 m13) (fun r13 m14 => chk (m14.K th = 11) (cal (f_X10_move (m14.R 1115 th 0) 42 p1 p2 m14) (fun r14 m15 => chk (m15.K th = 11) (cal (f_X10_move (m15.R 1116 th 0) 42 p1 p2 m15) (fun r15 m16 => chk (m16.K th = 11) (cal (f_X10_move (m16.R 1117 th 0) 42 p1 p2 m16) (fun r16 m17 => chk (m17.K th = 11) (cal (f_X10_move (m17.R 1118 th 0) 42 p1 p2 m17) (fun r17 m18 => chk (m18.K th = 11) (cal (f_X10_move (m18.R 1119 th 0) 42 p1 p2 m18) (fun r18 m19 => chk (m19.K th = 11) (cal (f_X10_move (m19.R 1120 th 0) 36 p1 p2 m19) (fun r19 m20 => chk (m20.K th = 11) (cal (f_X10_move (m20.R 1121 th 0) 36 p1 p2 m20) (fun r20 m21 => chk (m21.K th = 11) (cal (f_X10_move (m21.R 1122 th 0) 36 p1 p2 m21) (fun r21 m22 => chk (m22.K th = 11) (cal (f_X10_move (m22.R 1123 th 0) 36 p1 p2 m22) (fun r22 m23 => chk (m23.K th = 11) (cal (f_X10_move (m23.R 1124 th 0) 36 p1 p2 m23) (fun r23 m24 => chk (m24.K th = 11) (cal (f_X10_move (m24.R 1125 th 0) 36 p1 p2 m24) (fun r24 m25 => chk (m25.K th = 11) (cal (f_X10_move (m25.R 1126 th 0) 9 p1 p2 m25) (fun r25 m26 => chk (m26.K th = 11) (cal (f_X10_move (m26.R 1127 th 0) 9 p1 p2 m26) (fun r26 m27 => chk (m27.K th = 11) (cal (f_X10_move (m27.R 1128 th 0) 1 p1 p2 m27) (fun r27 m28 => chk (m28.K th = 11) (cal (f_X10_move (m28.R 1129 th 0) 3 p1 p2 m28) (fun r28 m29 => chk (m29.K th = 11) (cal (f_X10_move (m29.R 1130 th 0) 3 p1 p2 m29) (fun r29 m30 => chk (m30.K th = 11) (cal (f_X10_move (m30.R 1131 th 0) 3 p1 p2 m30) (fun r30 m31 => chk (m31.K th = 11) (cal (f_X10_move (m31.R 1132 th 0) 3 p1 p2 m31) (fun r31 m32 => chk (m32.K th = 11) (cal (f_X10_move (m32.R 1133 th 0) 30 p1 p2 m32) (fun r32 m33 => chk (m33.K th = 11) (cal (f_X10_move (m33.R 1134 th 0) 30 p1 p2 m33) (fun r33 m34 => chk (m34.K th = 11) (cal (f_X10_move (m34.R 1135 th 0) 30 p1 p2 m34) (fun r34 m35 => chk (m35.K th = 11) (cal (f_X10_move (m35.R 1136 th 0) 30 p1 p2 m35) (fun r35 m36 => chk (m36.K th = 11) (cal (f_X10_move (m36.R 1137 th 0) 30 p1 p2 m36) (fun r36 m37 => some ((), m37)))))))))))))))))))))))))))))))))))))))))))))))))))))))))))))))))))))))))
set_option maxHeartbeats 4000000 in
set_option maxRecDepth 100000 in
theorem s_X10_copy_39 {Γ : GX} {E : EX} (C : Cx Γ E cX10_copy RX10 4) (hr : Γ.meth.sig.returnType = none) (hrm : Γ.rm = rmX10_copy) (th : Nat) (p1 : Int32) (p2 : Int32) (m : MM) : Sm (QM Γ E emV 0 0) Γ E 4 0 0 39 [(0, va_rf (some th)), (1, .int p1), (2, .int p2)] [] m (g_X10_copy_39 th p1 p2 m) := by
  unfold g_X10_copy_39
  refine z_aload_n C dX10_copy_39 rfl 0 rfl ?_
  refine z_chk (fun hk3 => ?_)
  refine z_getR C fl_RX10_13 rfl hk3 dX10_copy_40 ?_
  refine z_iconst (v := 1) C dX10_copy_43 (by decide) ?_
  refine z_iload_n C dX10_copy_44 rfl 1 rfl ?_
  refine z_iload_n C dX10_copy_45 rfl 2 rfl ?_
  refine z_cSV [va_rf (m.R 1102 th 0), .int 1, .int p1, .int p2] [] C mv_RX10_184 (fun r0 m0 h0 => M_X10_move _ _ _ _ _ _ _ _ _ h0) rfl rfl ⟨by rw [hrm]; exact Nat.le_of_ble_eq_true rfl, by rw [hrm]; exact Nat.le_of_ble_eq_true rfl⟩ ⟨by rw [hrm]; exact Nat.le_of_ble_eq_true rfl, by rw [hrm]; exact Nat.le_of_ble_eq_true rfl⟩ rfl rfl (Nat.le_of_ble_eq_true rfl) dX10_copy_46 (fun r1 m2 => ?_)
  refine z_aload_n C dX10_copy_49 rfl 0 rfl ?_
  refine z_chk (fun hk4 => ?_)
  refine z_getR C fl_RX10_17 rfl hk4 dX10_copy_50 ?_
  refine z_iconst (v := 1) C dX10_copy_53 (by decide) ?_
  refine z_iload_n C dX10_copy_54 rfl 1 rfl ?_
  refine z_iload_n C dX10_copy_55 rfl 2 rfl ?_
  refine z_cSV [va_rf (m2.R 1103 th 0), .int 1, .int p1, .int p2] [] C mv_RX10_184 (fun r0 m0 h0 => M_X10_move _ _ _ _ _ _ _ _ _ h0) rfl rfl ⟨by rw [hrm]; exact Nat.le_of_ble_eq_true rfl, by rw [hrm]; exact Nat.le_of_ble_eq_true rfl⟩ ⟨by rw [hrm]; exact Nat.le_of_ble_eq_true rfl, by rw [hrm]; exact Nat.le_of_ble_eq_true rfl⟩ rfl rfl (Nat.le_of_ble_eq_true rfl) dX10_copy_56 (fun r2 m3 => ?_)
  refine z_aload_n C dX10_copy_59 rfl 0 rfl ?_
  refine z_chk (fun hk5 => ?_)
  refine z_getR C fl_RX10_20 rfl hk5 dX10_copy_60 ?_
  refine z_iconst (v := 1) C dX10_copy_63 (by decide) ?_
  refine z_iload_n C dX10_copy_64 rfl 1 rfl ?_
  refine z_iload_n C dX10_copy_65 rfl 2 rfl ?_
  refine z_cSV [va_rf (m3.R 1104 th 0), .int 1, .int p1, .int p2] [] C mv_RX10_184 (fun r0 m0 h0 => M_X10_move _ _ _ _ _ _ _ _ _ h0) rfl rfl ⟨by rw [hrm]; exact Nat.le_of_ble_eq_true rfl, by rw [hrm]; exact Nat.le_of_ble_eq_true rfl⟩ ⟨by rw [hrm]; exact Nat.le_of_ble_eq_true rfl, by rw [hrm]; exact Nat.le_of_ble_eq_true rfl⟩ rfl rfl (Nat.le_of_ble_eq_true rfl) dX10_copy_66 (fun r3 m4 => ?_)
  refine z_aload_n C dX10_copy_69 rfl 0 rfl ?_
  refine z_chk (fun hk6 => ?_)
  refine z_getR C fl_RX10_23 rfl hk6 dX10_copy_70 ?_
  refine z_iconst (v := 1) C dX10_copy_73 (by decide) ?_
  refine z_iload_n C dX10_copy_74 rfl 1 rfl ?_
  refine z_iload_n C dX10_copy_75 rfl 2 rfl ?_
  refine z_cSV [va_rf (m4.R 1105 th 0), .int 1, .int p1, .int p2] [] C mv_RX10_184 (fun r0 m0 h0 => M_X10_move _ _ _ _ _ _ _ _ _ h0) rfl rfl ⟨by rw [hrm]; exact Nat.le_of_ble_eq_true rfl, by rw [hrm]; exact Nat.le_of_ble_eq_true rfl⟩ ⟨by rw [hrm]; exact Nat.le_of_ble_eq_true rfl, by rw [hrm]; exact Nat.le_of_ble_eq_true rfl⟩ rfl rfl (Nat.le_of_ble_eq_true rfl) dX10_copy_76 (fun r4 m5 => ?_)
  refine z_aload_n C dX10_copy_79 rfl 0 rfl ?_
  refine z_chk (fun hk7 => ?_)
  refine z_getR C fl_RX10_26 rfl hk7 dX10_copy_80 ?_
  refine z_bipush (v := 96) C dX10_copy_83 (by decide) ?_
  refine z_iload_n C dX10_copy_85 rfl 1 rfl ?_
  refine z_iload_n C dX10_copy_86 rfl 2 rfl ?_
  refine z_cSV [va_rf (m5.R 1106 th 0), .int 96, .int p1, .int p2] [] C mv_RX10_184 (fun r0 m0 h0 => M_X10_move _ _ _ _ _ _ _ _ _ h0) rfl rfl ⟨by rw [hrm]; exact Nat.le_of_ble_eq_true rfl, by rw [hrm]; exact Nat.le_of_ble_eq_true rfl⟩ ⟨by rw [hrm]; exact Nat.le_of_ble_eq_true rfl, by rw [hrm]; exact Nat.le_of_ble_eq_true rfl⟩ rfl rfl (Nat.le_of_ble_eq_true rfl) dX10_copy_87 (fun r5 m6 => ?_)
  refine z_aload_n C dX10_copy_90 rfl 0 rfl ?_
  refine z_chk (fun hk8 => ?_)
  refine z_getR C fl_RX10_29 rfl hk8 dX10_copy_91 ?_
  refine z_bipush (v := 36) C dX10_copy_94 (by decide) ?_
  refine z_iload_n C dX10_copy_96 rfl 1 rfl ?_
  refine z_iload_n C dX10_copy_97 rfl 2 rfl ?_
  refine z_cSV [va_rf (m6.R 1107 th 0), .int 36, .int p1, .int p2] [] C mv_RX10_184 (fun r0 m0 h0 => M_X10_move _ _ _ _ _ _ _ _ _ h0) rfl rfl ⟨by rw [hrm]; exact Nat.le_of_ble_eq_true rfl, by rw [hrm]; exact Nat.le_of_ble_eq_true rfl⟩ ⟨by rw [hrm]; exact Nat.le_of_ble_eq_true rfl, by rw [hrm]; exact Nat.le_of_ble_eq_true rfl⟩ rfl rfl (Nat.le_of_ble_eq_true rfl) dX10_copy_98 (fun r6 m7 => ?_)
  refine z_aload_n C dX10_copy_101 rfl 0 rfl ?_
  refine z_chk (fun hk9 => ?_)
  refine z_getR C fl_RX10_32 rfl hk9 dX10_copy_102 ?_
  refine z_bipush (v := 36) C dX10_copy_105 (by decide) ?_
  refine z_iload_n C dX10_copy_107 rfl 1 rfl ?_
  refine z_iload_n C dX10_copy_108 rfl 2 rfl ?_
  refine z_cSV [va_rf (m7.R 1108 th 0), .int 36, .int p1, .int p2] [] C mv_RX10_184 (fun r0 m0 h0 => M_X10_move _ _ _ _ _ _ _ _ _ h0) rfl rfl ⟨by rw [hrm]; exact Nat.le_of_ble_eq_true rfl, by rw [hrm]; exact Nat.le_of_ble_eq_true rfl⟩ ⟨by rw [hrm]; exact Nat.le_of_ble_eq_true rfl, by rw [hrm]; exact Nat.le_of_ble_eq_true rfl⟩ rfl rfl (Nat.le_of_ble_eq_true rfl) dX10_copy_109 (fun r7 m8 => ?_)
  refine z_aload_n C dX10_copy_112 rfl 0 rfl ?_
  refine z_chk (fun hk10 => ?_)
  refine z_getR C fl_RX10_35 rfl hk10 dX10_copy_113 ?_
  refine z_bipush (v := 36) C dX10_copy_116 (by decide) ?_
  refine z_iload_n C dX10_copy_118 rfl 1 rfl ?_
  refine z_iload_n C dX10_copy_119 rfl 2 rfl ?_
  refine z_cSV [va_rf (m8.R 1109 th 0), .int 36, .int p1, .int p2] [] C mv_RX10_184 (fun r0 m0 h0 => M_X10_move _ _ _ _ _ _ _ _ _ h0) rfl rfl ⟨by rw [hrm]; exact Nat.le_of_ble_eq_true rfl, by rw [hrm]; exact Nat.le_of_ble_eq_true rfl⟩ ⟨by rw [hrm]; exact Nat.le_of_ble_eq_true rfl, by rw [hrm]; exact Nat.le_of_ble_eq_true rfl⟩ rfl rfl (Nat.le_of_ble_eq_true rfl) dX10_copy_120 (fun r8 m9 => ?_)
  refine z_aload_n C dX10_copy_123 rfl 0 rfl ?_
  refine z_chk (fun hk11 => ?_)
  refine z_getR C fl_RX10_38 rfl hk11 dX10_copy_124 ?_
  refine z_bipush (v := 36) C dX10_copy_127 (by decide) ?_
  refine z_iload_n C dX10_copy_129 rfl 1 rfl ?_
  refine z_iload_n C dX10_copy_130 rfl 2 rfl ?_
  refine z_cSV [va_rf (m9.R 1110 th 0), .int 36, .int p1, .int p2] [] C mv_RX10_184 (fun r0 m0 h0 => M_X10_move _ _ _ _ _ _ _ _ _ h0) rfl rfl ⟨by rw [hrm]; exact Nat.le_of_ble_eq_true rfl, by rw [hrm]; exact Nat.le_of_ble_eq_true rfl⟩ ⟨by rw [hrm]; exact Nat.le_of_ble_eq_true rfl, by rw [hrm]; exact Nat.le_of_ble_eq_true rfl⟩ rfl rfl (Nat.le_of_ble_eq_true rfl) dX10_copy_131 (fun r9 m10 => ?_)
  refine z_aload_n C dX10_copy_134 rfl 0 rfl ?_
  refine z_chk (fun hk12 => ?_)
  refine z_getR C fl_RX10_41 rfl hk12 dX10_copy_135 ?_
  refine z_bipush (v := 36) C dX10_copy_138 (by decide) ?_
  refine z_iload_n C dX10_copy_140 rfl 1 rfl ?_
  refine z_iload_n C dX10_copy_141 rfl 2 rfl ?_
  refine z_cSV [va_rf (m10.R 1111 th 0), .int 36, .int p1, .int p2] [] C mv_RX10_184 (fun r0 m0 h0 => M_X10_move _ _ _ _ _ _ _ _ _ h0) rfl rfl ⟨by rw [hrm]; exact Nat.le_of_ble_eq_true rfl, by rw [hrm]; exact Nat.le_of_ble_eq_true rfl⟩ ⟨by rw [hrm]; exact Nat.le_of_ble_eq_true rfl, by rw [hrm]; exact Nat.le_of_ble_eq_true rfl⟩ rfl rfl (Nat.le_of_ble_eq_true rfl) dX10_copy_142 (fun r10 m11 => ?_)
  refine z_aload_n C dX10_copy_145 rfl 0 rfl ?_
  refine z_chk (fun hk13 => ?_)
  refine z_getR C fl_RX10_44 rfl hk13 dX10_copy_146 ?_
  refine z_bipush (v := 36) C dX10_copy_149 (by decide) ?_
  refine z_iload_n C dX10_copy_151 rfl 1 rfl ?_
  refine z_iload_n C dX10_copy_152 rfl 2 rfl ?_
  refine z_cSV [va_rf (m11.R 1112 th 0), .int 36, .int p1, .int p2] [] C mv_RX10_184 (fun r0 m0 h0 => M_X10_move _ _ _ _ _ _ _ _ _ h0) rfl rfl ⟨by rw [hrm]; exact Nat.le_of_ble_eq_true rfl, by rw [hrm]; exact Nat.le_of_ble_eq_true rfl⟩ ⟨by rw [hrm]; exact Nat.le_of_ble_eq_true rfl, by rw [hrm]; exact Nat.le_of_ble_eq_true rfl⟩ rfl rfl (Nat.le_of_ble_eq_true rfl) dX10_copy_153 (fun r11 m12 => ?_)
  refine z_aload_n C dX10_copy_156 rfl 0 rfl ?_
  refine z_chk (fun hk14 => ?_)
  refine z_getR C fl_RX10_47 rfl hk14 dX10_copy_157 ?_
  refine z_bipush (v := 36) C dX10_copy_160 (by decide) ?_
  refine z_iload_n C dX10_copy_162 rfl 1 rfl ?_
  refine z_iload_n C dX10_copy_163 rfl 2 rfl ?_
  refine z_cSV [va_rf (m12.R 1113 th 0), .int 36, .int p1, .int p2] [] C mv_RX10_184 (fun r0 m0 h0 => M_X10_move _ _ _ _ _ _ _ _ _ h0) rfl rfl ⟨by rw [hrm]; exact Nat.le_of_ble_eq_true rfl, by rw [hrm]; exact Nat.le_of_ble_eq_true rfl⟩ ⟨by rw [hrm]; exact Nat.le_of_ble_eq_true rfl, by rw [hrm]; exact Nat.le_of_ble_eq_true rfl⟩ rfl rfl (Nat.le_of_ble_eq_true rfl) dX10_copy_164 (fun r12 m13 => ?_)
  refine z_aload_n C dX10_copy_167 rfl 0 rfl ?_
  refine z_chk (fun hk15 => ?_)
  refine z_getR C fl_RX10_50 rfl hk15 dX10_copy_168 ?_
  refine z_bipush (v := 36) C dX10_copy_171 (by decide) ?_
  refine z_iload_n C dX10_copy_173 rfl 1 rfl ?_
  refine z_iload_n C dX10_copy_174 rfl 2 rfl ?_
  refine z_cSV [va_rf (m13.R 1114 th 0), .int 36, .int p1, .int p2] [] C mv_RX10_184 (fun r0 m0 h0 => M_X10_move _ _ _ _ _ _ _ _ _ h0) rfl rfl ⟨by rw [hrm]; exact Nat.le_of_ble_eq_true rfl, by rw [hrm]; exact Nat.le_of_ble_eq_true rfl⟩ ⟨by rw [hrm]; exact Nat.le_of_ble_eq_true rfl, by rw [hrm]; exact Nat.le_of_ble_eq_true rfl⟩ rfl rfl (Nat.le_of_ble_eq_true rfl) dX10_copy_175 (fun r13 m14 => ?_)
  refine z_aload_n C dX10_copy_178 rfl 0 rfl ?_
  refine z_chk (fun hk16 => ?_)
  refine z_getR C fl_RX10_53 rfl hk16 dX10_copy_179 ?_
  refine z_bipush (v := 42) C dX10_copy_182 (by decide) ?_
  refine z_iload_n C dX10_copy_184 rfl 1 rfl ?_
  refine z_iload_n C dX10_copy_185 rfl 2 rfl ?_
  refine z_cSV [va_rf (m14.R 1115 th 0), .int 42, .int p1, .int p2] [] C mv_RX10_184 (fun r0 m0 h0 => M_X10_move _ _ _ _ _ _ _ _ _ h0) rfl rfl ⟨by rw [hrm]; exact Nat.le_of_ble_eq_true rfl, by rw [hrm]; exact Nat.le_of_ble_eq_true rfl⟩ ⟨by rw [hrm]; exact Nat.le_of_ble_eq_true rfl, by rw [hrm]; exact Nat.le_of_ble_eq_true rfl⟩ rfl rfl (Nat.le_of_ble_eq_true rfl) dX10_copy_186 (fun r14 m15 => ?_)
  refine z_aload_n C dX10_copy_189 rfl 0 rfl ?_
  refine z_chk (fun hk17 => ?_)
  refine z_getR C fl_RX10_56 rfl hk17 dX10_copy_190 ?_
  refine z_bipush (v := 42) C dX10_copy_193 (by decide) ?_
  refine z_iload_n C dX10_copy_195 rfl 1 rfl ?_
  refine z_iload_n C dX10_copy_196 rfl 2 rfl ?_
  refine z_cSV [va_rf (m15.R 1116 th 0), .int 42, .int p1, .int p2] [] C mv_RX10_184 (fun r0 m0 h0 => M_X10_move _ _ _ _ _ _ _ _ _ h0) rfl rfl ⟨by rw [hrm]; exact Nat.le_of_ble_eq_true rfl, by rw [hrm]; exact Nat.le_of_ble_eq_true rfl⟩ ⟨by rw [hrm]; exact Nat.le_of_ble_eq_true rfl, by rw [hrm]; exact Nat.le_of_ble_eq_true rfl⟩ rfl rfl (Nat.le_of_ble_eq_true rfl) dX10_copy_197 (fun r15 m16 => ?_)
  refine z_aload_n C dX10_copy_200 rfl 0 rfl ?_
  refine z_chk (fun hk18 => ?_)
  refine z_getR C fl_RX10_59 rfl hk18 dX10_copy_201 ?_
  refine z_bipush (v := 42) C dX10_copy_204 (by decide) ?_
  refine z_iload_n C dX10_copy_206 rfl 1 rfl ?_
  refine z_iload_n C dX10_copy_207 rfl 2 rfl ?_
  refine z_cSV [va_rf (m16.R 1117 th 0), .int 42, .int p1, .int p2] [] C mv_RX10_184 (fun r0 m0 h0 => M_X10_move _ _ _ _ _ _ _ _ _ h0) rfl rfl ⟨by rw [hrm]; exact Nat.le_of_ble_eq_true rfl, by rw [hrm]; exact Nat.le_of_ble_eq_true rfl⟩ ⟨by rw [hrm]; exact Nat.le_of_ble_eq_true rfl, by rw [hrm]; exact Nat.le_of_ble_eq_true rfl⟩ rfl rfl (Nat.le_of_ble_eq_true rfl) dX10_copy_208 (fun r16 m17 => ?_)
  refine z_aload_n C dX10_copy_211 rfl 0 rfl ?_
  refine z_chk (fun hk19 => ?_)
  refine z_getR C fl_RX10_62 rfl hk19 dX10_copy_212 ?_
  refine z_bipush (v := 42) C dX10_copy_215 (by decide) ?_
  refine z_iload_n C dX10_copy_217 rfl 1 rfl ?_
  refine z_iload_n C dX10_copy_218 rfl 2 rfl ?_
  refine z_cSV [va_rf (m17.R 1118 th 0), .int 42, .int p1, .int p2] [] C mv_RX10_184 (fun r0 m0 h0 => M_X10_move _ _ _ _ _ _ _ _ _ h0) rfl rfl ⟨by rw [hrm]; exact Nat.le_of_ble_eq_true rfl, by rw [hrm]; exact Nat.le_of_ble_eq_true rfl⟩ ⟨by rw [hrm]; exact Nat.le_of_ble_eq_true rfl, by rw [hrm]; exact Nat.le_of_ble_eq_true rfl⟩ rfl rfl (Nat.le_of_ble_eq_true rfl) dX10_copy_219 (fun r17 m18 => ?_)
  refine z_aload_n C dX10_copy_222 rfl 0 rfl ?_
  refine z_chk (fun hk20 => ?_)
  refine z_getR C fl_RX10_65 rfl hk20 dX10_copy_223 ?_
  refine z_bipush (v := 42) C dX10_copy_226 (by decide) ?_
  refine z_iload_n C dX10_copy_228 rfl 1 rfl ?_
  refine z_iload_n C dX10_copy_229 rfl 2 rfl ?_
  refine z_cSV [va_rf (m18.R 1119 th 0), .int 42, .int p1, .int p2] [] C mv_RX10_184 (fun r0 m0 h0 => M_X10_move _ _ _ _ _ _ _ _ _ h0) rfl rfl ⟨by rw [hrm]; exact Nat.le_of_ble_eq_true rfl, by rw [hrm]; exact Nat.le_of_ble_eq_true rfl⟩ ⟨by rw [hrm]; exact Nat.le_of_ble_eq_true rfl, by rw [hrm]; exact Nat.le_of_ble_eq_true rfl⟩ rfl rfl (Nat.le_of_ble_eq_true rfl) dX10_copy_230 (fun r18 m19 => ?_)
  refine z_aload_n C dX10_copy_233 rfl 0 rfl ?_
  refine z_chk (fun hk21 => ?_)
  refine z_getR C fl_RX10_68 rfl hk21 dX10_copy_234 ?_
  refine z_bipush (v := 36) C dX10_copy_237 (by decide) ?_
  refine z_iload_n C dX10_copy_239 rfl 1 rfl ?_
  refine z_iload_n C dX10_copy_240 rfl 2 rfl ?_
  refine z_cSV [va_rf (m19.R 1120 th 0), .int 36, .int p1, .int p2] [] C mv_RX10_184 (fun r0 m0 h0 => M_X10_move _ _ _ _ _ _ _ _ _ h0) rfl rfl ⟨by rw [hrm]; exact Nat.le_of_ble_eq_true rfl, by rw [hrm]; exact Nat.le_of_ble_eq_true rfl⟩ ⟨by rw [hrm]; exact Nat.le_of_ble_eq_true rfl, by rw [hrm]; exact Nat.le_of_ble_eq_true rfl⟩ rfl rfl (Nat.le_of_ble_eq_true rfl) dX10_copy_241 (fun r19 m20 => ?_)
  refine z_aload_n C dX10_copy_244 rfl 0 rfl ?_
  refine z_chk (fun hk22 => ?_)
  refine z_getR C fl_RX10_71 rfl hk22 dX10_copy_245 ?_
  refine z_bipush (v := 36) C dX10_copy_248 (by decide) ?_
  refine z_iload_n C dX10_copy_250 rfl 1 rfl ?_
  refine z_iload_n C dX10_copy_251 rfl 2 rfl ?_
  refine z_cSV [va_rf (m20.R 1121 th 0), .int 36, .int p1, .int p2] [] C mv_RX10_184 (fun r0 m0 h0 => M_X10_move _ _ _ _ _ _ _ _ _ h0) rfl rfl ⟨by rw [hrm]; exact Nat.le_of_ble_eq_true rfl, by rw [hrm]; exact Nat.le_of_ble_eq_true rfl⟩ ⟨by rw [hrm]; exact Nat.le_of_ble_eq_true rfl, by rw [hrm]; exact Nat.le_of_ble_eq_true rfl⟩ rfl rfl (Nat.le_of_ble_eq_true rfl) dX10_copy_252 (fun r20 m21 => ?_)
  refine z_aload_n C dX10_copy_255 rfl 0 rfl ?_
  refine z_chk (fun hk23 => ?_)
  refine z_getR C fl_RX10_74 rfl hk23 dX10_copy_256 ?_
  refine z_bipush (v := 36) C dX10_copy_259 (by decide) ?_
  refine z_iload_n C dX10_copy_261 rfl 1 rfl ?_
  refine z_iload_n C dX10_copy_262 rfl 2 rfl ?_
  refine z_cSV [va_rf (m21.R 1122 th 0), .int 36, .int p1, .int p2] [] C mv_RX10_184 (fun r0 m0 h0 => M_X10_move _ _ _ _ _ _ _ _ _ h0) rfl rfl ⟨by rw [hrm]; exact Nat.le_of_ble_eq_true rfl, by rw [hrm]; exact Nat.le_of_ble_eq_true rfl⟩ ⟨by rw [hrm]; exact Nat.le_of_ble_eq_true rfl, by rw [hrm]; exact Nat.le_of_ble_eq_true rfl⟩ rfl rfl (Nat.le_of_ble_eq_true rfl) dX10_copy_263 (fun r21 m22 => ?_)
  refine z_aload_n C dX10_copy_266 rfl 0 rfl ?_
  refine z_chk (fun hk24 => ?_)
  refine z_getR C fl_RX10_77 rfl hk24 dX10_copy_267 ?_
  refine z_bipush (v := 36) C dX10_copy_270 (by decide) ?_
  refine z_iload_n C dX10_copy_272 rfl 1 rfl ?_
  refine z_iload_n C dX10_copy_273 rfl 2 rfl ?_
  refine z_cSV [va_rf (m22.R 1123 th 0), .int 36, .int p1, .int p2] [] C mv_RX10_184 (fun r0 m0 h0 => M_X10_move _ _ _ _ _ _ _ _ _ h0) rfl rfl ⟨by rw [hrm]; exact Nat.le_of_ble_eq_true rfl, by rw [hrm]; exact Nat.le_of_ble_eq_true rfl⟩ ⟨by rw [hrm]; exact Nat.le_of_ble_eq_true rfl, by rw [hrm]; exact Nat.le_of_ble_eq_true rfl⟩ rfl rfl (Nat.le_of_ble_eq_true rfl) dX10_copy_274 (fun r22 m23 => ?_)
  refine z_aload_n C dX10_copy_277 rfl 0 rfl ?_
  refine z_chk (fun hk25 => ?_)
  refine z_getR C fl_RX10_80 rfl hk25 dX10_copy_278 ?_
  refine z_bipush (v := 36) C dX10_copy_281 (by decide) ?_
  refine z_iload_n C dX10_copy_283 rfl 1 rfl ?_
  refine z_iload_n C dX10_copy_284 rfl 2 rfl ?_
  refine z_cSV [va_rf (m23.R 1124 th 0), .int 36, .int p1, .int p2] [] C mv_RX10_184 (fun r0 m0 h0 => M_X10_move _ _ _ _ _ _ _ _ _ h0) rfl rfl ⟨by rw [hrm]; exact Nat.le_of_ble_eq_true rfl, by rw [hrm]; exact Nat.le_of_ble_eq_true rfl⟩ ⟨by rw [hrm]; exact Nat.le_of_ble_eq_true rfl, by rw [hrm]; exact Nat.le_of_ble_eq_true rfl⟩ rfl rfl (Nat.le_of_ble_eq_true rfl) dX10_copy_285 (fun r23 m24 => ?_)
  refine z_aload_n C dX10_copy_288 rfl 0 rfl ?_
  refine z_chk (fun hk26 => ?_)
  refine z_getR C fl_RX10_83 rfl hk26 dX10_copy_289 ?_
  refine z_bipush (v := 36) C dX10_copy_292 (by decide) ?_
  refine z_iload_n C dX10_copy_294 rfl 1 rfl ?_
  refine z_iload_n C dX10_copy_295 rfl 2 rfl ?_
  refine z_cSV [va_rf (m24.R 1125 th 0), .int 36, .int p1, .int p2] [] C mv_RX10_184 (fun r0 m0 h0 => M_X10_move _ _ _ _ _ _ _ _ _ h0) rfl rfl ⟨by rw [hrm]; exact Nat.le_of_ble_eq_true rfl, by rw [hrm]; exact Nat.le_of_ble_eq_true rfl⟩ ⟨by rw [hrm]; exact Nat.le_of_ble_eq_true rfl, by rw [hrm]; exact Nat.le_of_ble_eq_true rfl⟩ rfl rfl (Nat.le_of_ble_eq_true rfl) dX10_copy_296 (fun r24 m25 => ?_)
  refine z_aload_n C dX10_copy_299 rfl 0 rfl ?_
  refine z_chk (fun hk27 => ?_)
  refine z_getR C fl_RX10_86 rfl hk27 dX10_copy_300 ?_
  refine z_bipush (v := 9) C dX10_copy_303 (by decide) ?_
  refine z_iload_n C dX10_copy_305 rfl 1 rfl ?_
  refine z_iload_n C dX10_copy_306 rfl 2 rfl ?_
  refine z_cSV [va_rf (m25.R 1126 th 0), .int 9, .int p1, .int p2] [] C mv_RX10_184 (fun r0 m0 h0 => M_X10_move _ _ _ _ _ _ _ _ _ h0) rfl rfl ⟨by rw [hrm]; exact Nat.le_of_ble_eq_true rfl, by rw [hrm]; exact Nat.le_of_ble_eq_true rfl⟩ ⟨by rw [hrm]; exact Nat.le_of_ble_eq_true rfl, by rw [hrm]; exact Nat.le_of_ble_eq_true rfl⟩ rfl rfl (Nat.le_of_ble_eq_true rfl) dX10_copy_307 (fun r25 m26 => ?_)
  refine z_aload_n C dX10_copy_310 rfl 0 rfl ?_
  refine z_chk (fun hk28 => ?_)
  refine z_getR C fl_RX10_89 rfl hk28 dX10_copy_311 ?_
  refine z_bipush (v := 9) C dX10_copy_314 (by decide) ?_
  refine z_iload_n C dX10_copy_316 rfl 1 rfl ?_
  refine z_iload_n C dX10_copy_317 rfl 2 rfl ?_
  refine z_cSV [va_rf (m26.R 1127 th 0), .int 9, .int p1, .int p2] [] C mv_RX10_184 (fun r0 m0 h0 => M_X10_move _ _ _ _ _ _ _ _ _ h0) rfl rfl ⟨by rw [hrm]; exact Nat.le_of_ble_eq_true rfl, by rw [hrm]; exact Nat.le_of_ble_eq_true rfl⟩ ⟨by rw [hrm]; exact Nat.le_of_ble_eq_true rfl, by rw [hrm]; exact Nat.le_of_ble_eq_true rfl⟩ rfl rfl (Nat.le_of_ble_eq_true rfl) dX10_copy_318 (fun r26 m27 => ?_)
  refine z_aload_n C dX10_copy_321 rfl 0 rfl ?_
  refine z_chk (fun hk29 => ?_)
  refine z_getR C fl_RX10_92 rfl hk29 dX10_copy_322 ?_
  refine z_iconst (v := 1) C dX10_copy_325 (by decide) ?_
  refine z_iload_n C dX10_copy_326 rfl 1 rfl ?_
  refine z_iload_n C dX10_copy_327 rfl 2 rfl ?_
  refine z_cSV [va_rf (m27.R 1128 th 0), .int 1, .int p1, .int p2] [] C mv_RX10_184 (fun r0 m0 h0 => M_X10_move _ _ _ _ _ _ _ _ _ h0) rfl rfl ⟨by rw [hrm]; exact Nat.le_of_ble_eq_true rfl, by rw [hrm]; exact Nat.le_of_ble_eq_true rfl⟩ ⟨by rw [hrm]; exact Nat.le_of_ble_eq_true rfl, by rw [hrm]; exact Nat.le_of_ble_eq_true rfl⟩ rfl rfl (Nat.le_of_ble_eq_true rfl) dX10_copy_328 (fun r27 m28 => ?_)
  refine z_aload_n C dX10_copy_331 rfl 0 rfl ?_
  refine z_chk (fun hk30 => ?_)
  refine z_getR C fl_RX10_95 rfl hk30 dX10_copy_332 ?_
  refine z_iconst (v := 3) C dX10_copy_335 (by decide) ?_
  refine z_iload_n C dX10_copy_336 rfl 1 rfl ?_
  refine z_iload_n C dX10_copy_337 rfl 2 rfl ?_
  refine z_cSV [va_rf (m28.R 1129 th 0), .int 3, .int p1, .int p2] [] C mv_RX10_184 (fun r0 m0 h0 => M_X10_move _ _ _ _ _ _ _ _ _ h0) rfl rfl ⟨by rw [hrm]; exact Nat.le_of_ble_eq_true rfl, by rw [hrm]; exact Nat.le_of_ble_eq_true rfl⟩ ⟨by rw [hrm]; exact Nat.le_of_ble_eq_true rfl, by rw [hrm]; exact Nat.le_of_ble_eq_true rfl⟩ rfl rfl (Nat.le_of_ble_eq_true rfl) dX10_copy_338 (fun r28 m29 => ?_)
  refine z_aload_n C dX10_copy_341 rfl 0 rfl ?_
  refine z_chk (fun hk31 => ?_)
  refine z_getR C fl_RX10_98 rfl hk31 dX10_copy_342 ?_
  refine z_iconst (v := 3) C dX10_copy_345 (by decide) ?_
  refine z_iload_n C dX10_copy_346 rfl 1 rfl ?_
  refine z_iload_n C dX10_copy_347 rfl 2 rfl ?_
  refine z_cSV [va_rf (m29.R 1130 th 0), .int 3, .int p1, .int p2] [] C mv_RX10_184 (fun r0 m0 h0 => M_X10_move _ _ _ _ _ _ _ _ _ h0) rfl rfl ⟨by rw [hrm]; exact Nat.le_of_ble_eq_true rfl, by rw [hrm]; exact Nat.le_of_ble_eq_true rfl⟩ ⟨by rw [hrm]; exact Nat.le_of_ble_eq_true rfl, by rw [hrm]; exact Nat.le_of_ble_eq_true rfl⟩ rfl rfl (Nat.le_of_ble_eq_true rfl) dX10_copy_348 (fun r29 m30 => ?_)
  refine z_aload_n C dX10_copy_351 rfl 0 rfl ?_
  refine z_chk (fun hk32 => ?_)
  refine z_getR C fl_RX10_101 rfl hk32 dX10_copy_352 ?_
  refine z_iconst (v := 3) C dX10_copy_355 (by decide) ?_
  refine z_iload_n C dX10_copy_356 rfl 1 rfl ?_
  refine z_iload_n C dX10_copy_357 rfl 2 rfl ?_
  refine z_cSV [va_rf (m30.R 1131 th 0), .int 3, .int p1, .int p2] [] C mv_RX10_184 (fun r0 m0 h0 => M_X10_move _ _ _ _ _ _ _ _ _ h0) rfl rfl ⟨by rw [hrm]; exact Nat.le_of_ble_eq_true rfl, by rw [hrm]; exact Nat.le_of_ble_eq_true rfl⟩ ⟨by rw [hrm]; exact Nat.le_of_ble_eq_true rfl, by rw [hrm]; exact Nat.le_of_ble_eq_true rfl⟩ rfl rfl (Nat.le_of_ble_eq_true rfl) dX10_copy_358 (fun r30 m31 => ?_)
  refine z_aload_n C dX10_copy_361 rfl 0 rfl ?_
  refine z_chk (fun hk33 => ?_)
  refine z_getR C fl_RX10_104 rfl hk33 dX10_copy_362 ?_
  refine z_iconst (v := 3) C dX10_copy_365 (by decide) ?_
  refine z_iload_n C dX10_copy_366 rfl 1 rfl ?_
  refine z_iload_n C dX10_copy_367 rfl 2 rfl ?_
  refine z_cSV [va_rf (m31.R 1132 th 0), .int 3, .int p1, .int p2] [] C mv_RX10_184 (fun r0 m0 h0 => M_X10_move _ _ _ _ _ _ _ _ _ h0) rfl rfl ⟨by rw [hrm]; exact Nat.le_of_ble_eq_true rfl, by rw [hrm]; exact Nat.le_of_ble_eq_true rfl⟩ ⟨by rw [hrm]; exact Nat.le_of_ble_eq_true rfl, by rw [hrm]; exact Nat.le_of_ble_eq_true rfl⟩ rfl rfl (Nat.le_of_ble_eq_true rfl) dX10_copy_368 (fun r31 m32 => ?_)
  refine z_aload_n C dX10_copy_371 rfl 0 rfl ?_
  refine z_chk (fun hk34 => ?_)
  refine z_getR C fl_RX10_107 rfl hk34 dX10_copy_372 ?_
  refine z_bipush (v := 30) C dX10_copy_375 (by decide) ?_
  refine z_iload_n C dX10_copy_377 rfl 1 rfl ?_
  refine z_iload_n C dX10_copy_378 rfl 2 rfl ?_
  refine z_cSV [va_rf (m32.R 1133 th 0), .int 30, .int p1, .int p2] [] C mv_RX10_184 (fun r0 m0 h0 => M_X10_move _ _ _ _ _ _ _ _ _ h0) rfl rfl ⟨by rw [hrm]; exact Nat.le_of_ble_eq_true rfl, by rw [hrm]; exact Nat.le_of_ble_eq_true rfl⟩ ⟨by rw [hrm]; exact Nat.le_of_ble_eq_true rfl, by rw [hrm]; exact Nat.le_of_ble_eq_true rfl⟩ rfl rfl (Nat.le_of_ble_eq_true rfl) dX10_copy_379 (fun r32 m33 => ?_)
  refine z_aload_n C dX10_copy_382 rfl 0 rfl ?_
  refine z_chk (fun hk35 => ?_)
  refine z_getR C fl_RX10_110 rfl hk35 dX10_copy_383 ?_
  refine z_bipush (v := 30) C dX10_copy_386 (by decide) ?_
  refine z_iload_n C dX10_copy_388 rfl 1 rfl ?_
  refine z_iload_n C dX10_copy_389 rfl 2 rfl ?_
  refine z_cSV [va_rf (m33.R 1134 th 0), .int 30, .int p1, .int p2] [] C mv_RX10_184 (fun r0 m0 h0 => M_X10_move _ _ _ _ _ _ _ _ _ h0) rfl rfl ⟨by rw [hrm]; exact Nat.le_of_ble_eq_true rfl, by rw [hrm]; exact Nat.le_of_ble_eq_true rfl⟩ ⟨by rw [hrm]; exact Nat.le_of_ble_eq_true rfl, by rw [hrm]; exact Nat.le_of_ble_eq_true rfl⟩ rfl rfl (Nat.le_of_ble_eq_true rfl) dX10_copy_390 (fun r33 m34 => ?_)
  refine z_aload_n C dX10_copy_393 rfl 0 rfl ?_
  refine z_chk (fun hk36 => ?_)
  refine z_getR C fl_RX10_113 rfl hk36 dX10_copy_394 ?_
  refine z_bipush (v := 30) C dX10_copy_397 (by decide) ?_
  refine z_iload_n C dX10_copy_399 rfl 1 rfl ?_
  refine z_iload_n C dX10_copy_400 rfl 2 rfl ?_
  refine z_cSV [va_rf (m34.R 1135 th 0), .int 30, .int p1, .int p2] [] C mv_RX10_184 (fun r0 m0 h0 => M_X10_move _ _ _ _ _ _ _ _ _ h0) rfl rfl ⟨by rw [hrm]; exact Nat.le_of_ble_eq_true rfl, by rw [hrm]; exact Nat.le_of_ble_eq_true rfl⟩ ⟨by rw [hrm]; exact Nat.le_of_ble_eq_true rfl, by rw [hrm]; exact Nat.le_of_ble_eq_true rfl⟩ rfl rfl (Nat.le_of_ble_eq_true rfl) dX10_copy_401 (fun r34 m35 => ?_)
  refine z_aload_n C dX10_copy_404 rfl 0 rfl ?_
  refine z_chk (fun hk37 => ?_)
  refine z_getR C fl_RX10_116 rfl hk37 dX10_copy_405 ?_
  refine z_bipush (v := 30) C dX10_copy_408 (by decide) ?_
  refine z_iload_n C dX10_copy_410 rfl 1 rfl ?_
  refine z_iload_n C dX10_copy_411 rfl 2 rfl ?_
  refine z_cSV [va_rf (m35.R 1136 th 0), .int 30, .int p1, .int p2] [] C mv_RX10_184 (fun r0 m0 h0 => M_X10_move _ _ _ _ _ _ _ _ _ h0) rfl rfl ⟨by rw [hrm]; exact Nat.le_of_ble_eq_true rfl, by rw [hrm]; exact Nat.le_of_ble_eq_true rfl⟩ ⟨by rw [hrm]; exact Nat.le_of_ble_eq_true rfl, by rw [hrm]; exact Nat.le_of_ble_eq_true rfl⟩ rfl rfl (Nat.le_of_ble_eq_true rfl) dX10_copy_412 (fun r35 m36 => ?_)
  refine z_aload_n C dX10_copy_415 rfl 0 rfl ?_
  refine z_chk (fun hk38 => ?_)
  refine z_getR C fl_RX10_119 rfl hk38 dX10_copy_416 ?_
  refine z_bipush (v := 30) C dX10_copy_419 (by decide) ?_
  refine z_iload_n C dX10_copy_421 rfl 1 rfl ?_
  refine z_iload_n C dX10_copy_422 rfl 2 rfl ?_
  refine z_cSV [va_rf (m36.R 1137 th 0), .int 30, .int p1, .int p2] [] C mv_RX10_184 (fun r0 m0 h0 => M_X10_move _ _ _ _ _ _ _ _ _ h0) rfl rfl ⟨by rw [hrm]; exact Nat.le_of_ble_eq_true rfl, by rw [hrm]; exact Nat.le_of_ble_eq_true rfl⟩ ⟨by rw [hrm]; exact Nat.le_of_ble_eq_true rfl, by rw [hrm]; exact Nat.le_of_ble_eq_true rfl⟩ rfl rfl (Nat.le_of_ble_eq_true rfl) dX10_copy_423 (fun r36 m37 => ?_)
  exact z_vret C hr dX10_copy_426
set_option maxRecDepth 100000 in
def g_X10_copy_0 (th : Nat) (p1 : Int32) (p2 : Int32) (m : MM) : Option (Unit × MM) :=
  l_X10_copy_2 th p1 p2 (g_X10_copy_39 th p1 p2) FU 0 m
set_option maxHeartbeats 4000000 in
set_option maxRecDepth 100000 in
theorem s_X10_copy_0 {Γ : GX} {E : EX} (C : Cx Γ E cX10_copy RX10 4) (hr : Γ.meth.sig.returnType = none) (hrm : Γ.rm = rmX10_copy) (th : Nat) (p1 : Int32) (p2 : Int32) (m : MM) : Sm (QM Γ E emV 0 0) Γ E 4 0 0 0 [(0, va_rf (some th)), (1, .int p1), (2, .int p2)] [] m (g_X10_copy_0 th p1 p2 m) := by
  unfold g_X10_copy_0
  refine z_iconst (v := 0) C dX10_copy_0 (by decide) ?_
  refine z_istore_n (i := 3) (L2 := [(3, .int 0), (0, va_rf (some th)), (1, .int p1), (2, .int p2)]) C dX10_copy_1 rfl (by decide) rfl ?_
  exact z_sub [1, 2, 3, 0] rfl (t_X10_copy_2 C hr hrm th p1 p2 (g_X10_copy_39 th p1 p2) (s_X10_copy_39 C hr hrm th p1 p2) FU 0 m)
def f_X10_copy (th : Nat) (p1 : Int32) (p2 : Int32) (m : MM) : Option (Unit × MM) := g_X10_copy_0 th p1 p2 m
theorem M_X10_copy (l : Launch) (E : EX) (th : Nat) (p1 : Int32) (p2 : Int32) (m : MM) (r : Unit) (m2 : MM) (h : f_X10_copy th p1 p2 m = some (r, m2)) : Met l yX10_copy (.code yX10_copy cX10_copy 4 none :: TB) rmX10_copy (va_Pc [.ref th, .int p1, .int p2] (St E m)) (QR E (emV r) m2) 0 0 (AA E) :=
  met_of (em := emV) (plainFor_of_name rfl) (Nat.le_of_ble_eq_true rfl) (L0 := [(0, va_rf (some th)), (1, .int p1), (2, .int p2)]) rfl (fun Γ _ hrm C hr hn => s_X10_copy_0 C hr hrm th p1 p2 m) h

theorem dX10_isTown_0 : decode cX10_isTown 0 = .ok (.iload_n 1, 1) := by decide +kernel
theorem dX10_isTown_1 : decode cX10_isTown 1 = .ok (.iconst 0, 1) := by decide +kernel
theorem dX10_isTown_2 : decode cX10_isTown 2 = .ok (.aload_n 0, 1) := by decide +kernel
theorem dX10_isTown_3 : decode cX10_isTown 3 = .ok (.getfield 23, 3) := by decide +kernel
theorem dX10_isTown_6 : decode cX10_isTown 6 = .ok (.iconst 0, 1) := by decide +kernel
theorem dX10_isTown_7 : decode cX10_isTown 7 = .ok (.iaload, 1) := by decide +kernel
theorem dX10_isTown_8 : decode cX10_isTown 8 = .ok (.iconst 1, 1) := by decide +kernel
theorem dX10_isTown_9 : decode cX10_isTown 9 = .ok (.isub, 1) := by decide +kernel
theorem dX10_isTown_10 : decode cX10_isTown 10 = .ok (.invokestatic 188, 3) := by decide +kernel
theorem dX10_isTown_13 : decode cX10_isTown 13 = .ok (.ireturn, 1) := by decide +kernel
def rmX10_isTown : Room := { frames := 1, cells := 0, slots := 0, locals := 22 }
set_option maxRecDepth 100000 in
def g_X10_isTown_0 (th : Nat) (p1 : Int32) (m : MM) : Option (Int32 × MM) :=
  chk (m.K th = 11) (ck m (m.R 1105 th 0) 22 (fun a1 => chk (inb 0 (m.N a1) = true) (cal (f_X10_in p1 0 ((m.I 22 a1 (Int32.toNatClampNeg 0)) - 1) m) (fun r1 m1 => chk (r1 = 0 ∨ r1 = 1) (some (r1, m1))))))
set_option maxHeartbeats 4000000 in
set_option maxRecDepth 100000 in
theorem s_X10_isTown_0 {Γ : GX} {E : EX} (C : Cx Γ E cX10_isTown RX10 2) (hr : Γ.meth.sig.returnType = (some .boolean)) (hrm : Γ.rm = rmX10_isTown) (th : Nat) (p1 : Int32) (m : MM) : Sm (QM Γ E emI 0 0) Γ E 2 0 0 0 [(0, va_rf (some th)), (1, .int p1)] [] m (g_X10_isTown_0 th p1 m) := by
  unfold g_X10_isTown_0
  refine z_iload_n C dX10_isTown_0 rfl 1 rfl ?_
  refine z_iconst (v := 0) C dX10_isTown_1 (by decide) ?_
  refine z_aload_n C dX10_isTown_2 rfl 0 rfl ?_
  refine z_chk (fun hk1 => ?_)
  refine z_getR C fl_RX10_23 rfl hk1 dX10_isTown_3 ?_
  refine z_iconst (v := 0) C dX10_isTown_6 (by decide) ?_
  refine z_ck (fun a1 hr1 hk2 => ?_)
  refine z_chk (fun hj1 => ?_)
  refine z_iald C hr1 hk2 hj1 dX10_isTown_7 ?_
  refine z_iconst (v := 1) C dX10_isTown_8 (by decide) ?_
  refine z_isub C dX10_isTown_9 ?_
  refine z_cSI [.int p1, .int 0, .int ((m.I 22 a1 (Int32.toNatClampNeg 0)) - 1)] [] C mv_RX10_188 (fun r0 m0 h0 => M_X10_in _ _ _ _ _ _ _ _ h0) rfl rfl ⟨by rw [hrm]; exact Nat.le_of_ble_eq_true rfl, by rw [hrm]; exact Nat.le_of_ble_eq_true rfl⟩ ⟨by rw [hrm]; exact Nat.le_of_ble_eq_true rfl, by rw [hrm]; exact Nat.le_of_ble_eq_true rfl⟩ rfl rfl (Nat.le_of_ble_eq_true rfl) dX10_isTown_10 (fun r1 m1 => ?_)
  refine z_chk (fun hb1 => ?_)
  exact z_zret C hr (nb_of hb1) dX10_isTown_13
def f_X10_isTown (th : Nat) (p1 : Int32) (m : MM) : Option (Int32 × MM) := g_X10_isTown_0 th p1 m
theorem M_X10_isTown (l : Launch) (E : EX) (th : Nat) (p1 : Int32) (m : MM) (r : Int32) (m2 : MM) (h : f_X10_isTown th p1 m = some (r, m2)) : Met l yX10_isTown (.code yX10_isTown cX10_isTown 2 (some .boolean) :: TB) rmX10_isTown (va_Pc [.ref th, .int p1] (St E m)) (QR E (emI r) m2) 0 0 (AA E) :=
  met_of (em := emI) (plainFor_of_name rfl) (Nat.le_of_ble_eq_true rfl) (L0 := [(0, va_rf (some th)), (1, .int p1)]) rfl (fun Γ _ hrm C hr hn => s_X10_isTown_0 C hr hrm th p1 m) h

theorem dX10_isLaw_0 : decode cX10_isLaw 0 = .ok (.iload_n 1, 1) := by decide +kernel
theorem dX10_isLaw_1 : decode cX10_isLaw 1 = .ok (.iconst 0, 1) := by decide +kernel
theorem dX10_isLaw_2 : decode cX10_isLaw 2 = .ok (.aload_n 0, 1) := by decide +kernel
theorem dX10_isLaw_3 : decode cX10_isLaw 3 = .ok (.getfield 92, 3) := by decide +kernel
theorem dX10_isLaw_6 : decode cX10_isLaw 6 = .ok (.iconst 0, 1) := by decide +kernel
theorem dX10_isLaw_7 : decode cX10_isLaw 7 = .ok (.iaload, 1) := by decide +kernel
theorem dX10_isLaw_8 : decode cX10_isLaw 8 = .ok (.iconst 1, 1) := by decide +kernel
theorem dX10_isLaw_9 : decode cX10_isLaw 9 = .ok (.isub, 1) := by decide +kernel
theorem dX10_isLaw_10 : decode cX10_isLaw 10 = .ok (.invokestatic 188, 3) := by decide +kernel
theorem dX10_isLaw_13 : decode cX10_isLaw 13 = .ok (.ireturn, 1) := by decide +kernel
def rmX10_isLaw : Room := { frames := 1, cells := 0, slots := 0, locals := 22 }
set_option maxRecDepth 100000 in
def g_X10_isLaw_0 (th : Nat) (p1 : Int32) (m : MM) : Option (Int32 × MM) :=
  chk (m.K th = 11) (ck m (m.R 1128 th 0) 22 (fun a1 => chk (inb 0 (m.N a1) = true) (cal (f_X10_in p1 0 ((m.I 22 a1 (Int32.toNatClampNeg 0)) - 1) m) (fun r1 m1 => chk (r1 = 0 ∨ r1 = 1) (some (r1, m1))))))
set_option maxHeartbeats 4000000 in
set_option maxRecDepth 100000 in
theorem s_X10_isLaw_0 {Γ : GX} {E : EX} (C : Cx Γ E cX10_isLaw RX10 2) (hr : Γ.meth.sig.returnType = (some .boolean)) (hrm : Γ.rm = rmX10_isLaw) (th : Nat) (p1 : Int32) (m : MM) : Sm (QM Γ E emI 0 0) Γ E 2 0 0 0 [(0, va_rf (some th)), (1, .int p1)] [] m (g_X10_isLaw_0 th p1 m) := by
  unfold g_X10_isLaw_0
  refine z_iload_n C dX10_isLaw_0 rfl 1 rfl ?_
  refine z_iconst (v := 0) C dX10_isLaw_1 (by decide) ?_
  refine z_aload_n C dX10_isLaw_2 rfl 0 rfl ?_
  refine z_chk (fun hk1 => ?_)
  refine z_getR C fl_RX10_92 rfl hk1 dX10_isLaw_3 ?_
  refine z_iconst (v := 0) C dX10_isLaw_6 (by decide) ?_
  refine z_ck (fun a1 hr1 hk2 => ?_)
  refine z_chk (fun hj1 => ?_)
  refine z_iald C hr1 hk2 hj1 dX10_isLaw_7 ?_
  refine z_iconst (v := 1) C dX10_isLaw_8 (by decide) ?_
  refine z_isub C dX10_isLaw_9 ?_
  refine z_cSI [.int p1, .int 0, .int ((m.I 22 a1 (Int32.toNatClampNeg 0)) - 1)] [] C mv_RX10_188 (fun r0 m0 h0 => M_X10_in _ _ _ _ _ _ _ _ h0) rfl rfl ⟨by rw [hrm]; exact Nat.le_of_ble_eq_true rfl, by rw [hrm]; exact Nat.le_of_ble_eq_true rfl⟩ ⟨by rw [hrm]; exact Nat.le_of_ble_eq_true rfl, by rw [hrm]; exact Nat.le_of_ble_eq_true rfl⟩ rfl rfl (Nat.le_of_ble_eq_true rfl) dX10_isLaw_10 (fun r1 m1 => ?_)
  refine z_chk (fun hb1 => ?_)
  exact z_zret C hr (nb_of hb1) dX10_isLaw_13
def f_X10_isLaw (th : Nat) (p1 : Int32) (m : MM) : Option (Int32 × MM) := g_X10_isLaw_0 th p1 m
theorem M_X10_isLaw (l : Launch) (E : EX) (th : Nat) (p1 : Int32) (m : MM) (r : Int32) (m2 : MM) (h : f_X10_isLaw th p1 m = some (r, m2)) : Met l yX10_isLaw (.code yX10_isLaw cX10_isLaw 2 (some .boolean) :: TB) rmX10_isLaw (va_Pc [.ref th, .int p1] (St E m)) (QR E (emI r) m2) 0 0 (AA E) :=
  met_of (em := emI) (plainFor_of_name rfl) (Nat.le_of_ble_eq_true rfl) (L0 := [(0, va_rf (some th)), (1, .int p1)]) rfl (fun Γ _ hrm C hr hn => s_X10_isLaw_0 C hr hrm th p1 m) h

theorem dX10_isDay_0 : decode cX10_isDay 0 = .ok (.iload_n 0, 1) := by decide +kernel
theorem dX10_isDay_1 : decode cX10_isDay 1 = .ok (.iconst 0, 1) := by decide +kernel
theorem dX10_isDay_2 : decode cX10_isDay 2 = .ok (.sipush 999, 3) := by decide +kernel
theorem dX10_isDay_5 : decode cX10_isDay 5 = .ok (.invokestatic 188, 3) := by decide +kernel
theorem dX10_isDay_8 : decode cX10_isDay 8 = .ok (.ireturn, 1) := by decide +kernel
def rmX10_isDay : Room := { frames := 1, cells := 0, slots := 0, locals := 22 }
set_option maxRecDepth 100000 in
def g_X10_isDay_0 (p0 : Int32) (m : MM) : Option (Int32 × MM) :=
  cal (f_X10_in p0 0 999 m) (fun r1 m1 => chk (r1 = 0 ∨ r1 = 1) (some (r1, m1)))
set_option maxHeartbeats 4000000 in
set_option maxRecDepth 100000 in
theorem s_X10_isDay_0 {Γ : GX} {E : EX} (C : Cx Γ E cX10_isDay RX10 1) (hr : Γ.meth.sig.returnType = (some .boolean)) (hrm : Γ.rm = rmX10_isDay) (p0 : Int32) (m : MM) : Sm (QM Γ E emI 0 0) Γ E 1 0 0 0 [(0, .int p0)] [] m (g_X10_isDay_0 p0 m) := by
  unfold g_X10_isDay_0
  refine z_iload_n C dX10_isDay_0 rfl 0 rfl ?_
  refine z_iconst (v := 0) C dX10_isDay_1 (by decide) ?_
  refine z_sipush (v := 999) C dX10_isDay_2 (by decide) ?_
  refine z_cSI [.int p0, .int 0, .int 999] [] C mv_RX10_188 (fun r0 m0 h0 => M_X10_in _ _ _ _ _ _ _ _ h0) rfl rfl ⟨by rw [hrm]; exact Nat.le_of_ble_eq_true rfl, by rw [hrm]; exact Nat.le_of_ble_eq_true rfl⟩ ⟨by rw [hrm]; exact Nat.le_of_ble_eq_true rfl, by rw [hrm]; exact Nat.le_of_ble_eq_true rfl⟩ rfl rfl (Nat.le_of_ble_eq_true rfl) dX10_isDay_5 (fun r1 m1 => ?_)
  refine z_chk (fun hb1 => ?_)
  exact z_zret C hr (nb_of hb1) dX10_isDay_8
def f_X10_isDay (p0 : Int32) (m : MM) : Option (Int32 × MM) := g_X10_isDay_0 p0 m
theorem M_X10_isDay (l : Launch) (E : EX) (p0 : Int32) (m : MM) (r : Int32) (m2 : MM) (h : f_X10_isDay p0 m = some (r, m2)) : Met l yX10_isDay (.code yX10_isDay cX10_isDay 1 (some .boolean) :: TB) rmX10_isDay (va_Pc [.int p0] (St E m)) (QR E (emI r) m2) 0 0 (AA E) :=
  met_of (em := emI) (plainFor_of_name rfl) (Nat.le_of_ble_eq_true rfl) (L0 := [(0, .int p0)]) rfl (fun Γ _ hrm C hr hn => s_X10_isDay_0 C hr hrm p0 m) h

theorem dX10_of_0 : decode cX10_of 0 = .ok (.aload_n 0, 1) := by decide +kernel
theorem dX10_of_1 : decode cX10_of 1 = .ok (.getfield 26, 3) := by decide +kernel
theorem dX10_of_4 : decode cX10_of 4 = .ok (.bipush 32, 2) := by decide +kernel
theorem dX10_of_6 : decode cX10_of 6 = .ok (.iload_n 1, 1) := by decide +kernel
theorem dX10_of_7 : decode cX10_of 7 = .ok (.imul, 1) := by decide +kernel
theorem dX10_of_8 : decode cX10_of 8 = .ok (.iload_n 2, 1) := by decide +kernel
theorem dX10_of_9 : decode cX10_of 9 = .ok (.iadd, 1) := by decide +kernel
theorem dX10_of_10 : decode cX10_of 10 = .ok (.iaload, 1) := by decide +kernel
theorem dX10_of_11 : decode cX10_of 11 = .ok (.ireturn, 1) := by decide +kernel
def rmX10_of : Room := { frames := 0, cells := 0, slots := 0, locals := 0 }
set_option maxRecDepth 100000 in
def g_X10_of_0 (th : Nat) (p1 : Int32) (p2 : Int32) (m : MM) : Option (Int32 × MM) :=
  chk (m.K th = 11) (ck m (m.R 1106 th 0) 22 (fun a1 => chk (inb ((32 * p1) + p2) (m.N a1) = true) (some (m.I 22 a1 (Int32.toNatClampNeg ((32 * p1) + p2)), m))))
set_option maxHeartbeats 4000000 in
set_option maxRecDepth 100000 in
theorem s_X10_of_0 {Γ : GX} {E : EX} (C : Cx Γ E cX10_of RX10 3) (hr : Γ.meth.sig.returnType = (some .int)) (hrm : Γ.rm = rmX10_of) (th : Nat) (p1 : Int32) (p2 : Int32) (m : MM) : Sm (QM Γ E emI 0 0) Γ E 3 0 0 0 [(0, va_rf (some th)), (1, .int p1), (2, .int p2)] [] m (g_X10_of_0 th p1 p2 m) := by
  unfold g_X10_of_0
  refine z_aload_n C dX10_of_0 rfl 0 rfl ?_
  refine z_chk (fun hk1 => ?_)
  refine z_getR C fl_RX10_26 rfl hk1 dX10_of_1 ?_
  refine z_bipush (v := 32) C dX10_of_4 (by decide) ?_
  refine z_iload_n C dX10_of_6 rfl 1 rfl ?_
  refine z_imul C dX10_of_7 ?_
  refine z_iload_n C dX10_of_8 rfl 2 rfl ?_
  refine z_iadd C dX10_of_9 ?_
  refine z_ck (fun a1 hr1 hk2 => ?_)
  refine z_chk (fun hj1 => ?_)
  refine z_iald C hr1 hk2 hj1 dX10_of_10 ?_
  exact z_iret C hr dX10_of_11
def f_X10_of (th : Nat) (p1 : Int32) (p2 : Int32) (m : MM) : Option (Int32 × MM) := g_X10_of_0 th p1 p2 m
theorem M_X10_of (l : Launch) (E : EX) (th : Nat) (p1 : Int32) (p2 : Int32) (m : MM) (r : Int32) (m2 : MM) (h : f_X10_of th p1 p2 m = some (r, m2)) : Met l yX10_of (.code yX10_of cX10_of 3 (some .int) :: TB) rmX10_of (va_Pc [.ref th, .int p1, .int p2] (St E m)) (QR E (emI r) m2) 0 0 (AA E) :=
  met_of (em := emI) (plainFor_of_name rfl) (Nat.le_of_ble_eq_true rfl) (L0 := [(0, va_rf (some th)), (1, .int p1), (2, .int p2)]) rfl (fun Γ _ hrm C hr hn => s_X10_of_0 C hr hrm th p1 p2 m) h

theorem dX10_isThing_0 : decode cX10_isThing 0 = .ok (.aload_n 0, 1) := by decide +kernel
theorem dX10_isThing_1 : decode cX10_isThing 1 = .ok (.iload_n 1, 1) := by decide +kernel
theorem dX10_isThing_2 : decode cX10_isThing 2 = .ok (.invokevirtual 192, 3) := by decide +kernel
theorem dX10_isThing_5 : decode cX10_isThing 5 = .ok (.ifCond .eq 23, 3) := by decide +kernel
theorem dX10_isThing_8 : decode cX10_isThing 8 = .ok (.iload_n 2, 1) := by decide +kernel
theorem dX10_isThing_9 : decode cX10_isThing 9 = .ok (.iconst 0, 1) := by decide +kernel
theorem dX10_isThing_10 : decode cX10_isThing 10 = .ok (.aload_n 0, 1) := by decide +kernel
theorem dX10_isThing_11 : decode cX10_isThing 11 = .ok (.iload_n 1, 1) := by decide +kernel
theorem dX10_isThing_12 : decode cX10_isThing 12 = .ok (.iconst 2, 1) := by decide +kernel
theorem dX10_isThing_13 : decode cX10_isThing 13 = .ok (.invokevirtual 196, 3) := by decide +kernel
theorem dX10_isThing_16 : decode cX10_isThing 16 = .ok (.iconst 1, 1) := by decide +kernel
theorem dX10_isThing_17 : decode cX10_isThing 17 = .ok (.isub, 1) := by decide +kernel
theorem dX10_isThing_18 : decode cX10_isThing 18 = .ok (.invokestatic 188, 3) := by decide +kernel
theorem dX10_isThing_21 : decode cX10_isThing 21 = .ok (.ifCond .eq 7, 3) := by decide +kernel
theorem dX10_isThing_24 : decode cX10_isThing 24 = .ok (.iconst 1, 1) := by decide +kernel
theorem dX10_isThing_25 : decode cX10_isThing 25 = .ok (.goto 4, 3) := by decide +kernel
theorem dX10_isThing_28 : decode cX10_isThing 28 = .ok (.iconst 0, 1) := by decide +kernel
theorem dX10_isThing_29 : decode cX10_isThing 29 = .ok (.ireturn, 1) := by decide +kernel
def rmX10_isThing : Room := { frames := 2, cells := 0, slots := 0, locals := 43 }
set_option maxRecDepth 100000 in
def g_X10_isThing_28 (th : Nat) (p1 : Int32) (p2 : Int32) (m : MM) : Option (Int32 × MM) :=
  some (0, m)
set_option maxHeartbeats 4000000 in
set_option maxRecDepth 100000 in
theorem s_X10_isThing_28 {Γ : GX} {E : EX} (C : Cx Γ E cX10_isThing RX10 3) (hr : Γ.meth.sig.returnType = (some .boolean)) (hrm : Γ.rm = rmX10_isThing) (th : Nat) (p1 : Int32) (p2 : Int32) (m : MM) : Sm (QM Γ E emI 0 0) Γ E 3 0 0 28 [(0, va_rf (some th)), (1, .int p1), (2, .int p2)] [] m (g_X10_isThing_28 th p1 p2 m) := by
  unfold g_X10_isThing_28
  refine z_iconst (v := 0) C dX10_isThing_28 (by decide) ?_
  exact z_zret C hr rfl dX10_isThing_29
set_option maxRecDepth 100000 in
def g_X10_isThing_0 (th : Nat) (p1 : Int32) (p2 : Int32) (m : MM) : Option (Int32 × MM) :=
  chk (m.K th = 11) (cal (f_X10_isTown th p1 m) (fun r1 m1 => if r1 = 0 then (g_X10_isThing_28 th p1 p2 m1) else (chk (m1.K th = 11) (cal (f_X10_of th p1 2 m1) (fun r2 m2 => cal (f_X10_in p2 0 (r2 - 1) m2) (fun r3 m3 => if r3 = 0 then (g_X10_isThing_28 th p1 p2 m3) else (some (1, m3))))))))
set_option maxHeartbeats 4000000 in
set_option maxRecDepth 100000 in
theorem s_X10_isThing_0 {Γ : GX} {E : EX} (C : Cx Γ E cX10_isThing RX10 3) (hr : Γ.meth.sig.returnType = (some .boolean)) (hrm : Γ.rm = rmX10_isThing) (th : Nat) (p1 : Int32) (p2 : Int32) (m : MM) : Sm (QM Γ E emI 0 0) Γ E 3 0 0 0 [(0, va_rf (some th)), (1, .int p1), (2, .int p2)] [] m (g_X10_isThing_0 th p1 p2 m) := by
  unfold g_X10_isThing_0
  refine z_aload_n C dX10_isThing_0 rfl 0 rfl ?_
  refine z_iload_n C dX10_isThing_1 rfl 1 rfl ?_
  refine z_chk (fun hk1 => ?_)
  refine z_cVI [.int p1] [] C mv_RX10_192 (fun r0 m0 h0 => M_X10_isTown _ _ _ _ _ _ _ h0) rfl rfl ⟨by rw [hrm]; exact Nat.le_of_ble_eq_true rfl, by rw [hrm]; exact Nat.le_of_ble_eq_true rfl⟩ ⟨by rw [hrm]; exact Nat.le_of_ble_eq_true rfl, by rw [hrm]; exact Nat.le_of_ble_eq_true rfl⟩ rfl hk1 rfl rfl rfl (Nat.le_of_ble_eq_true rfl) dX10_isThing_2 (fun r1 m1 => ?_)
  refine z_if_eq (tgt := 28) C dX10_isThing_5 (by decide) (fun c1 => ?_) (fun c1 => ?_)
  · exact z_sub [0, 1, 2] rfl (s_X10_isThing_28 C hr hrm th p1 p2 m1)
  · refine z_iload_n C dX10_isThing_8 rfl 2 rfl ?_
    refine z_iconst (v := 0) C dX10_isThing_9 (by decide) ?_
    refine z_aload_n C dX10_isThing_10 rfl 0 rfl ?_
    refine z_iload_n C dX10_isThing_11 rfl 1 rfl ?_
    refine z_iconst (v := 2) C dX10_isThing_12 (by decide) ?_
    refine z_chk (fun hk2 => ?_)
    refine z_cVI [.int p1, .int 2] [.int 0, .int p2] C mv_RX10_196 (fun r0 m0 h0 => M_X10_of _ _ _ _ _ _ _ _ h0) rfl rfl ⟨by rw [hrm]; exact Nat.le_of_ble_eq_true rfl, by rw [hrm]; exact Nat.le_of_ble_eq_true rfl⟩ ⟨by rw [hrm]; exact Nat.le_of_ble_eq_true rfl, by rw [hrm]; exact Nat.le_of_ble_eq_true rfl⟩ rfl hk2 rfl rfl rfl (Nat.le_of_ble_eq_true rfl) dX10_isThing_13 (fun r2 m2 => ?_)
    refine z_iconst (v := 1) C dX10_isThing_16 (by decide) ?_
    refine z_isub C dX10_isThing_17 ?_
    refine z_cSI [.int p2, .int 0, .int (r2 - 1)] [] C mv_RX10_188 (fun r0 m0 h0 => M_X10_in _ _ _ _ _ _ _ _ h0) rfl rfl ⟨by rw [hrm]; exact Nat.le_of_ble_eq_true rfl, by rw [hrm]; exact Nat.le_of_ble_eq_true rfl⟩ ⟨by rw [hrm]; exact Nat.le_of_ble_eq_true rfl, by rw [hrm]; exact Nat.le_of_ble_eq_true rfl⟩ rfl rfl (Nat.le_of_ble_eq_true rfl) dX10_isThing_18 (fun r3 m3 => ?_)
    refine z_if_eq (tgt := 28) C dX10_isThing_21 (by decide) (fun c2 => ?_) (fun c2 => ?_)
    · exact z_sub [0, 1, 2] rfl (s_X10_isThing_28 C hr hrm th p1 p2 m3)
    · refine z_iconst (v := 1) C dX10_isThing_24 (by decide) ?_
      refine z_goto (tgt := 29) C dX10_isThing_25 (by decide) ?_
      exact z_zret C hr rfl dX10_isThing_29
def f_X10_isThing (th : Nat) (p1 : Int32) (p2 : Int32) (m : MM) : Option (Int32 × MM) := g_X10_isThing_0 th p1 p2 m
theorem M_X10_isThing (l : Launch) (E : EX) (th : Nat) (p1 : Int32) (p2 : Int32) (m : MM) (r : Int32) (m2 : MM) (h : f_X10_isThing th p1 p2 m = some (r, m2)) : Met l yX10_isThing (.code yX10_isThing cX10_isThing 3 (some .boolean) :: TB) rmX10_isThing (va_Pc [.ref th, .int p1, .int p2] (St E m)) (QR E (emI r) m2) 0 0 (AA E) :=
  met_of (em := emI) (plainFor_of_name rfl) (Nat.le_of_ble_eq_true rfl) (L0 := [(0, va_rf (some th)), (1, .int p1), (2, .int p2)]) rfl (fun Γ _ hrm C hr hn => s_X10_isThing_0 C hr hrm th p1 p2 m) h

theorem dX10_four_0 : decode cX10_four 0 = .ok (.bipush 24, 2) := by decide +kernel
theorem dX10_four_2 : decode cX10_four 2 = .ok (.istore_n 2, 1) := by decide +kernel
theorem dX10_four_3 : decode cX10_four 3 = .ok (.iload_n 2, 1) := by decide +kernel
theorem dX10_four_4 : decode cX10_four 4 = .ok (.ifCond .lt 34, 3) := by decide +kernel
theorem dX10_four_7 : decode cX10_four 7 = .ok (.aload_n 0, 1) := by decide +kernel
theorem dX10_four_8 : decode cX10_four 8 = .ok (.getfield 7, 3) := by decide +kernel
theorem dX10_four_11 : decode cX10_four 11 = .ok (.aload_n 0, 1) := by decide +kernel
theorem dX10_four_12 : decode cX10_four 12 = .ok (.getfield 13, 3) := by decide +kernel
theorem dX10_four_15 : decode cX10_four 15 = .ok (.iconst 0, 1) := by decide +kernel
theorem dX10_four_16 : decode cX10_four 16 = .ok (.iaload, 1) := by decide +kernel
theorem dX10_four_17 : decode cX10_four 17 = .ok (.iload_n 1, 1) := by decide +kernel
theorem dX10_four_18 : decode cX10_four 18 = .ok (.iload_n 2, 1) := by decide +kernel
theorem dX10_four_19 : decode cX10_four 19 = .ok (.ishr, 1) := by decide +kernel
theorem dX10_four_20 : decode cX10_four 20 = .ok (.i2b, 1) := by decide +kernel
theorem dX10_four_21 : decode cX10_four 21 = .ok (.bastore, 1) := by decide +kernel
theorem dX10_four_22 : decode cX10_four 22 = .ok (.aload_n 0, 1) := by decide +kernel
theorem dX10_four_23 : decode cX10_four 23 = .ok (.getfield 13, 3) := by decide +kernel
theorem dX10_four_26 : decode cX10_four 26 = .ok (.iconst 0, 1) := by decide +kernel
theorem dX10_four_27 : decode cX10_four 27 = .ok (.dup2, 1) := by decide +kernel
theorem dX10_four_28 : decode cX10_four 28 = .ok (.iaload, 1) := by decide +kernel
theorem dX10_four_29 : decode cX10_four 29 = .ok (.iconst 1, 1) := by decide +kernel
theorem dX10_four_30 : decode cX10_four 30 = .ok (.iadd, 1) := by decide +kernel
theorem dX10_four_31 : decode cX10_four 31 = .ok (.iastore, 1) := by decide +kernel
theorem dX10_four_32 : decode cX10_four 32 = .ok (.iinc 2 (-8), 3) := by decide +kernel
theorem dX10_four_35 : decode cX10_four 35 = .ok (.goto (-32), 3) := by decide +kernel
theorem dX10_four_38 : decode cX10_four 38 = .ok (.return_, 1) := by decide +kernel
def rmX10_four : Room := { frames := 0, cells := 0, slots := 0, locals := 0 }
set_option maxRecDepth 100000 in
def g_X10_four_3 (th : Nat) (p1 : Int32) (k3 : Int32 → MM → Option (Unit × MM)) (x2 : Int32) (m : MM) : Option (Unit × MM) :=
  if x2 < 0 then (some ((), m)) else (chk (m.K th = 11) (ck m (m.R 1102 th 0) 22 (fun a1 => chk (inb 0 (m.N a1) = true) (ck m (m.R 1101 th 0) 21 (fun a2 => chk (inb (m.I 22 a1 (Int32.toNatClampNeg 0)) (m.N a2) = true) (bnd (m.sI 21 a2 (Int32.toNatClampNeg (m.I 22 a1 (Int32.toNatClampNeg 0))) (Int32.toInt8 ((Int32.toInt8 (p1 >>> (x2 &&& 31))).toInt32)).toInt32) (fun m1 => ck m1 (m1.R 1102 th 0) 22 (fun a3 => chk (inb 0 (m1.N a3) = true) (chk (inb 0 (m1.N a3) = true) (bnd (m1.sI 22 a3 (Int32.toNatClampNeg 0) ((m1.I 22 a3 (Int32.toNatClampNeg 0)) + 1)) (fun m2 => k3 (x2 + (-8)) m2)))))))))))
set_option maxHeartbeats 4000000 in
set_option maxRecDepth 100000 in
theorem s_X10_four_3 {Γ : GX} {E : EX} (C : Cx Γ E cX10_four RX10 3) (hr : Γ.meth.sig.returnType = none) (hrm : Γ.rm = rmX10_four) (th : Nat) (p1 : Int32) (k3 : Int32 → MM → Option (Unit × MM)) (h3 : ∀ (x2 : Int32) (m : MM), Sm (QM Γ E emV 0 0) Γ E 3 0 0 3 [(0, va_rf (some th)), (1, .int p1), (2, .int x2)] [] m (k3 x2 m)) (x2 : Int32) (m : MM) : Sm (QM Γ E emV 0 0) Γ E 3 0 0 3 [(0, va_rf (some th)), (1, .int p1), (2, .int x2)] [] m (g_X10_four_3 th p1 k3 x2 m) := by
  unfold g_X10_four_3
  refine z_iload_n C dX10_four_3 rfl 2 rfl ?_
  refine z_if_lt (tgt := 38) C dX10_four_4 (by decide) (fun c1 => ?_) (fun c1 => ?_)
  · exact z_vret C hr dX10_four_38
  · refine z_aload_n C dX10_four_7 rfl 0 rfl ?_
    refine z_chk (fun hk1 => ?_)
    refine z_getR C fl_RX10_7 rfl hk1 dX10_four_8 ?_
    refine z_aload_n C dX10_four_11 rfl 0 rfl ?_
    refine z_getR C fl_RX10_13 rfl hk1 dX10_four_12 ?_
    refine z_iconst (v := 0) C dX10_four_15 (by decide) ?_
    refine z_ck (fun a1 hr1 hk2 => ?_)
    refine z_chk (fun hj1 => ?_)
    refine z_iald C hr1 hk2 hj1 dX10_four_16 ?_
    refine z_iload_n C dX10_four_17 rfl 1 rfl ?_
    refine z_iload_n C dX10_four_18 rfl 2 rfl ?_
    refine z_ishr C dX10_four_19 ?_
    refine z_i2b C dX10_four_20 ?_
    refine z_ck (fun a2 hr2 hk3 => ?_)
    refine z_chk (fun hj2 => ?_)
    refine z_bast C hr2 hk3 hj2 dX10_four_21 (fun m1 eK1 eN1 => ?_)
    refine z_aload_n C dX10_four_22 rfl 0 rfl ?_
    refine z_getR C fl_RX10_13 rfl (kfw eK1 hk1) dX10_four_23 ?_
    refine z_iconst (v := 0) C dX10_four_26 (by decide) ?_
    refine z_dup2 C rfl (cat_rf _) dX10_four_27 ?_
    refine z_ck (fun a3 hr3 hk4 => ?_)
    refine z_chk (fun hj3 => ?_)
    refine z_iald C hr3 hk4 hj3 dX10_four_28 ?_
    refine z_iconst (v := 1) C dX10_four_29 (by decide) ?_
    refine z_iadd C dX10_four_30 ?_
    refine z_chk (fun hj4 => ?_)
    refine z_iast C hr3 hk4 hj4 dX10_four_31 (fun m2 eK2 eN2 => ?_)
    refine z_iinc (v := (-8)) (L2 := [(2, .int (x2 + (-8))), (0, va_rf (some th)), (1, .int p1)]) C dX10_four_32 2 rfl (by decide) (by decide) rfl ?_
    refine z_goto (tgt := 3) C dX10_four_35 (by decide) ?_
    exact z_sub [1, 2, 0] rfl (h3 (x2 + (-8)) m2)
def l_X10_four_3 (th : Nat) (p1 : Int32) : Nat → Int32 → MM → Option (Unit × MM) := lp (fun _ _ => none) (fun k3 => g_X10_four_3 th p1 k3)
theorem t_X10_four_3 {Γ : GX} {E : EX} (C : Cx Γ E cX10_four RX10 3) (hr : Γ.meth.sig.returnType = none) (hrm : Γ.rm = rmX10_four) (th : Nat) (p1 : Int32) : ∀ (n : Nat) (x2 : Int32) (m : MM), Sm (QM Γ E emV 0 0) Γ E 3 0 0 3 [(0, va_rf (some th)), (1, .int p1), (2, .int x2)] [] m (l_X10_four_3 th p1 n x2 m) := by
  intro n
  induction n with
  | zero => intros; exact z_none
  | succ n ih => intro x2 m; exact s_X10_four_3 C hr hrm th p1 (l_X10_four_3 th p1 n) ih x2 m
set_option maxRecDepth 100000 in
def g_X10_four_0 (th : Nat) (p1 : Int32) (m : MM) : Option (Unit × MM) :=
  l_X10_four_3 th p1 FU 24 m
set_option maxHeartbeats 4000000 in
set_option maxRecDepth 100000 in
theorem s_X10_four_0 {Γ : GX} {E : EX} (C : Cx Γ E cX10_four RX10 3) (hr : Γ.meth.sig.returnType = none) (hrm : Γ.rm = rmX10_four) (th : Nat) (p1 : Int32) (m : MM) : Sm (QM Γ E emV 0 0) Γ E 3 0 0 0 [(0, va_rf (some th)), (1, .int p1)] [] m (g_X10_four_0 th p1 m) := by
  unfold g_X10_four_0
  refine z_bipush (v := 24) C dX10_four_0 (by decide) ?_
  refine z_istore_n (i := 2) (L2 := [(2, .int 24), (0, va_rf (some th)), (1, .int p1)]) C dX10_four_2 rfl (by decide) rfl ?_
  exact z_sub [1, 2, 0] rfl (t_X10_four_3 C hr hrm th p1 FU 24 m)
def f_X10_four (th : Nat) (p1 : Int32) (m : MM) : Option (Unit × MM) := g_X10_four_0 th p1 m
theorem M_X10_four (l : Launch) (E : EX) (th : Nat) (p1 : Int32) (m : MM) (r : Unit) (m2 : MM) (h : f_X10_four th p1 m = some (r, m2)) : Met l yX10_four (.code yX10_four cX10_four 3 none :: TB) rmX10_four (va_Pc [.ref th, .int p1] (St E m)) (QR E (emV r) m2) 0 0 (AA E) :=
  met_of (em := emV) (plainFor_of_name rfl) (Nat.le_of_ble_eq_true rfl) (L0 := [(0, va_rf (some th)), (1, .int p1)]) rfl (fun Γ _ hrm C hr hn => s_X10_four_0 C hr hrm th p1 m) h

theorem dX10_feed_0 : decode cX10_feed 0 = .ok (.aload_n 0, 1) := by decide +kernel
theorem dX10_feed_1 : decode cX10_feed 1 = .ok (.iconst 0, 1) := by decide +kernel
theorem dX10_feed_2 : decode cX10_feed 2 = .ok (.putfield 180, 3) := by decide +kernel
theorem dX10_feed_5 : decode cX10_feed 5 = .ok (.aload_n 0, 1) := by decide +kernel
theorem dX10_feed_6 : decode cX10_feed 6 = .ok (.getfield 13, 3) := by decide +kernel
theorem dX10_feed_9 : decode cX10_feed 9 = .ok (.iconst 0, 1) := by decide +kernel
theorem dX10_feed_10 : decode cX10_feed 10 = .ok (.iaload, 1) := by decide +kernel
theorem dX10_feed_11 : decode cX10_feed 11 = .ok (.bipush 20, 2) := by decide +kernel
theorem dX10_feed_13 : decode cX10_feed 13 = .ok (.iadd, 1) := by decide +kernel
theorem dX10_feed_14 : decode cX10_feed 14 = .ok (.sipush 500, 3) := by decide +kernel
theorem dX10_feed_17 : decode cX10_feed 17 = .ok (.if_icmp .le 5, 3) := by decide +kernel
theorem dX10_feed_20 : decode cX10_feed 20 = .ok (.iconst (-1), 1) := by decide +kernel
theorem dX10_feed_21 : decode cX10_feed 21 = .ok (.ireturn, 1) := by decide +kernel
theorem dX10_feed_22 : decode cX10_feed 22 = .ok (.aload_n 0, 1) := by decide +kernel
theorem dX10_feed_23 : decode cX10_feed 23 = .ok (.iload_n 1, 1) := by decide +kernel
theorem dX10_feed_24 : decode cX10_feed 24 = .ok (.invokevirtual 200, 3) := by decide +kernel
theorem dX10_feed_27 : decode cX10_feed 27 = .ok (.aload_n 0, 1) := by decide +kernel
theorem dX10_feed_28 : decode cX10_feed 28 = .ok (.iload_n 2, 1) := by decide +kernel
theorem dX10_feed_29 : decode cX10_feed 29 = .ok (.invokevirtual 200, 3) := by decide +kernel
theorem dX10_feed_32 : decode cX10_feed 32 = .ok (.aload_n 0, 1) := by decide +kernel
theorem dX10_feed_33 : decode cX10_feed 33 = .ok (.iload_n 3, 1) := by decide +kernel
theorem dX10_feed_34 : decode cX10_feed 34 = .ok (.invokevirtual 200, 3) := by decide +kernel
theorem dX10_feed_37 : decode cX10_feed 37 = .ok (.aload_n 0, 1) := by decide +kernel
theorem dX10_feed_38 : decode cX10_feed 38 = .ok (.iload 4, 2) := by decide +kernel
theorem dX10_feed_40 : decode cX10_feed 40 = .ok (.invokevirtual 200, 3) := by decide +kernel
theorem dX10_feed_43 : decode cX10_feed 43 = .ok (.aload_n 0, 1) := by decide +kernel
theorem dX10_feed_44 : decode cX10_feed 44 = .ok (.iload 5, 2) := by decide +kernel
theorem dX10_feed_46 : decode cX10_feed 46 = .ok (.invokevirtual 200, 3) := by decide +kernel
theorem dX10_feed_49 : decode cX10_feed 49 = .ok (.aload_n 0, 1) := by decide +kernel
theorem dX10_feed_50 : decode cX10_feed 50 = .ok (.getfield 13, 3) := by decide +kernel
theorem dX10_feed_53 : decode cX10_feed 53 = .ok (.iconst 0, 1) := by decide +kernel
theorem dX10_feed_54 : decode cX10_feed 54 = .ok (.iaload, 1) := by decide +kernel
theorem dX10_feed_55 : decode cX10_feed 55 = .ok (.ireturn, 1) := by decide +kernel
def rmX10_feed : Room := { frames := 1, cells := 0, slots := 0, locals := 22 }
set_option maxRecDepth 100000 in
def g_X10_feed_0 (th : Nat) (p1 : Int32) (p2 : Int32) (p3 : Int32) (p4 : Int32) (p5 : Int32) (m : MM) : Option (Int32 × MM) :=
  chk (m.K th = 11) (bnd (m.sI 1100 th 0 0) (fun m1 => ck m1 (m1.R 1102 th 0) 22 (fun a1 => chk (inb 0 (m1.N a1) = true) (if ((m1.I 22 a1 (Int32.toNatClampNeg 0)) + 20) ≤ 500 then (cal (f_X10_four th p1 m1) (fun r1 m2 => chk (m2.K th = 11) (cal (f_X10_four th p2 m2) (fun r2 m3 => chk (m3.K th = 11) (cal (f_X10_four th p3 m3) (fun r3 m4 => chk (m4.K th = 11) (cal (f_X10_four th p4 m4) (fun r4 m5 => chk (m5.K th = 11) (cal (f_X10_four th p5 m5) (fun r5 m6 => chk (m6.K th = 11) (ck m6 (m6.R 1102 th 0) 22 (fun a2 => chk (inb 0 (m6.N a2) = true) (some (m6.I 22 a2 (Int32.toNatClampNeg 0), m6)))))))))))))) else (some ((-1), m1))))))
set_option maxHeartbeats 4000000 in
set_option maxRecDepth 100000 in
theorem s_X10_feed_0 {Γ : GX} {E : EX} (C : Cx Γ E cX10_feed RX10 6) (hr : Γ.meth.sig.returnType = (some .int)) (hrm : Γ.rm = rmX10_feed) (th : Nat) (p1 : Int32) (p2 : Int32) (p3 : Int32) (p4 : Int32) (p5 : Int32) (m : MM) : Sm (QM Γ E emI 0 0) Γ E 6 0 0 0 [(0, va_rf (some th)), (1, .int p1), (2, .int p2), (3, .int p3), (4, .int p4), (5, .int p5)] [] m (g_X10_feed_0 th p1 p2 p3 p4 p5 m) := by
  unfold g_X10_feed_0
  refine z_aload_n C dX10_feed_0 rfl 0 rfl ?_
  refine z_iconst (v := 0) C dX10_feed_1 (by decide) ?_
  refine z_chk (fun hk1 => ?_)
  refine z_putI C fl_RX10_180 (fun h => by cases h) rfl hk1 rfl rfl dX10_feed_2 (fun m1 eK1 eN1 => ?_)
  refine z_aload_n C dX10_feed_5 rfl 0 rfl ?_
  refine z_getR C fl_RX10_13 rfl (kfw eK1 hk1) dX10_feed_6 ?_
  refine z_iconst (v := 0) C dX10_feed_9 (by decide) ?_
  refine z_ck (fun a1 hr1 hk2 => ?_)
  refine z_chk (fun hj1 => ?_)
  refine z_iald C hr1 hk2 hj1 dX10_feed_10 ?_
  refine z_bipush (v := 20) C dX10_feed_11 (by decide) ?_
  refine z_iadd C dX10_feed_13 ?_
  refine z_sipush (v := 500) C dX10_feed_14 (by decide) ?_
  refine z_icmp_le (tgt := 22) C dX10_feed_17 (by decide) (fun c1 => ?_) (fun c1 => ?_)
  · refine z_aload_n C dX10_feed_22 rfl 0 rfl ?_
    refine z_iload_n C dX10_feed_23 rfl 1 rfl ?_
    refine z_cVV [.int p1] [] C mv_RX10_200 (fun r0 m0 h0 => M_X10_four _ _ _ _ _ _ _ h0) rfl rfl ⟨by rw [hrm]; exact Nat.le_of_ble_eq_true rfl, by rw [hrm]; exact Nat.le_of_ble_eq_true rfl⟩ ⟨by rw [hrm]; exact Nat.le_of_ble_eq_true rfl, by rw [hrm]; exact Nat.le_of_ble_eq_true rfl⟩ rfl (kfw eK1 hk1) rfl rfl rfl (Nat.le_of_ble_eq_true rfl) dX10_feed_24 (fun r1 m2 => ?_)
    refine z_aload_n C dX10_feed_27 rfl 0 rfl ?_
    refine z_iload_n C dX10_feed_28 rfl 2 rfl ?_
    refine z_chk (fun hk3 => ?_)
    refine z_cVV [.int p2] [] C mv_RX10_200 (fun r0 m0 h0 => M_X10_four _ _ _ _ _ _ _ h0) rfl rfl ⟨by rw [hrm]; exact Nat.le_of_ble_eq_true rfl, by rw [hrm]; exact Nat.le_of_ble_eq_true rfl⟩ ⟨by rw [hrm]; exact Nat.le_of_ble_eq_true rfl, by rw [hrm]; exact Nat.le_of_ble_eq_true rfl⟩ rfl hk3 rfl rfl rfl (Nat.le_of_ble_eq_true rfl) dX10_feed_29 (fun r2 m3 => ?_)
    refine z_aload_n C dX10_feed_32 rfl 0 rfl ?_
    refine z_iload_n C dX10_feed_33 rfl 3 rfl ?_
    refine z_chk (fun hk4 => ?_)
    refine z_cVV [.int p3] [] C mv_RX10_200 (fun r0 m0 h0 => M_X10_four _ _ _ _ _ _ _ h0) rfl rfl ⟨by rw [hrm]; exact Nat.le_of_ble_eq_true rfl, by rw [hrm]; exact Nat.le_of_ble_eq_true rfl⟩ ⟨by rw [hrm]; exact Nat.le_of_ble_eq_true rfl, by rw [hrm]; exact Nat.le_of_ble_eq_true rfl⟩ rfl hk4 rfl rfl rfl (Nat.le_of_ble_eq_true rfl) dX10_feed_34 (fun r3 m4 => ?_)
    refine z_aload_n C dX10_feed_37 rfl 0 rfl ?_
    refine z_iload C dX10_feed_38 4 rfl ?_
    refine z_chk (fun hk5 => ?_)
    refine z_cVV [.int p4] [] C mv_RX10_200 (fun r0 m0 h0 => M_X10_four _ _ _ _ _ _ _ h0) rfl rfl ⟨by rw [hrm]; exact Nat.le_of_ble_eq_true rfl, by rw [hrm]; exact Nat.le_of_ble_eq_true rfl⟩ ⟨by rw [hrm]; exact Nat.le_of_ble_eq_true rfl, by rw [hrm]; exact Nat.le_of_ble_eq_true rfl⟩ rfl hk5 rfl rfl rfl (Nat.le_of_ble_eq_true rfl) dX10_feed_40 (fun r4 m5 => ?_)
    refine z_aload_n C dX10_feed_43 rfl 0 rfl ?_
    refine z_iload C dX10_feed_44 5 rfl ?_
    refine z_chk (fun hk6 => ?_)
    refine z_cVV [.int p5] [] C mv_RX10_200 (fun r0 m0 h0 => M_X10_four _ _ _ _ _ _ _ h0) rfl rfl ⟨by rw [hrm]; exact Nat.le_of_ble_eq_true rfl, by rw [hrm]; exact Nat.le_of_ble_eq_true rfl⟩ ⟨by rw [hrm]; exact Nat.le_of_ble_eq_true rfl, by rw [hrm]; exact Nat.le_of_ble_eq_true rfl⟩ rfl hk6 rfl rfl rfl (Nat.le_of_ble_eq_true rfl) dX10_feed_46 (fun r5 m6 => ?_)
    refine z_aload_n C dX10_feed_49 rfl 0 rfl ?_
    refine z_chk (fun hk7 => ?_)
    refine z_getR C fl_RX10_13 rfl hk7 dX10_feed_50 ?_
    refine z_iconst (v := 0) C dX10_feed_53 (by decide) ?_
    refine z_ck (fun a2 hr2 hk8 => ?_)
    refine z_chk (fun hj2 => ?_)
    refine z_iald C hr2 hk8 hj2 dX10_feed_54 ?_
    exact z_iret C hr dX10_feed_55
  · refine z_iconst (v := (-1)) C dX10_feed_20 (by decide) ?_
    exact z_iret C hr dX10_feed_21
def f_X10_feed (th : Nat) (p1 : Int32) (p2 : Int32) (p3 : Int32) (p4 : Int32) (p5 : Int32) (m : MM) : Option (Int32 × MM) := g_X10_feed_0 th p1 p2 p3 p4 p5 m
theorem M_X10_feed (l : Launch) (E : EX) (th : Nat) (p1 : Int32) (p2 : Int32) (p3 : Int32) (p4 : Int32) (p5 : Int32) (m : MM) (r : Int32) (m2 : MM) (h : f_X10_feed th p1 p2 p3 p4 p5 m = some (r, m2)) : Met l yX10_feed (.code yX10_feed cX10_feed 6 (some .int) :: TB) rmX10_feed (va_Pc [.ref th, .int p1, .int p2, .int p3, .int p4, .int p5] (St E m)) (QR E (emI r) m2) 0 0 (AA E) :=
  met_of (em := emI) (plainFor_of_name rfl) (Nat.le_of_ble_eq_true rfl) (L0 := [(0, va_rf (some th)), (1, .int p1), (2, .int p2), (3, .int p3), (4, .int p4), (5, .int p5)]) rfl (fun Γ _ hrm C hr hn => s_X10_feed_0 C hr hrm th p1 p2 p3 p4 p5 m) h

theorem dX10_end_0 : decode cX10_end 0 = .ok (.aload_n 0, 1) := by decide +kernel
theorem dX10_end_1 : decode cX10_end 1 = .ok (.iconst 0, 1) := by decide +kernel
theorem dX10_end_2 : decode cX10_end 2 = .ok (.putfield 180, 3) := by decide +kernel
theorem dX10_end_5 : decode cX10_end 5 = .ok (.iload_n 1, 1) := by decide +kernel
theorem dX10_end_6 : decode cX10_end 6 = .ok (.iconst 0, 1) := by decide +kernel
theorem dX10_end_7 : decode cX10_end 7 = .ok (.aload_n 0, 1) := by decide +kernel
theorem dX10_end_8 : decode cX10_end 8 = .ok (.getfield 13, 3) := by decide +kernel
theorem dX10_end_11 : decode cX10_end 11 = .ok (.iconst 0, 1) := by decide +kernel
theorem dX10_end_12 : decode cX10_end 12 = .ok (.iaload, 1) := by decide +kernel
theorem dX10_end_13 : decode cX10_end 13 = .ok (.invokestatic 188, 3) := by decide +kernel
theorem dX10_end_16 : decode cX10_end 16 = .ok (.ifCond .ne 5, 3) := by decide +kernel
theorem dX10_end_19 : decode cX10_end 19 = .ok (.iconst (-1), 1) := by decide +kernel
theorem dX10_end_20 : decode cX10_end 20 = .ok (.ireturn, 1) := by decide +kernel
theorem dX10_end_21 : decode cX10_end 21 = .ok (.aload_n 0, 1) := by decide +kernel
theorem dX10_end_22 : decode cX10_end 22 = .ok (.getfield 13, 3) := by decide +kernel
theorem dX10_end_25 : decode cX10_end 25 = .ok (.iconst 0, 1) := by decide +kernel
theorem dX10_end_26 : decode cX10_end 26 = .ok (.iload_n 1, 1) := by decide +kernel
theorem dX10_end_27 : decode cX10_end 27 = .ok (.iastore, 1) := by decide +kernel
theorem dX10_end_28 : decode cX10_end 28 = .ok (.iload_n 1, 1) := by decide +kernel
theorem dX10_end_29 : decode cX10_end 29 = .ok (.ireturn, 1) := by decide +kernel
def rmX10_end : Room := { frames := 1, cells := 0, slots := 0, locals := 22 }
set_option maxRecDepth 100000 in
def g_X10_end_0 (th : Nat) (p1 : Int32) (m : MM) : Option (Int32 × MM) :=
  chk (m.K th = 11) (bnd (m.sI 1100 th 0 0) (fun m1 => ck m1 (m1.R 1102 th 0) 22 (fun a1 => chk (inb 0 (m1.N a1) = true) (cal (f_X10_in p1 0 (m1.I 22 a1 (Int32.toNatClampNeg 0)) m1) (fun r1 m2 => if r1 = 0 then (some ((-1), m2)) else (chk (m2.K th = 11) (ck m2 (m2.R 1102 th 0) 22 (fun a2 => chk (inb 0 (m2.N a2) = true) (bnd (m2.sI 22 a2 (Int32.toNatClampNeg 0) p1) (fun m3 => some (p1, m3)))))))))))
set_option maxHeartbeats 4000000 in
set_option maxRecDepth 100000 in
theorem s_X10_end_0 {Γ : GX} {E : EX} (C : Cx Γ E cX10_end RX10 2) (hr : Γ.meth.sig.returnType = (some .int)) (hrm : Γ.rm = rmX10_end) (th : Nat) (p1 : Int32) (m : MM) : Sm (QM Γ E emI 0 0) Γ E 2 0 0 0 [(0, va_rf (some th)), (1, .int p1)] [] m (g_X10_end_0 th p1 m) := by
  unfold g_X10_end_0
  refine z_aload_n C dX10_end_0 rfl 0 rfl ?_
  refine z_iconst (v := 0) C dX10_end_1 (by decide) ?_
  refine z_chk (fun hk1 => ?_)
  refine z_putI C fl_RX10_180 (fun h => by cases h) rfl hk1 rfl rfl dX10_end_2 (fun m1 eK1 eN1 => ?_)
  refine z_iload_n C dX10_end_5 rfl 1 rfl ?_
  refine z_iconst (v := 0) C dX10_end_6 (by decide) ?_
  refine z_aload_n C dX10_end_7 rfl 0 rfl ?_
  refine z_getR C fl_RX10_13 rfl (kfw eK1 hk1) dX10_end_8 ?_
  refine z_iconst (v := 0) C dX10_end_11 (by decide) ?_
  refine z_ck (fun a1 hr1 hk2 => ?_)
  refine z_chk (fun hj1 => ?_)
  refine z_iald C hr1 hk2 hj1 dX10_end_12 ?_
  refine z_cSI [.int p1, .int 0, .int (m1.I 22 a1 (Int32.toNatClampNeg 0))] [] C mv_RX10_188 (fun r0 m0 h0 => M_X10_in _ _ _ _ _ _ _ _ h0) rfl rfl ⟨by rw [hrm]; exact Nat.le_of_ble_eq_true rfl, by rw [hrm]; exact Nat.le_of_ble_eq_true rfl⟩ ⟨by rw [hrm]; exact Nat.le_of_ble_eq_true rfl, by rw [hrm]; exact Nat.le_of_ble_eq_true rfl⟩ rfl rfl (Nat.le_of_ble_eq_true rfl) dX10_end_13 (fun r1 m2 => ?_)
  refine z_if_ne (tgt := 21) C dX10_end_16 (by decide) (fun c1 => ?_) (fun c1 => ?_)
  · refine z_aload_n C dX10_end_21 rfl 0 rfl ?_
    refine z_chk (fun hk3 => ?_)
    refine z_getR C fl_RX10_13 rfl hk3 dX10_end_22 ?_
    refine z_iconst (v := 0) C dX10_end_25 (by decide) ?_
    refine z_iload_n C dX10_end_26 rfl 1 rfl ?_
    refine z_ck (fun a2 hr2 hk4 => ?_)
    refine z_chk (fun hj2 => ?_)
    refine z_iast C hr2 hk4 hj2 dX10_end_27 (fun m3 eK2 eN2 => ?_)
    refine z_iload_n C dX10_end_28 rfl 1 rfl ?_
    exact z_iret C hr dX10_end_29
  · refine z_iconst (v := (-1)) C dX10_end_19 (by decide) ?_
    exact z_iret C hr dX10_end_20
def f_X10_end (th : Nat) (p1 : Int32) (m : MM) : Option (Int32 × MM) := g_X10_end_0 th p1 m
theorem M_X10_end (l : Launch) (E : EX) (th : Nat) (p1 : Int32) (m : MM) (r : Int32) (m2 : MM) (h : f_X10_end th p1 m = some (r, m2)) : Met l yX10_end (.code yX10_end cX10_end 2 (some .int) :: TB) rmX10_end (va_Pc [.ref th, .int p1] (St E m)) (QR E (emI r) m2) 0 0 (AA E) :=
  met_of (em := emI) (plainFor_of_name rfl) (Nat.le_of_ble_eq_true rfl) (L0 := [(0, va_rf (some th)), (1, .int p1)]) rfl (fun Γ _ hrm C hr hn => s_X10_end_0 C hr hrm th p1 m) h

theorem dX10_see_0 : decode cX10_see 0 = .ok (.aload_n 0, 1) := by decide +kernel
theorem dX10_see_1 : decode cX10_see 1 = .ok (.getfield 204, 3) := by decide +kernel
theorem dX10_see_4 : decode cX10_see 4 = .ok (.aload_n 0, 1) := by decide +kernel
theorem dX10_see_5 : decode cX10_see 5 = .ok (.getfield 207, 3) := by decide +kernel
theorem dX10_see_8 : decode cX10_see 8 = .ok (.if_icmp .ge 19, 3) := by decide +kernel
theorem dX10_see_11 : decode cX10_see 11 = .ok (.aload_n 0, 1) := by decide +kernel
theorem dX10_see_12 : decode cX10_see 12 = .ok (.getfield 7, 3) := by decide +kernel
theorem dX10_see_15 : decode cX10_see 15 = .ok (.aload_n 0, 1) := by decide +kernel
theorem dX10_see_16 : decode cX10_see 16 = .ok (.getfield 204, 3) := by decide +kernel
theorem dX10_see_19 : decode cX10_see 19 = .ok (.baload, 1) := by decide +kernel
theorem dX10_see_20 : decode cX10_see 20 = .ok (.sipush 255, 3) := by decide +kernel
theorem dX10_see_23 : decode cX10_see 23 = .ok (.iand, 1) := by decide +kernel
theorem dX10_see_24 : decode cX10_see 24 = .ok (.goto 4, 3) := by decide +kernel
theorem dX10_see_27 : decode cX10_see 27 = .ok (.iconst (-1), 1) := by decide +kernel
theorem dX10_see_28 : decode cX10_see 28 = .ok (.ireturn, 1) := by decide +kernel
def rmX10_see : Room := { frames := 0, cells := 0, slots := 0, locals := 0 }
set_option maxRecDepth 100000 in
def g_X10_see_0 (th : Nat) (m : MM) : Option (Int32 × MM) :=
  chk (m.K th = 11) (if (m.I 1139 th 0) ≤ (m.I 1138 th 0) then (some ((-1), m)) else (ck m (m.R 1101 th 0) 21 (fun a1 => chk (inb (m.I 1138 th 0) (m.N a1) = true) (some ((m.I 21 a1 (Int32.toNatClampNeg (m.I 1138 th 0))) &&& 255, m)))))
set_option maxHeartbeats 4000000 in
set_option maxRecDepth 100000 in
theorem s_X10_see_0 {Γ : GX} {E : EX} (C : Cx Γ E cX10_see RX10 1) (hr : Γ.meth.sig.returnType = (some .int)) (hrm : Γ.rm = rmX10_see) (th : Nat) (m : MM) : Sm (QM Γ E emI 0 0) Γ E 1 0 0 0 [(0, va_rf (some th))] [] m (g_X10_see_0 th m) := by
  unfold g_X10_see_0
  refine z_aload_n C dX10_see_0 rfl 0 rfl ?_
  refine z_chk (fun hk1 => ?_)
  refine z_getI C fl_RX10_204 rfl hk1 dX10_see_1 ?_
  refine z_aload_n C dX10_see_4 rfl 0 rfl ?_
  refine z_getI C fl_RX10_207 rfl hk1 dX10_see_5 ?_
  refine z_icmp_ge (tgt := 27) C dX10_see_8 (by decide) (fun c1 => ?_) (fun c1 => ?_)
  · refine z_iconst (v := (-1)) C dX10_see_27 (by decide) ?_
    exact z_iret C hr dX10_see_28
  · refine z_aload_n C dX10_see_11 rfl 0 rfl ?_
    refine z_getR C fl_RX10_7 rfl hk1 dX10_see_12 ?_
    refine z_aload_n C dX10_see_15 rfl 0 rfl ?_
    refine z_getI C fl_RX10_204 rfl hk1 dX10_see_16 ?_
    refine z_ck (fun a1 hr1 hk2 => ?_)
    refine z_chk (fun hj1 => ?_)
    refine z_bald C hr1 hk2 hj1 dX10_see_19 ?_
    refine z_sipush (v := 255) C dX10_see_20 (by decide) ?_
    refine z_iand C dX10_see_23 ?_
    refine z_goto (tgt := 28) C dX10_see_24 (by decide) ?_
    exact z_iret C hr dX10_see_28
def f_X10_see (th : Nat) (m : MM) : Option (Int32 × MM) := g_X10_see_0 th m
theorem M_X10_see (l : Launch) (E : EX) (th : Nat) (m : MM) (r : Int32) (m2 : MM) (h : f_X10_see th m = some (r, m2)) : Met l yX10_see (.code yX10_see cX10_see 1 (some .int) :: TB) rmX10_see (va_Pc [.ref th] (St E m)) (QR E (emI r) m2) 0 0 (AA E) :=
  met_of (em := emI) (plainFor_of_name rfl) (Nat.le_of_ble_eq_true rfl) (L0 := [(0, va_rf (some th))]) rfl (fun Γ _ hrm C hr hn => s_X10_see_0 C hr hrm th m) h

theorem dX10_token_0 : decode cX10_token 0 = .ok (.aload_n 0, 1) := by decide +kernel
theorem dX10_token_1 : decode cX10_token 1 = .ok (.invokevirtual 210, 3) := by decide +kernel
theorem dX10_token_4 : decode cX10_token 4 = .ok (.bipush 10, 2) := by decide +kernel
theorem dX10_token_6 : decode cX10_token 6 = .ok (.if_icmp .eq 12, 3) := by decide +kernel
theorem dX10_token_9 : decode cX10_token 9 = .ok (.aload_n 0, 1) := by decide +kernel
theorem dX10_token_10 : decode cX10_token 10 = .ok (.invokevirtual 210, 3) := by decide +kernel
theorem dX10_token_13 : decode cX10_token 13 = .ok (.bipush 32, 2) := by decide +kernel
theorem dX10_token_15 : decode cX10_token 15 = .ok (.if_icmp .ne 16, 3) := by decide +kernel
theorem dX10_token_18 : decode cX10_token 18 = .ok (.aload_n 0, 1) := by decide +kernel
theorem dX10_token_19 : decode cX10_token 19 = .ok (.dup, 1) := by decide +kernel
theorem dX10_token_20 : decode cX10_token 20 = .ok (.getfield 204, 3) := by decide +kernel
theorem dX10_token_23 : decode cX10_token 23 = .ok (.iconst 1, 1) := by decide +kernel
theorem dX10_token_24 : decode cX10_token 24 = .ok (.iadd, 1) := by decide +kernel
theorem dX10_token_25 : decode cX10_token 25 = .ok (.putfield 204, 3) := by decide +kernel
theorem dX10_token_28 : decode cX10_token 28 = .ok (.goto (-28), 3) := by decide +kernel
theorem dX10_token_31 : decode cX10_token 31 = .ok (.aload_n 0, 1) := by decide +kernel
theorem dX10_token_32 : decode cX10_token 32 = .ok (.aload_n 0, 1) := by decide +kernel
theorem dX10_token_33 : decode cX10_token 33 = .ok (.getfield 204, 3) := by decide +kernel
theorem dX10_token_36 : decode cX10_token 36 = .ok (.putfield 214, 3) := by decide +kernel
theorem dX10_token_39 : decode cX10_token 39 = .ok (.aload_n 0, 1) := by decide +kernel
theorem dX10_token_40 : decode cX10_token 40 = .ok (.invokevirtual 210, 3) := by decide +kernel
theorem dX10_token_43 : decode cX10_token 43 = .ok (.istore_n 1, 1) := by decide +kernel
theorem dX10_token_44 : decode cX10_token 44 = .ok (.aload_n 0, 1) := by decide +kernel
theorem dX10_token_45 : decode cX10_token 45 = .ok (.lconst 0, 1) := by decide +kernel
theorem dX10_token_46 : decode cX10_token 46 = .ok (.putfield 217, 3) := by decide +kernel
theorem dX10_token_49 : decode cX10_token 49 = .ok (.iconst 0, 1) := by decide +kernel
theorem dX10_token_50 : decode cX10_token 50 = .ok (.istore_n 2, 1) := by decide +kernel
theorem dX10_token_51 : decode cX10_token 51 = .ok (.iload_n 1, 1) := by decide +kernel
theorem dX10_token_52 : decode cX10_token 52 = .ok (.ifCond .ge 11, 3) := by decide +kernel
theorem dX10_token_55 : decode cX10_token 55 = .ok (.aload_n 0, 1) := by decide +kernel
theorem dX10_token_56 : decode cX10_token 56 = .ok (.iconst 0, 1) := by decide +kernel
theorem dX10_token_57 : decode cX10_token 57 = .ok (.putfield 221, 3) := by decide +kernel
theorem dX10_token_60 : decode cX10_token 60 = .ok (.goto 206, 3) := by decide +kernel
theorem dX10_token_63 : decode cX10_token 63 = .ok (.iload_n 1, 1) := by decide +kernel
theorem dX10_token_64 : decode cX10_token 64 = .ok (.bipush 97, 2) := by decide +kernel
theorem dX10_token_66 : decode cX10_token 66 = .ok (.bipush 122, 2) := by decide +kernel
theorem dX10_token_68 : decode cX10_token 68 = .ok (.invokestatic 188, 3) := by decide +kernel
theorem dX10_token_71 : decode cX10_token 71 = .ok (.ifCond .eq 76, 3) := by decide +kernel
theorem dX10_token_74 : decode cX10_token 74 = .ok (.aload_n 0, 1) := by decide +kernel
theorem dX10_token_75 : decode cX10_token 75 = .ok (.invokevirtual 210, 3) := by decide +kernel
theorem dX10_token_78 : decode cX10_token 78 = .ok (.bipush 97, 2) := by decide +kernel
theorem dX10_token_80 : decode cX10_token 80 = .ok (.bipush 122, 2) := by decide +kernel
theorem dX10_token_82 : decode cX10_token 82 = .ok (.invokestatic 188, 3) := by decide +kernel
theorem dX10_token_85 : decode cX10_token 85 = .ok (.ifCond .eq 36, 3) := by decide +kernel
theorem dX10_token_88 : decode cX10_token 88 = .ok (.aload_n 0, 1) := by decide +kernel
theorem dX10_token_89 : decode cX10_token 89 = .ok (.aload_n 0, 1) := by decide +kernel
theorem dX10_token_90 : decode cX10_token 90 = .ok (.getfield 217, 3) := by decide +kernel
theorem dX10_token_93 : decode cX10_token 93 = .ok (.bipush 8, 2) := by decide +kernel
theorem dX10_token_95 : decode cX10_token 95 = .ok (.lshl, 1) := by decide +kernel
theorem dX10_token_96 : decode cX10_token 96 = .ok (.aload_n 0, 1) := by decide +kernel
theorem dX10_token_97 : decode cX10_token 97 = .ok (.invokevirtual 210, 3) := by decide +kernel
theorem dX10_token_100 : decode cX10_token 100 = .ok (.i2l, 1) := by decide +kernel
theorem dX10_token_101 : decode cX10_token 101 = .ok (.lor, 1) := by decide +kernel
theorem dX10_token_102 : decode cX10_token 102 = .ok (.putfield 217, 3) := by decide +kernel
theorem dX10_token_105 : decode cX10_token 105 = .ok (.aload_n 0, 1) := by decide +kernel
theorem dX10_token_106 : decode cX10_token 106 = .ok (.dup, 1) := by decide +kernel
theorem dX10_token_107 : decode cX10_token 107 = .ok (.getfield 204, 3) := by decide +kernel
theorem dX10_token_110 : decode cX10_token 110 = .ok (.iconst 1, 1) := by decide +kernel
theorem dX10_token_111 : decode cX10_token 111 = .ok (.iadd, 1) := by decide +kernel
theorem dX10_token_112 : decode cX10_token 112 = .ok (.putfield 204, 3) := by decide +kernel
theorem dX10_token_115 : decode cX10_token 115 = .ok (.iinc 2 1, 3) := by decide +kernel
theorem dX10_token_118 : decode cX10_token 118 = .ok (.goto (-44), 3) := by decide +kernel
theorem dX10_token_121 : decode cX10_token 121 = .ok (.aload_n 0, 1) := by decide +kernel
theorem dX10_token_122 : decode cX10_token 122 = .ok (.iload_n 2, 1) := by decide +kernel
theorem dX10_token_123 : decode cX10_token 123 = .ok (.bipush 8, 2) := by decide +kernel
theorem dX10_token_125 : decode cX10_token 125 = .ok (.if_icmp .le 7, 3) := by decide +kernel
theorem dX10_token_128 : decode cX10_token 128 = .ok (.lconst 0, 1) := by decide +kernel
theorem dX10_token_129 : decode cX10_token 129 = .ok (.goto 7, 3) := by decide +kernel
theorem dX10_token_132 : decode cX10_token 132 = .ok (.aload_n 0, 1) := by decide +kernel
theorem dX10_token_133 : decode cX10_token 133 = .ok (.getfield 217, 3) := by decide +kernel
theorem dX10_token_136 : decode cX10_token 136 = .ok (.putfield 217, 3) := by decide +kernel
theorem dX10_token_139 : decode cX10_token 139 = .ok (.aload_n 0, 1) := by decide +kernel
theorem dX10_token_140 : decode cX10_token 140 = .ok (.iconst 2, 1) := by decide +kernel
theorem dX10_token_141 : decode cX10_token 141 = .ok (.putfield 221, 3) := by decide +kernel
theorem dX10_token_144 : decode cX10_token 144 = .ok (.goto 122, 3) := by decide +kernel
theorem dX10_token_147 : decode cX10_token 147 = .ok (.iload_n 1, 1) := by decide +kernel
theorem dX10_token_148 : decode cX10_token 148 = .ok (.bipush 48, 2) := by decide +kernel
theorem dX10_token_150 : decode cX10_token 150 = .ok (.bipush 57, 2) := by decide +kernel
theorem dX10_token_152 : decode cX10_token 152 = .ok (.invokestatic 188, 3) := by decide +kernel
theorem dX10_token_155 : decode cX10_token 155 = .ok (.ifCond .eq 86, 3) := by decide +kernel
theorem dX10_token_158 : decode cX10_token 158 = .ok (.aload_n 0, 1) := by decide +kernel
theorem dX10_token_159 : decode cX10_token 159 = .ok (.iconst 0, 1) := by decide +kernel
theorem dX10_token_160 : decode cX10_token 160 = .ok (.putfield 224, 3) := by decide +kernel
theorem dX10_token_163 : decode cX10_token 163 = .ok (.aload_n 0, 1) := by decide +kernel
theorem dX10_token_164 : decode cX10_token 164 = .ok (.invokevirtual 210, 3) := by decide +kernel
theorem dX10_token_167 : decode cX10_token 167 = .ok (.bipush 48, 2) := by decide +kernel
theorem dX10_token_169 : decode cX10_token 169 = .ok (.bipush 57, 2) := by decide +kernel
theorem dX10_token_171 : decode cX10_token 171 = .ok (.invokestatic 188, 3) := by decide +kernel
theorem dX10_token_174 : decode cX10_token 174 = .ok (.ifCond .eq 50, 3) := by decide +kernel
theorem dX10_token_177 : decode cX10_token 177 = .ok (.aload_n 0, 1) := by decide +kernel
theorem dX10_token_178 : decode cX10_token 178 = .ok (.iload_n 2, 1) := by decide +kernel
theorem dX10_token_179 : decode cX10_token 179 = .ok (.iconst 4, 1) := by decide +kernel
theorem dX10_token_180 : decode cX10_token 180 = .ok (.if_icmp .ge 21, 3) := by decide +kernel
theorem dX10_token_183 : decode cX10_token 183 = .ok (.bipush 10, 2) := by decide +kernel
theorem dX10_token_185 : decode cX10_token 185 = .ok (.aload_n 0, 1) := by decide +kernel
theorem dX10_token_186 : decode cX10_token 186 = .ok (.getfield 224, 3) := by decide +kernel
theorem dX10_token_189 : decode cX10_token 189 = .ok (.imul, 1) := by decide +kernel
theorem dX10_token_190 : decode cX10_token 190 = .ok (.aload_n 0, 1) := by decide +kernel
theorem dX10_token_191 : decode cX10_token 191 = .ok (.invokevirtual 210, 3) := by decide +kernel
theorem dX10_token_194 : decode cX10_token 194 = .ok (.iadd, 1) := by decide +kernel
theorem dX10_token_195 : decode cX10_token 195 = .ok (.bipush 48, 2) := by decide +kernel
theorem dX10_token_197 : decode cX10_token 197 = .ok (.isub, 1) := by decide +kernel
theorem dX10_token_198 : decode cX10_token 198 = .ok (.goto 7, 3) := by decide +kernel
theorem dX10_token_201 : decode cX10_token 201 = .ok (.aload_n 0, 1) := by decide +kernel
theorem dX10_token_202 : decode cX10_token 202 = .ok (.getfield 224, 3) := by decide +kernel
theorem dX10_token_205 : decode cX10_token 205 = .ok (.putfield 224, 3) := by decide +kernel
theorem dX10_token_208 : decode cX10_token 208 = .ok (.aload_n 0, 1) := by decide +kernel
theorem dX10_token_209 : decode cX10_token 209 = .ok (.dup, 1) := by decide +kernel
theorem dX10_token_210 : decode cX10_token 210 = .ok (.getfield 204, 3) := by decide +kernel
theorem dX10_token_213 : decode cX10_token 213 = .ok (.iconst 1, 1) := by decide +kernel
theorem dX10_token_214 : decode cX10_token 214 = .ok (.iadd, 1) := by decide +kernel
theorem dX10_token_215 : decode cX10_token 215 = .ok (.putfield 204, 3) := by decide +kernel
theorem dX10_token_218 : decode cX10_token 218 = .ok (.iinc 2 1, 3) := by decide +kernel
theorem dX10_token_221 : decode cX10_token 221 = .ok (.goto (-58), 3) := by decide +kernel
theorem dX10_token_224 : decode cX10_token 224 = .ok (.aload_n 0, 1) := by decide +kernel
theorem dX10_token_225 : decode cX10_token 225 = .ok (.iload_n 2, 1) := by decide +kernel
theorem dX10_token_226 : decode cX10_token 226 = .ok (.iconst 4, 1) := by decide +kernel
theorem dX10_token_227 : decode cX10_token 227 = .ok (.if_icmp .le 7, 3) := by decide +kernel
theorem dX10_token_230 : decode cX10_token 230 = .ok (.iconst 1, 1) := by decide +kernel
theorem dX10_token_231 : decode cX10_token 231 = .ok (.goto 4, 3) := by decide +kernel
theorem dX10_token_234 : decode cX10_token 234 = .ok (.iconst 3, 1) := by decide +kernel
theorem dX10_token_235 : decode cX10_token 235 = .ok (.putfield 221, 3) := by decide +kernel
theorem dX10_token_238 : decode cX10_token 238 = .ok (.goto 28, 3) := by decide +kernel
theorem dX10_token_241 : decode cX10_token 241 = .ok (.aload_n 0, 1) := by decide +kernel
theorem dX10_token_242 : decode cX10_token 242 = .ok (.dup, 1) := by decide +kernel
theorem dX10_token_243 : decode cX10_token 243 = .ok (.getfield 204, 3) := by decide +kernel
theorem dX10_token_246 : decode cX10_token 246 = .ok (.iconst 1, 1) := by decide +kernel
theorem dX10_token_247 : decode cX10_token 247 = .ok (.iadd, 1) := by decide +kernel
theorem dX10_token_248 : decode cX10_token 248 = .ok (.putfield 204, 3) := by decide +kernel
theorem dX10_token_251 : decode cX10_token 251 = .ok (.aload_n 0, 1) := by decide +kernel
theorem dX10_token_252 : decode cX10_token 252 = .ok (.iload_n 1, 1) := by decide +kernel
theorem dX10_token_253 : decode cX10_token 253 = .ok (.bipush 59, 2) := by decide +kernel
theorem dX10_token_255 : decode cX10_token 255 = .ok (.if_icmp .ne 7, 3) := by decide +kernel
theorem dX10_token_258 : decode cX10_token 258 = .ok (.iconst 4, 1) := by decide +kernel
theorem dX10_token_259 : decode cX10_token 259 = .ok (.goto 4, 3) := by decide +kernel
theorem dX10_token_262 : decode cX10_token 262 = .ok (.iconst 1, 1) := by decide +kernel
theorem dX10_token_263 : decode cX10_token 263 = .ok (.putfield 221, 3) := by decide +kernel
theorem dX10_token_266 : decode cX10_token 266 = .ok (.return_, 1) := by decide +kernel
def rmX10_token : Room := { frames := 1, cells := 0, slots := 0, locals := 22 }
set_option maxRecDepth 100000 in
def g_X10_token_18 (th : Nat) (k0 : MM → Option (Unit × MM)) (k31 : MM → Option (Unit × MM)) (m : MM) : Option (Unit × MM) :=
  chk (m.K th = 11) (bnd (m.sI 1138 th 0 ((m.I 1138 th 0) + 1)) (fun m1 => k0 m1))
set_option maxHeartbeats 4000000 in
set_option maxRecDepth 100000 in
theorem s_X10_token_18 {Γ : GX} {E : EX} (C : Cx Γ E cX10_token RX10 3) (hr : Γ.meth.sig.returnType = none) (hrm : Γ.rm = rmX10_token) (th : Nat) (k0 : MM → Option (Unit × MM)) (k31 : MM → Option (Unit × MM)) (h0 : ∀ (m : MM), Sm (QM Γ E emV 0 0) Γ E 3 0 0 0 [(0, va_rf (some th))] [] m (k0 m)) (h31 : ∀ (m : MM), Sm (QM Γ E emV 0 0) Γ E 3 0 0 31 [(0, va_rf (some th))] [] m (k31 m)) (m : MM) : Sm (QM Γ E emV 0 0) Γ E 3 0 0 18 [(0, va_rf (some th))] [] m (g_X10_token_18 th k0 k31 m) := by
  unfold g_X10_token_18
  refine z_aload_n C dX10_token_18 rfl 0 rfl ?_
  refine z_dup C rfl dX10_token_19 ?_
  refine z_chk (fun hk1 => ?_)
  refine z_getI C fl_RX10_204 rfl hk1 dX10_token_20 ?_
  refine z_iconst (v := 1) C dX10_token_23 (by decide) ?_
  refine z_iadd C dX10_token_24 ?_
  refine z_putI C fl_RX10_204 (fun h => by cases h) rfl hk1 rfl rfl dX10_token_25 (fun m1 eK1 eN1 => ?_)
  refine z_goto (tgt := 0) C dX10_token_28 (by decide) ?_
  exact z_sub [0] rfl (h0 m1)
set_option maxRecDepth 100000 in
def g_X10_token_0 (th : Nat) (k0 : MM → Option (Unit × MM)) (k31 : MM → Option (Unit × MM)) (m : MM) : Option (Unit × MM) :=
  chk (m.K th = 11) (cal (f_X10_see th m) (fun r1 m2 => if r1 = 10 then (g_X10_token_18 th k0 k31 m2) else (chk (m2.K th = 11) (cal (f_X10_see th m2) (fun r2 m3 => if r2 = 32 then (g_X10_token_18 th k0 k31 m3) else (k31 m3))))))
set_option maxHeartbeats 4000000 in
set_option maxRecDepth 100000 in
theorem s_X10_token_0 {Γ : GX} {E : EX} (C : Cx Γ E cX10_token RX10 3) (hr : Γ.meth.sig.returnType = none) (hrm : Γ.rm = rmX10_token) (th : Nat) (k0 : MM → Option (Unit × MM)) (k31 : MM → Option (Unit × MM)) (h0 : ∀ (m : MM), Sm (QM Γ E emV 0 0) Γ E 3 0 0 0 [(0, va_rf (some th))] [] m (k0 m)) (h31 : ∀ (m : MM), Sm (QM Γ E emV 0 0) Γ E 3 0 0 31 [(0, va_rf (some th))] [] m (k31 m)) (m : MM) : Sm (QM Γ E emV 0 0) Γ E 3 0 0 0 [(0, va_rf (some th))] [] m (g_X10_token_0 th k0 k31 m) := by
  unfold g_X10_token_0
  refine z_aload_n C dX10_token_0 rfl 0 rfl ?_
  refine z_chk (fun hk2 => ?_)
  refine z_cVI [] [] C mv_RX10_210 (fun r0 m0 h0 => M_X10_see _ _ _ _ _ _ h0) rfl rfl ⟨by rw [hrm]; exact Nat.le_of_ble_eq_true rfl, by rw [hrm]; exact Nat.le_of_ble_eq_true rfl⟩ ⟨by rw [hrm]; exact Nat.le_of_ble_eq_true rfl, by rw [hrm]; exact Nat.le_of_ble_eq_true rfl⟩ rfl hk2 rfl rfl rfl (Nat.le_of_ble_eq_true rfl) dX10_token_1 (fun r1 m2 => ?_)
  refine z_bipush (v := 10) C dX10_token_4 (by decide) ?_
  refine z_icmp_eq (tgt := 18) C dX10_token_6 (by decide) (fun c1 => ?_) (fun c1 => ?_)
  · exact z_sub [0] rfl (s_X10_token_18 C hr hrm th k0 k31 h0 h31 m2)
  · refine z_aload_n C dX10_token_9 rfl 0 rfl ?_
    refine z_chk (fun hk3 => ?_)
    refine z_cVI [] [] C mv_RX10_210 (fun r0 m0 h0 => M_X10_see _ _ _ _ _ _ h0) rfl rfl ⟨by rw [hrm]; exact Nat.le_of_ble_eq_true rfl, by rw [hrm]; exact Nat.le_of_ble_eq_true rfl⟩ ⟨by rw [hrm]; exact Nat.le_of_ble_eq_true rfl, by rw [hrm]; exact Nat.le_of_ble_eq_true rfl⟩ rfl hk3 rfl rfl rfl (Nat.le_of_ble_eq_true rfl) dX10_token_10 (fun r2 m3 => ?_)
    refine z_bipush (v := 32) C dX10_token_13 (by decide) ?_
    refine z_icmp_ne (tgt := 31) C dX10_token_15 (by decide) (fun c2 => ?_) (fun c2 => ?_)
    · exact z_sub [0] rfl (h31 m3)
    · exact z_sub [0] rfl (s_X10_token_18 C hr hrm th k0 k31 h0 h31 m3)
def l_X10_token_0 (th : Nat) (k31 : MM → Option (Unit × MM)) : Nat → MM → Option (Unit × MM) := lp (fun _ => none) (fun k0 => g_X10_token_0 th k0 k31)
theorem t_X10_token_0 {Γ : GX} {E : EX} (C : Cx Γ E cX10_token RX10 3) (hr : Γ.meth.sig.returnType = none) (hrm : Γ.rm = rmX10_token) (th : Nat) (k31 : MM → Option (Unit × MM)) (h31 : ∀ (m : MM), Sm (QM Γ E emV 0 0) Γ E 3 0 0 31 [(0, va_rf (some th))] [] m (k31 m)) : ∀ (n : Nat) (m : MM), Sm (QM Γ E emV 0 0) Γ E 3 0 0 0 [(0, va_rf (some th))] [] m (l_X10_token_0 th k31 n m) := by
  intro n
  induction n with
  | zero => intros; exact z_none
  | succ n ih => intro m; exact s_X10_token_0 C hr hrm th (l_X10_token_0 th k31 n) k31 ih h31 m
set_option maxRecDepth 100000 in
def g_X10_token_74 (th : Nat) (k74 : Int32 → MM → Option (Unit × MM)) (k121 : Int32 → MM → Option (Unit × MM)) (x2 : Int32) (m : MM) : Option (Unit × MM) :=
  chk (m.K th = 11) (cal (f_X10_see th m) (fun r3 m4 => cal (f_X10_in r3 97 122 m4) (fun r4 m5 => if r4 = 0 then (k121 x2 m5) else (chk (m5.K th = 11) (cal (f_X10_see th m5) (fun r5 m6 => chk (m6.K th = 11) (bnd (m6.sJ 1143 th 0 (((m5.J 1143 th 0) <<< (Int32.toInt64 8 &&& 63)) ||| (Int32.toInt64 r5))) (fun m7 => bnd (m7.sI 1138 th 0 ((m7.I 1138 th 0) + 1)) (fun m8 => k74 (x2 + 1) m8)))))))))
set_option maxHeartbeats 4000000 in
set_option maxRecDepth 100000 in
theorem s_X10_token_74 {Γ : GX} {E : EX} (C : Cx Γ E cX10_token RX10 3) (hr : Γ.meth.sig.returnType = none) (hrm : Γ.rm = rmX10_token) (th : Nat) (k74 : Int32 → MM → Option (Unit × MM)) (k121 : Int32 → MM → Option (Unit × MM)) (h74 : ∀ (x2 : Int32) (m : MM), Sm (QM Γ E emV 0 0) Γ E 3 0 0 74 [(0, va_rf (some th)), (2, .int x2)] [] m (k74 x2 m)) (h121 : ∀ (x2 : Int32) (m : MM), Sm (QM Γ E emV 0 0) Γ E 3 0 0 121 [(0, va_rf (some th)), (2, .int x2)] [] m (k121 x2 m)) (x2 : Int32) (m : MM) : Sm (QM Γ E emV 0 0) Γ E 3 0 0 74 [(0, va_rf (some th)), (2, .int x2)] [] m (g_X10_token_74 th k74 k121 x2 m) := by
  unfold g_X10_token_74
  refine z_aload_n C dX10_token_74 rfl 0 rfl ?_
  refine z_chk (fun hk4 => ?_)
  refine z_cVI [] [] C mv_RX10_210 (fun r0 m0 h0 => M_X10_see _ _ _ _ _ _ h0) rfl rfl ⟨by rw [hrm]; exact Nat.le_of_ble_eq_true rfl, by rw [hrm]; exact Nat.le_of_ble_eq_true rfl⟩ ⟨by rw [hrm]; exact Nat.le_of_ble_eq_true rfl, by rw [hrm]; exact Nat.le_of_ble_eq_true rfl⟩ rfl hk4 rfl rfl rfl (Nat.le_of_ble_eq_true rfl) dX10_token_75 (fun r3 m4 => ?_)
  refine z_bipush (v := 97) C dX10_token_78 (by decide) ?_
  refine z_bipush (v := 122) C dX10_token_80 (by decide) ?_
  refine z_cSI [.int r3, .int 97, .int 122] [] C mv_RX10_188 (fun r0 m0 h0 => M_X10_in _ _ _ _ _ _ _ _ h0) rfl rfl ⟨by rw [hrm]; exact Nat.le_of_ble_eq_true rfl, by rw [hrm]; exact Nat.le_of_ble_eq_true rfl⟩ ⟨by rw [hrm]; exact Nat.le_of_ble_eq_true rfl, by rw [hrm]; exact Nat.le_of_ble_eq_true rfl⟩ rfl rfl (Nat.le_of_ble_eq_true rfl) dX10_token_82 (fun r4 m5 => ?_)
  refine z_if_eq (tgt := 121) C dX10_token_85 (by decide) (fun c3 => ?_) (fun c3 => ?_)
  · exact z_sub [0, 1] rfl (h121 x2 m5)
  · refine z_aload_n C dX10_token_88 rfl 0 rfl ?_
    refine z_aload_n C dX10_token_89 rfl 0 rfl ?_
    refine z_chk (fun hk5 => ?_)
    refine z_getJ C fl_RX10_217 rfl hk5 dX10_token_90 ?_
    refine z_bipush (v := 8) C dX10_token_93 (by decide) ?_
    refine z_lshl C dX10_token_95 ?_
    refine z_aload_n C dX10_token_96 rfl 0 rfl ?_
    refine z_cVI [] [.long ((m5.J 1143 th 0) <<< (Int32.toInt64 8 &&& 63)), va_rf (some th)] C mv_RX10_210 (fun r0 m0 h0 => M_X10_see _ _ _ _ _ _ h0) rfl rfl ⟨by rw [hrm]; exact Nat.le_of_ble_eq_true rfl, by rw [hrm]; exact Nat.le_of_ble_eq_true rfl⟩ ⟨by rw [hrm]; exact Nat.le_of_ble_eq_true rfl, by rw [hrm]; exact Nat.le_of_ble_eq_true rfl⟩ rfl hk5 rfl rfl rfl (Nat.le_of_ble_eq_true rfl) dX10_token_97 (fun r5 m6 => ?_)
    refine z_i2l C dX10_token_100 ?_
    refine z_lor C dX10_token_101 ?_
    refine z_chk (fun hk6 => ?_)
    refine z_putJ C fl_RX10_217 (fun h => by cases h) rfl hk6 rfl rfl dX10_token_102 (fun m7 eK2 eN2 => ?_)
    refine z_aload_n C dX10_token_105 rfl 0 rfl ?_
    refine z_dup C rfl dX10_token_106 ?_
    refine z_getI C fl_RX10_204 rfl (kfw eK2 hk6) dX10_token_107 ?_
    refine z_iconst (v := 1) C dX10_token_110 (by decide) ?_
    refine z_iadd C dX10_token_111 ?_
    refine z_putI C fl_RX10_204 (fun h => by cases h) rfl (kfw eK2 hk6) rfl rfl dX10_token_112 (fun m8 eK3 eN3 => ?_)
    refine z_iinc (v := 1) (L2 := [(2, .int (x2 + 1)), (0, va_rf (some th))]) C dX10_token_115 1 rfl (by decide) (by decide) rfl ?_
    refine z_goto (tgt := 74) C dX10_token_118 (by decide) ?_
    exact z_sub [1, 0] rfl (h74 (x2 + 1) m8)
def l_X10_token_74 (th : Nat) (k121 : Int32 → MM → Option (Unit × MM)) : Nat → Int32 → MM → Option (Unit × MM) := lp (fun _ _ => none) (fun k74 => g_X10_token_74 th k74 k121)
theorem t_X10_token_74 {Γ : GX} {E : EX} (C : Cx Γ E cX10_token RX10 3) (hr : Γ.meth.sig.returnType = none) (hrm : Γ.rm = rmX10_token) (th : Nat) (k121 : Int32 → MM → Option (Unit × MM)) (h121 : ∀ (x2 : Int32) (m : MM), Sm (QM Γ E emV 0 0) Γ E 3 0 0 121 [(0, va_rf (some th)), (2, .int x2)] [] m (k121 x2 m)) : ∀ (n : Nat) (x2 : Int32) (m : MM), Sm (QM Γ E emV 0 0) Γ E 3 0 0 74 [(0, va_rf (some th)), (2, .int x2)] [] m (l_X10_token_74 th k121 n x2 m) := by
  intro n
  induction n with
  | zero => intros; exact z_none
  | succ n ih => intro x2 m; exact s_X10_token_74 C hr hrm th (l_X10_token_74 th k121 n) k121 ih h121 x2 m
set_option maxRecDepth 100000 in
def g_X10_token_136 (th : Nat) (s0 : Option Nat) (s1 : Int64) (m : MM) : Option (Unit × MM) :=
  ck m s0 11 (fun a1 => bnd (m.sJ 1143 a1 0 s1) (fun m9 => chk (m9.K th = 11) (bnd (m9.sI 1141 th 0 2) (fun m10 => some ((), m10)))))
set_option maxHeartbeats 4000000 in
set_option maxRecDepth 100000 in
theorem s_X10_token_136 {Γ : GX} {E : EX} (C : Cx Γ E cX10_token RX10 3) (hr : Γ.meth.sig.returnType = none) (hrm : Γ.rm = rmX10_token) (th : Nat) (s0 : Option Nat) (s1 : Int64) (m : MM) : Sm (QM Γ E emV 0 0) Γ E 3 0 0 136 [(0, va_rf (some th))] [.long s1, va_rf s0] m (g_X10_token_136 th s0 s1 m) := by
  unfold g_X10_token_136
  refine z_ck (fun a1 hr1 hk7 => ?_)
  refine z_putJ C fl_RX10_217 (fun h => by cases h) hr1 hk7 rfl rfl dX10_token_136 (fun m9 eK4 eN4 => ?_)
  refine z_aload_n C dX10_token_139 rfl 0 rfl ?_
  refine z_iconst (v := 2) C dX10_token_140 (by decide) ?_
  refine z_chk (fun hk8 => ?_)
  refine z_putI C fl_RX10_221 (fun h => by cases h) rfl hk8 rfl rfl dX10_token_141 (fun m10 eK5 eN5 => ?_)
  refine z_goto (tgt := 266) C dX10_token_144 (by decide) ?_
  exact z_vret C hr dX10_token_266
set_option maxRecDepth 100000 in
def g_X10_token_121 (th : Nat) (x2 : Int32) (m : MM) : Option (Unit × MM) :=
  if x2 ≤ 8 then (chk (m.K th = 11) (g_X10_token_136 th (some th) (m.J 1143 th 0) m)) else (g_X10_token_136 th (some th) 0 m)
set_option maxHeartbeats 4000000 in
set_option maxRecDepth 100000 in
theorem s_X10_token_121 {Γ : GX} {E : EX} (C : Cx Γ E cX10_token RX10 3) (hr : Γ.meth.sig.returnType = none) (hrm : Γ.rm = rmX10_token) (th : Nat) (x2 : Int32) (m : MM) : Sm (QM Γ E emV 0 0) Γ E 3 0 0 121 [(0, va_rf (some th)), (2, .int x2)] [] m (g_X10_token_121 th x2 m) := by
  unfold g_X10_token_121
  refine z_aload_n C dX10_token_121 rfl 0 rfl ?_
  refine z_iload_n C dX10_token_122 rfl 1 rfl ?_
  refine z_bipush (v := 8) C dX10_token_123 (by decide) ?_
  refine z_icmp_le (tgt := 132) C dX10_token_125 (by decide) (fun c4 => ?_) (fun c4 => ?_)
  · refine z_aload_n C dX10_token_132 rfl 0 rfl ?_
    refine z_chk (fun hk9 => ?_)
    refine z_getJ C fl_RX10_217 rfl hk9 dX10_token_133 ?_
    exact z_sub [0] rfl (s_X10_token_136 C hr hrm th (some th) (m.J 1143 th 0) m)
  · refine z_lconst (v := 0) C dX10_token_128 rfl ?_
    refine z_goto (tgt := 136) C dX10_token_129 (by decide) ?_
    exact z_sub [0] rfl (s_X10_token_136 C hr hrm th (some th) 0 m)
set_option maxRecDepth 100000 in
def g_X10_token_205 (th : Nat) (k163 : Int32 → MM → Option (Unit × MM)) (k224 : Int32 → MM → Option (Unit × MM)) (x2 : Int32) (s0 : Option Nat) (s1 : Int32) (m : MM) : Option (Unit × MM) :=
  ck m s0 11 (fun a2 => bnd (m.sI 1142 a2 0 s1) (fun m11 => chk (m11.K th = 11) (bnd (m11.sI 1138 th 0 ((m11.I 1138 th 0) + 1)) (fun m12 => k163 (x2 + 1) m12))))
set_option maxHeartbeats 4000000 in
set_option maxRecDepth 100000 in
theorem s_X10_token_205 {Γ : GX} {E : EX} (C : Cx Γ E cX10_token RX10 3) (hr : Γ.meth.sig.returnType = none) (hrm : Γ.rm = rmX10_token) (th : Nat) (k163 : Int32 → MM → Option (Unit × MM)) (k224 : Int32 → MM → Option (Unit × MM)) (h163 : ∀ (x2 : Int32) (m : MM), Sm (QM Γ E emV 0 0) Γ E 3 0 0 163 [(0, va_rf (some th)), (2, .int x2)] [] m (k163 x2 m)) (h224 : ∀ (x2 : Int32) (m : MM), Sm (QM Γ E emV 0 0) Γ E 3 0 0 224 [(0, va_rf (some th)), (2, .int x2)] [] m (k224 x2 m)) (x2 : Int32) (s0 : Option Nat) (s1 : Int32) (m : MM) : Sm (QM Γ E emV 0 0) Γ E 3 0 0 205 [(0, va_rf (some th)), (2, .int x2)] [.int s1, va_rf s0] m (g_X10_token_205 th k163 k224 x2 s0 s1 m) := by
  unfold g_X10_token_205
  refine z_ck (fun a2 hr2 hk10 => ?_)
  refine z_putI C fl_RX10_224 (fun h => by cases h) hr2 hk10 rfl rfl dX10_token_205 (fun m11 eK6 eN6 => ?_)
  refine z_aload_n C dX10_token_208 rfl 0 rfl ?_
  refine z_dup C rfl dX10_token_209 ?_
  refine z_chk (fun hk11 => ?_)
  refine z_getI C fl_RX10_204 rfl hk11 dX10_token_210 ?_
  refine z_iconst (v := 1) C dX10_token_213 (by decide) ?_
  refine z_iadd C dX10_token_214 ?_
  refine z_putI C fl_RX10_204 (fun h => by cases h) rfl hk11 rfl rfl dX10_token_215 (fun m12 eK7 eN7 => ?_)
  refine z_iinc (v := 1) (L2 := [(2, .int (x2 + 1)), (0, va_rf (some th))]) C dX10_token_218 1 rfl (by decide) (by decide) rfl ?_
  refine z_goto (tgt := 163) C dX10_token_221 (by decide) ?_
  exact z_sub [1, 0] rfl (h163 (x2 + 1) m12)
set_option maxRecDepth 100000 in
def g_X10_token_163 (th : Nat) (k163 : Int32 → MM → Option (Unit × MM)) (k224 : Int32 → MM → Option (Unit × MM)) (x2 : Int32) (m : MM) : Option (Unit × MM) :=
  chk (m.K th = 11) (cal (f_X10_see th m) (fun r6 m13 => cal (f_X10_in r6 48 57 m13) (fun r7 m14 => if r7 = 0 then (k224 x2 m14) else (if 4 ≤ x2 then (chk (m14.K th = 11) (g_X10_token_205 th k163 k224 x2 (some th) (m14.I 1142 th 0) m14)) else (chk (m14.K th = 11) (cal (f_X10_see th m14) (fun r8 m15 => g_X10_token_205 th k163 k224 x2 (some th) (((10 * (m14.I 1142 th 0)) + r8) - 48) m15)))))))
set_option maxHeartbeats 4000000 in
set_option maxRecDepth 100000 in
theorem s_X10_token_163 {Γ : GX} {E : EX} (C : Cx Γ E cX10_token RX10 3) (hr : Γ.meth.sig.returnType = none) (hrm : Γ.rm = rmX10_token) (th : Nat) (k163 : Int32 → MM → Option (Unit × MM)) (k224 : Int32 → MM → Option (Unit × MM)) (h163 : ∀ (x2 : Int32) (m : MM), Sm (QM Γ E emV 0 0) Γ E 3 0 0 163 [(0, va_rf (some th)), (2, .int x2)] [] m (k163 x2 m)) (h224 : ∀ (x2 : Int32) (m : MM), Sm (QM Γ E emV 0 0) Γ E 3 0 0 224 [(0, va_rf (some th)), (2, .int x2)] [] m (k224 x2 m)) (x2 : Int32) (m : MM) : Sm (QM Γ E emV 0 0) Γ E 3 0 0 163 [(0, va_rf (some th)), (2, .int x2)] [] m (g_X10_token_163 th k163 k224 x2 m) := by
  unfold g_X10_token_163
  refine z_aload_n C dX10_token_163 rfl 0 rfl ?_
  refine z_chk (fun hk12 => ?_)
  refine z_cVI [] [] C mv_RX10_210 (fun r0 m0 h0 => M_X10_see _ _ _ _ _ _ h0) rfl rfl ⟨by rw [hrm]; exact Nat.le_of_ble_eq_true rfl, by rw [hrm]; exact Nat.le_of_ble_eq_true rfl⟩ ⟨by rw [hrm]; exact Nat.le_of_ble_eq_true rfl, by rw [hrm]; exact Nat.le_of_ble_eq_true rfl⟩ rfl hk12 rfl rfl rfl (Nat.le_of_ble_eq_true rfl) dX10_token_164 (fun r6 m13 => ?_)
  refine z_bipush (v := 48) C dX10_token_167 (by decide) ?_
  refine z_bipush (v := 57) C dX10_token_169 (by decide) ?_
  refine z_cSI [.int r6, .int 48, .int 57] [] C mv_RX10_188 (fun r0 m0 h0 => M_X10_in _ _ _ _ _ _ _ _ h0) rfl rfl ⟨by rw [hrm]; exact Nat.le_of_ble_eq_true rfl, by rw [hrm]; exact Nat.le_of_ble_eq_true rfl⟩ ⟨by rw [hrm]; exact Nat.le_of_ble_eq_true rfl, by rw [hrm]; exact Nat.le_of_ble_eq_true rfl⟩ rfl rfl (Nat.le_of_ble_eq_true rfl) dX10_token_171 (fun r7 m14 => ?_)
  refine z_if_eq (tgt := 224) C dX10_token_174 (by decide) (fun c5 => ?_) (fun c5 => ?_)
  · exact z_sub [0, 1] rfl (h224 x2 m14)
  · refine z_aload_n C dX10_token_177 rfl 0 rfl ?_
    refine z_iload_n C dX10_token_178 rfl 1 rfl ?_
    refine z_iconst (v := 4) C dX10_token_179 (by decide) ?_
    refine z_icmp_ge (tgt := 201) C dX10_token_180 (by decide) (fun c6 => ?_) (fun c6 => ?_)
    · refine z_aload_n C dX10_token_201 rfl 0 rfl ?_
      refine z_chk (fun hk13 => ?_)
      refine z_getI C fl_RX10_224 rfl hk13 dX10_token_202 ?_
      exact z_sub [0, 1] rfl (s_X10_token_205 C hr hrm th k163 k224 h163 h224 x2 (some th) (m14.I 1142 th 0) m14)
    · refine z_bipush (v := 10) C dX10_token_183 (by decide) ?_
      refine z_aload_n C dX10_token_185 rfl 0 rfl ?_
      refine z_chk (fun hk14 => ?_)
      refine z_getI C fl_RX10_224 rfl hk14 dX10_token_186 ?_
      refine z_imul C dX10_token_189 ?_
      refine z_aload_n C dX10_token_190 rfl 0 rfl ?_
      refine z_cVI [] [.int (10 * (m14.I 1142 th 0)), va_rf (some th)] C mv_RX10_210 (fun r0 m0 h0 => M_X10_see _ _ _ _ _ _ h0) rfl rfl ⟨by rw [hrm]; exact Nat.le_of_ble_eq_true rfl, by rw [hrm]; exact Nat.le_of_ble_eq_true rfl⟩ ⟨by rw [hrm]; exact Nat.le_of_ble_eq_true rfl, by rw [hrm]; exact Nat.le_of_ble_eq_true rfl⟩ rfl hk14 rfl rfl rfl (Nat.le_of_ble_eq_true rfl) dX10_token_191 (fun r8 m15 => ?_)
      refine z_iadd C dX10_token_194 ?_
      refine z_bipush (v := 48) C dX10_token_195 (by decide) ?_
      refine z_isub C dX10_token_197 ?_
      refine z_goto (tgt := 205) C dX10_token_198 (by decide) ?_
      exact z_sub [0, 1] rfl (s_X10_token_205 C hr hrm th k163 k224 h163 h224 x2 (some th) (((10 * (m14.I 1142 th 0)) + r8) - 48) m15)
def l_X10_token_163 (th : Nat) (k224 : Int32 → MM → Option (Unit × MM)) : Nat → Int32 → MM → Option (Unit × MM) := lp (fun _ _ => none) (fun k163 => g_X10_token_163 th k163 k224)
theorem t_X10_token_163 {Γ : GX} {E : EX} (C : Cx Γ E cX10_token RX10 3) (hr : Γ.meth.sig.returnType = none) (hrm : Γ.rm = rmX10_token) (th : Nat) (k224 : Int32 → MM → Option (Unit × MM)) (h224 : ∀ (x2 : Int32) (m : MM), Sm (QM Γ E emV 0 0) Γ E 3 0 0 224 [(0, va_rf (some th)), (2, .int x2)] [] m (k224 x2 m)) : ∀ (n : Nat) (x2 : Int32) (m : MM), Sm (QM Γ E emV 0 0) Γ E 3 0 0 163 [(0, va_rf (some th)), (2, .int x2)] [] m (l_X10_token_163 th k224 n x2 m) := by
  intro n
  induction n with
  | zero => intros; exact z_none
  | succ n ih => intro x2 m; exact s_X10_token_163 C hr hrm th (l_X10_token_163 th k224 n) k224 ih h224 x2 m
set_option maxRecDepth 100000 in
def g_X10_token_235 (th : Nat) (s0 : Option Nat) (s1 : Int32) (m : MM) : Option (Unit × MM) :=
  ck m s0 11 (fun a3 => bnd (m.sI 1141 a3 0 s1) (fun m16 => some ((), m16)))
set_option maxHeartbeats 4000000 in
set_option maxRecDepth 100000 in
theorem s_X10_token_235 {Γ : GX} {E : EX} (C : Cx Γ E cX10_token RX10 3) (hr : Γ.meth.sig.returnType = none) (hrm : Γ.rm = rmX10_token) (th : Nat) (s0 : Option Nat) (s1 : Int32) (m : MM) : Sm (QM Γ E emV 0 0) Γ E 3 0 0 235 [(0, va_rf (some th))] [.int s1, va_rf s0] m (g_X10_token_235 th s0 s1 m) := by
  unfold g_X10_token_235
  refine z_ck (fun a3 hr3 hk15 => ?_)
  refine z_putI C fl_RX10_221 (fun h => by cases h) hr3 hk15 rfl rfl dX10_token_235 (fun m16 eK8 eN8 => ?_)
  refine z_goto (tgt := 266) C dX10_token_238 (by decide) ?_
  exact z_vret C hr dX10_token_266
set_option maxRecDepth 100000 in
def g_X10_token_224 (th : Nat) (x2 : Int32) (m : MM) : Option (Unit × MM) :=
  if x2 ≤ 4 then (g_X10_token_235 th (some th) 3 m) else (g_X10_token_235 th (some th) 1 m)
set_option maxHeartbeats 4000000 in
set_option maxRecDepth 100000 in
theorem s_X10_token_224 {Γ : GX} {E : EX} (C : Cx Γ E cX10_token RX10 3) (hr : Γ.meth.sig.returnType = none) (hrm : Γ.rm = rmX10_token) (th : Nat) (x2 : Int32) (m : MM) : Sm (QM Γ E emV 0 0) Γ E 3 0 0 224 [(0, va_rf (some th)), (2, .int x2)] [] m (g_X10_token_224 th x2 m) := by
  unfold g_X10_token_224
  refine z_aload_n C dX10_token_224 rfl 0 rfl ?_
  refine z_iload_n C dX10_token_225 rfl 1 rfl ?_
  refine z_iconst (v := 4) C dX10_token_226 (by decide) ?_
  refine z_icmp_le (tgt := 234) C dX10_token_227 (by decide) (fun c7 => ?_) (fun c7 => ?_)
  · refine z_iconst (v := 3) C dX10_token_234 (by decide) ?_
    exact z_sub [0] rfl (s_X10_token_235 C hr hrm th (some th) 3 m)
  · refine z_iconst (v := 1) C dX10_token_230 (by decide) ?_
    refine z_goto (tgt := 235) C dX10_token_231 (by decide) ?_
    exact z_sub [0] rfl (s_X10_token_235 C hr hrm th (some th) 1 m)
set_option maxRecDepth 100000 in
def g_X10_token_263 (th : Nat) (s0 : Option Nat) (s1 : Int32) (m : MM) : Option (Unit × MM) :=
  ck m s0 11 (fun a4 => bnd (m.sI 1141 a4 0 s1) (fun m17 => some ((), m17)))
set_option maxHeartbeats 4000000 in
set_option maxRecDepth 100000 in
theorem s_X10_token_263 {Γ : GX} {E : EX} (C : Cx Γ E cX10_token RX10 3) (hr : Γ.meth.sig.returnType = none) (hrm : Γ.rm = rmX10_token) (th : Nat) (s0 : Option Nat) (s1 : Int32) (m : MM) : Sm (QM Γ E emV 0 0) Γ E 3 0 0 263 [(0, va_rf (some th))] [.int s1, va_rf s0] m (g_X10_token_263 th s0 s1 m) := by
  unfold g_X10_token_263
  refine z_ck (fun a4 hr4 hk16 => ?_)
  refine z_putI C fl_RX10_221 (fun h => by cases h) hr4 hk16 rfl rfl dX10_token_263 (fun m17 eK9 eN9 => ?_)
  exact z_vret C hr dX10_token_266
set_option maxRecDepth 100000 in
def g_X10_token_31 (th : Nat) (m : MM) : Option (Unit × MM) :=
  chk (m.K th = 11) (bnd (m.sI 1140 th 0 (m.I 1138 th 0)) (fun m18 => cal (f_X10_see th m18) (fun r9 m19 => chk (m19.K th = 11) (bnd (m19.sJ 1143 th 0 0) (fun m20 => if 0 ≤ r9 then (cal (f_X10_in r9 97 122 m20) (fun r10 m21 => if r10 = 0 then (cal (f_X10_in r9 48 57 m21) (fun r11 m22 => if r11 = 0 then (chk (m22.K th = 11) (bnd (m22.sI 1138 th 0 ((m22.I 1138 th 0) + 1)) (fun m23 => if r9 = 59 then (g_X10_token_263 th (some th) 4 m23) else (g_X10_token_263 th (some th) 1 m23)))) else (chk (m22.K th = 11) (bnd (m22.sI 1142 th 0 0) (fun m24 => l_X10_token_163 th (g_X10_token_224 th) FU 0 m24))))) else (l_X10_token_74 th (g_X10_token_121 th) FU 0 m21))) else (bnd (m20.sI 1141 th 0 0) (fun m25 => some ((), m25))))))))
set_option maxHeartbeats 4000000 in
set_option maxRecDepth 100000 in
theorem s_X10_token_31 {Γ : GX} {E : EX} (C : Cx Γ E cX10_token RX10 3) (hr : Γ.meth.sig.returnType = none) (hrm : Γ.rm = rmX10_token) (th : Nat) (m : MM) : Sm (QM Γ E emV 0 0) Γ E 3 0 0 31 [(0, va_rf (some th))] [] m (g_X10_token_31 th m) := by
  unfold g_X10_token_31
  refine z_aload_n C dX10_token_31 rfl 0 rfl ?_
  refine z_aload_n C dX10_token_32 rfl 0 rfl ?_
  refine z_chk (fun hk17 => ?_)
  refine z_getI C fl_RX10_204 rfl hk17 dX10_token_33 ?_
  refine z_putI C fl_RX10_214 (fun h => by cases h) rfl hk17 rfl rfl dX10_token_36 (fun m18 eK10 eN10 => ?_)
  refine z_aload_n C dX10_token_39 rfl 0 rfl ?_
  refine z_cVI [] [] C mv_RX10_210 (fun r0 m0 h0 => M_X10_see _ _ _ _ _ _ h0) rfl rfl ⟨by rw [hrm]; exact Nat.le_of_ble_eq_true rfl, by rw [hrm]; exact Nat.le_of_ble_eq_true rfl⟩ ⟨by rw [hrm]; exact Nat.le_of_ble_eq_true rfl, by rw [hrm]; exact Nat.le_of_ble_eq_true rfl⟩ rfl (kfw eK10 hk17) rfl rfl rfl (Nat.le_of_ble_eq_true rfl) dX10_token_40 (fun r9 m19 => ?_)
  refine z_istore_n (i := 1) (L2 := [(1, .int r9), (0, va_rf (some th))]) C dX10_token_43 rfl (by decide) rfl ?_
  refine z_aload_n C dX10_token_44 rfl 1 rfl ?_
  refine z_lconst (v := 0) C dX10_token_45 rfl ?_
  refine z_chk (fun hk18 => ?_)
  refine z_putJ C fl_RX10_217 (fun h => by cases h) rfl hk18 rfl rfl dX10_token_46 (fun m20 eK11 eN11 => ?_)
  refine z_iconst (v := 0) C dX10_token_49 (by decide) ?_
  refine z_istore_n (i := 2) (L2 := [(2, .int 0), (1, .int r9), (0, va_rf (some th))]) C dX10_token_50 rfl (by decide) rfl ?_
  refine z_iload_n C dX10_token_51 rfl 1 rfl ?_
  refine z_if_ge (tgt := 63) C dX10_token_52 (by decide) (fun c8 => ?_) (fun c8 => ?_)
  · refine z_iload_n C dX10_token_63 rfl 1 rfl ?_
    refine z_bipush (v := 97) C dX10_token_64 (by decide) ?_
    refine z_bipush (v := 122) C dX10_token_66 (by decide) ?_
    refine z_cSI [.int r9, .int 97, .int 122] [] C mv_RX10_188 (fun r0 m0 h0 => M_X10_in _ _ _ _ _ _ _ _ h0) rfl rfl ⟨by rw [hrm]; exact Nat.le_of_ble_eq_true rfl, by rw [hrm]; exact Nat.le_of_ble_eq_true rfl⟩ ⟨by rw [hrm]; exact Nat.le_of_ble_eq_true rfl, by rw [hrm]; exact Nat.le_of_ble_eq_true rfl⟩ rfl rfl (Nat.le_of_ble_eq_true rfl) dX10_token_68 (fun r10 m21 => ?_)
    refine z_if_eq (tgt := 147) C dX10_token_71 (by decide) (fun c9 => ?_) (fun c9 => ?_)
    · refine z_iload_n C dX10_token_147 rfl 1 rfl ?_
      refine z_bipush (v := 48) C dX10_token_148 (by decide) ?_
      refine z_bipush (v := 57) C dX10_token_150 (by decide) ?_
      refine z_cSI [.int r9, .int 48, .int 57] [] C mv_RX10_188 (fun r0 m0 h0 => M_X10_in _ _ _ _ _ _ _ _ h0) rfl rfl ⟨by rw [hrm]; exact Nat.le_of_ble_eq_true rfl, by rw [hrm]; exact Nat.le_of_ble_eq_true rfl⟩ ⟨by rw [hrm]; exact Nat.le_of_ble_eq_true rfl, by rw [hrm]; exact Nat.le_of_ble_eq_true rfl⟩ rfl rfl (Nat.le_of_ble_eq_true rfl) dX10_token_152 (fun r11 m22 => ?_)
      refine z_if_eq (tgt := 241) C dX10_token_155 (by decide) (fun c10 => ?_) (fun c10 => ?_)
      · refine z_aload_n C dX10_token_241 rfl 2 rfl ?_
        refine z_dup C rfl dX10_token_242 ?_
        refine z_chk (fun hk19 => ?_)
        refine z_getI C fl_RX10_204 rfl hk19 dX10_token_243 ?_
        refine z_iconst (v := 1) C dX10_token_246 (by decide) ?_
        refine z_iadd C dX10_token_247 ?_
        refine z_putI C fl_RX10_204 (fun h => by cases h) rfl hk19 rfl rfl dX10_token_248 (fun m23 eK12 eN12 => ?_)
        refine z_aload_n C dX10_token_251 rfl 2 rfl ?_
        refine z_iload_n C dX10_token_252 rfl 1 rfl ?_
        refine z_bipush (v := 59) C dX10_token_253 (by decide) ?_
        refine z_icmp_ne (tgt := 262) C dX10_token_255 (by decide) (fun c11 => ?_) (fun c11 => ?_)
        · refine z_iconst (v := 1) C dX10_token_262 (by decide) ?_
          exact z_sub [2] rfl (s_X10_token_263 C hr hrm th (some th) 1 m23)
        · refine z_iconst (v := 4) C dX10_token_258 (by decide) ?_
          refine z_goto (tgt := 263) C dX10_token_259 (by decide) ?_
          exact z_sub [2] rfl (s_X10_token_263 C hr hrm th (some th) 4 m23)
      · refine z_aload_n C dX10_token_158 rfl 2 rfl ?_
        refine z_iconst (v := 0) C dX10_token_159 (by decide) ?_
        refine z_chk (fun hk20 => ?_)
        refine z_putI C fl_RX10_224 (fun h => by cases h) rfl hk20 rfl rfl dX10_token_160 (fun m24 eK13 eN13 => ?_)
        exact z_sub [2, 0] rfl (t_X10_token_163 C hr hrm th (g_X10_token_224 th) (s_X10_token_224 C hr hrm th) FU 0 m24)
    · exact z_sub [2, 0] rfl (t_X10_token_74 C hr hrm th (g_X10_token_121 th) (s_X10_token_121 C hr hrm th) FU 0 m21)
  · refine z_aload_n C dX10_token_55 rfl 2 rfl ?_
    refine z_iconst (v := 0) C dX10_token_56 (by decide) ?_
    refine z_putI C fl_RX10_221 (fun h => by cases h) rfl (kfw eK11 hk18) rfl rfl dX10_token_57 (fun m25 eK14 eN14 => ?_)
    refine z_goto (tgt := 266) C dX10_token_60 (by decide) ?_
    exact z_vret C hr dX10_token_266
def f_X10_token (th : Nat) (m : MM) : Option (Unit × MM) := l_X10_token_0 th (g_X10_token_31 th) FU m
theorem M_X10_token (l : Launch) (E : EX) (th : Nat) (m : MM) (r : Unit) (m2 : MM) (h : f_X10_token th m = some (r, m2)) : Met l yX10_token (.code yX10_token cX10_token 3 none :: TB) rmX10_token (va_Pc [.ref th] (St E m)) (QR E (emV r) m2) 0 0 (AA E) :=
  met_of (em := emV) (plainFor_of_name rfl) (Nat.le_of_ble_eq_true rfl) (L0 := [(0, va_rf (some th))]) rfl (fun Γ _ hrm C hr hn => t_X10_token_0 C hr hrm th (g_X10_token_31 th) (s_X10_token_31 C hr hrm th) FU m) h

theorem dX10_isWord_0 : decode cX10_isWord 0 = .ok (.aload_n 0, 1) := by decide +kernel
theorem dX10_isWord_1 : decode cX10_isWord 1 = .ok (.getfield 221, 3) := by decide +kernel
theorem dX10_isWord_4 : decode cX10_isWord 4 = .ok (.iconst 2, 1) := by decide +kernel
theorem dX10_isWord_5 : decode cX10_isWord 5 = .ok (.if_icmp .ne 16, 3) := by decide +kernel
theorem dX10_isWord_8 : decode cX10_isWord 8 = .ok (.aload_n 0, 1) := by decide +kernel
theorem dX10_isWord_9 : decode cX10_isWord 9 = .ok (.getfield 217, 3) := by decide +kernel
theorem dX10_isWord_12 : decode cX10_isWord 12 = .ok (.lload_n 1, 1) := by decide +kernel
theorem dX10_isWord_13 : decode cX10_isWord 13 = .ok (.lcmp, 1) := by decide +kernel
theorem dX10_isWord_14 : decode cX10_isWord 14 = .ok (.ifCond .ne 7, 3) := by decide +kernel
theorem dX10_isWord_17 : decode cX10_isWord 17 = .ok (.iconst 1, 1) := by decide +kernel
theorem dX10_isWord_18 : decode cX10_isWord 18 = .ok (.goto 4, 3) := by decide +kernel
theorem dX10_isWord_21 : decode cX10_isWord 21 = .ok (.iconst 0, 1) := by decide +kernel
theorem dX10_isWord_22 : decode cX10_isWord 22 = .ok (.ireturn, 1) := by decide +kernel
def rmX10_isWord : Room := { frames := 0, cells := 0, slots := 0, locals := 0 }
set_option maxRecDepth 100000 in
def g_X10_isWord_21 (th : Nat) (p1 : Int64) (m : MM) : Option (Int32 × MM) :=
  some (0, m)
set_option maxHeartbeats 4000000 in
set_option maxRecDepth 100000 in
theorem s_X10_isWord_21 {Γ : GX} {E : EX} (C : Cx Γ E cX10_isWord RX10 3) (hr : Γ.meth.sig.returnType = (some .boolean)) (hrm : Γ.rm = rmX10_isWord) (th : Nat) (p1 : Int64) (m : MM) : Sm (QM Γ E emI 0 0) Γ E 3 0 0 21 [(0, va_rf (some th)), (1, .long p1)] [] m (g_X10_isWord_21 th p1 m) := by
  unfold g_X10_isWord_21
  refine z_iconst (v := 0) C dX10_isWord_21 (by decide) ?_
  exact z_zret C hr rfl dX10_isWord_22
set_option maxRecDepth 100000 in
def g_X10_isWord_0 (th : Nat) (p1 : Int64) (m : MM) : Option (Int32 × MM) :=
  chk (m.K th = 11) (if (m.I 1141 th 0) = 2 then (if (lg_cmp (m.J 1143 th 0) p1) = 0 then (some (1, m)) else (g_X10_isWord_21 th p1 m)) else (g_X10_isWord_21 th p1 m))
set_option maxHeartbeats 4000000 in
set_option maxRecDepth 100000 in
theorem s_X10_isWord_0 {Γ : GX} {E : EX} (C : Cx Γ E cX10_isWord RX10 3) (hr : Γ.meth.sig.returnType = (some .boolean)) (hrm : Γ.rm = rmX10_isWord) (th : Nat) (p1 : Int64) (m : MM) : Sm (QM Γ E emI 0 0) Γ E 3 0 0 0 [(0, va_rf (some th)), (1, .long p1)] [] m (g_X10_isWord_0 th p1 m) := by
  unfold g_X10_isWord_0
  refine z_aload_n C dX10_isWord_0 rfl 0 rfl ?_
  refine z_chk (fun hk1 => ?_)
  refine z_getI C fl_RX10_221 rfl hk1 dX10_isWord_1 ?_
  refine z_iconst (v := 2) C dX10_isWord_4 (by decide) ?_
  refine z_icmp_ne (tgt := 21) C dX10_isWord_5 (by decide) (fun c1 => ?_) (fun c1 => ?_)
  · exact z_sub [0, 1] rfl (s_X10_isWord_21 C hr hrm th p1 m)
  · refine z_aload_n C dX10_isWord_8 rfl 0 rfl ?_
    refine z_getJ C fl_RX10_217 rfl hk1 dX10_isWord_9 ?_
    refine z_lload_n C dX10_isWord_12 rfl 1 rfl ?_
    refine z_lcmp C dX10_isWord_13 ?_
    refine z_if_ne (tgt := 21) C dX10_isWord_14 (by decide) (fun c2 => ?_) (fun c2 => ?_)
    · exact z_sub [0, 1] rfl (s_X10_isWord_21 C hr hrm th p1 m)
    · refine z_iconst (v := 1) C dX10_isWord_17 (by decide) ?_
      refine z_goto (tgt := 22) C dX10_isWord_18 (by decide) ?_
      exact z_zret C hr rfl dX10_isWord_22
def f_X10_isWord (th : Nat) (p1 : Int64) (m : MM) : Option (Int32 × MM) := g_X10_isWord_0 th p1 m
theorem M_X10_isWord (l : Launch) (E : EX) (th : Nat) (p1 : Int64) (m : MM) (r : Int32) (m2 : MM) (h : f_X10_isWord th p1 m = some (r, m2)) : Met l yX10_isWord (.code yX10_isWord cX10_isWord 3 (some .boolean) :: TB) rmX10_isWord (va_Pc [.ref th, .long p1] (St E m)) (QR E (emI r) m2) 0 0 (AA E) :=
  met_of (em := emI) (plainFor_of_name rfl) (Nat.le_of_ble_eq_true rfl) (L0 := [(0, va_rf (some th)), (1, .long p1)]) rfl (fun Γ _ hrm C hr hn => s_X10_isWord_0 C hr hrm th p1 m) h

theorem dX10_stops_0 : decode cX10_stops 0 = .ok (.aload_n 0, 1) := by decide +kernel
theorem dX10_stops_1 : decode cX10_stops 1 = .ok (.aload_n 0, 1) := by decide +kernel
theorem dX10_stops_2 : decode cX10_stops 2 = .ok (.getfield 214, 3) := by decide +kernel
theorem dX10_stops_5 : decode cX10_stops 5 = .ok (.putfield 227, 3) := by decide +kernel
theorem dX10_stops_8 : decode cX10_stops 8 = .ok (.iconst 0, 1) := by decide +kernel
theorem dX10_stops_9 : decode cX10_stops 9 = .ok (.ireturn, 1) := by decide +kernel
def rmX10_stops : Room := { frames := 0, cells := 0, slots := 0, locals := 0 }
set_option maxRecDepth 100000 in
def g_X10_stops_0 (th : Nat) (m : MM) : Option (Int32 × MM) :=
  chk (m.K th = 11) (bnd (m.sI 1144 th 0 (m.I 1140 th 0)) (fun m1 => some (0, m1)))
set_option maxHeartbeats 4000000 in
set_option maxRecDepth 100000 in
theorem s_X10_stops_0 {Γ : GX} {E : EX} (C : Cx Γ E cX10_stops RX10 1) (hr : Γ.meth.sig.returnType = (some .boolean)) (hrm : Γ.rm = rmX10_stops) (th : Nat) (m : MM) : Sm (QM Γ E emI 0 0) Γ E 1 0 0 0 [(0, va_rf (some th))] [] m (g_X10_stops_0 th m) := by
  unfold g_X10_stops_0
  refine z_aload_n C dX10_stops_0 rfl 0 rfl ?_
  refine z_aload_n C dX10_stops_1 rfl 0 rfl ?_
  refine z_chk (fun hk1 => ?_)
  refine z_getI C fl_RX10_214 rfl hk1 dX10_stops_2 ?_
  refine z_putI C fl_RX10_227 (fun h => by cases h) rfl hk1 rfl rfl dX10_stops_5 (fun m1 eK1 eN1 => ?_)
  refine z_iconst (v := 0) C dX10_stops_8 (by decide) ?_
  exact z_zret C hr rfl dX10_stops_9
def f_X10_stops (th : Nat) (m : MM) : Option (Int32 × MM) := g_X10_stops_0 th m
theorem M_X10_stops (l : Launch) (E : EX) (th : Nat) (m : MM) (r : Int32) (m2 : MM) (h : f_X10_stops th m = some (r, m2)) : Met l yX10_stops (.code yX10_stops cX10_stops 1 (some .boolean) :: TB) rmX10_stops (va_Pc [.ref th] (St E m)) (QR E (emI r) m2) 0 0 (AA E) :=
  met_of (em := emI) (plainFor_of_name rfl) (Nat.le_of_ble_eq_true rfl) (L0 := [(0, va_rf (some th))]) rfl (fun Γ _ hrm C hr hn => s_X10_stops_0 C hr hrm th m) h

theorem dX10_later_0 : decode cX10_later 0 = .ok (.aload_n 0, 1) := by decide +kernel
theorem dX10_later_1 : decode cX10_later 1 = .ok (.getfield 230, 3) := by decide +kernel
theorem dX10_later_4 : decode cX10_later 4 = .ok (.ifCond .eq 27, 3) := by decide +kernel
theorem dX10_later_7 : decode cX10_later 7 = .ok (.iload_n 2, 1) := by decide +kernel
theorem dX10_later_8 : decode cX10_later 8 = .ok (.aload_n 0, 1) := by decide +kernel
theorem dX10_later_9 : decode cX10_later 9 = .ok (.getfield 233, 3) := by decide +kernel
theorem dX10_later_12 : decode cX10_later 12 = .ok (.if_icmp .lt 19, 3) := by decide +kernel
theorem dX10_later_15 : decode cX10_later 15 = .ok (.iload_n 2, 1) := by decide +kernel
theorem dX10_later_16 : decode cX10_later 16 = .ok (.aload_n 0, 1) := by decide +kernel
theorem dX10_later_17 : decode cX10_later 17 = .ok (.getfield 233, 3) := by decide +kernel
theorem dX10_later_20 : decode cX10_later 20 = .ok (.if_icmp .ne 21, 3) := by decide +kernel
theorem dX10_later_23 : decode cX10_later 23 = .ok (.iload_n 1, 1) := by decide +kernel
theorem dX10_later_24 : decode cX10_later 24 = .ok (.aload_n 0, 1) := by decide +kernel
theorem dX10_later_25 : decode cX10_later 25 = .ok (.getfield 230, 3) := by decide +kernel
theorem dX10_later_28 : decode cX10_later 28 = .ok (.if_icmp .ge 13, 3) := by decide +kernel
theorem dX10_later_31 : decode cX10_later 31 = .ok (.aload_n 0, 1) := by decide +kernel
theorem dX10_later_32 : decode cX10_later 32 = .ok (.iload_n 1, 1) := by decide +kernel
theorem dX10_later_33 : decode cX10_later 33 = .ok (.putfield 230, 3) := by decide +kernel
theorem dX10_later_36 : decode cX10_later 36 = .ok (.aload_n 0, 1) := by decide +kernel
theorem dX10_later_37 : decode cX10_later 37 = .ok (.iload_n 2, 1) := by decide +kernel
theorem dX10_later_38 : decode cX10_later 38 = .ok (.putfield 233, 3) := by decide +kernel
theorem dX10_later_41 : decode cX10_later 41 = .ok (.return_, 1) := by decide +kernel
def rmX10_later : Room := { frames := 0, cells := 0, slots := 0, locals := 0 }
set_option maxRecDepth 100000 in
def g_X10_later_31 (th : Nat) (p1 : Int32) (p2 : Int32) (m : MM) : Option (Unit × MM) :=
  chk (m.K th = 11) (bnd (m.sI 1145 th 0 p1) (fun m1 => bnd (m1.sI 1146 th 0 p2) (fun m2 => some ((), m2))))
set_option maxHeartbeats 4000000 in
set_option maxRecDepth 100000 in
theorem s_X10_later_31 {Γ : GX} {E : EX} (C : Cx Γ E cX10_later RX10 3) (hr : Γ.meth.sig.returnType = none) (hrm : Γ.rm = rmX10_later) (th : Nat) (p1 : Int32) (p2 : Int32) (m : MM) : Sm (QM Γ E emV 0 0) Γ E 3 0 0 31 [(0, va_rf (some th)), (1, .int p1), (2, .int p2)] [] m (g_X10_later_31 th p1 p2 m) := by
  unfold g_X10_later_31
  refine z_aload_n C dX10_later_31 rfl 0 rfl ?_
  refine z_iload_n C dX10_later_32 rfl 1 rfl ?_
  refine z_chk (fun hk1 => ?_)
  refine z_putI C fl_RX10_230 (fun h => by cases h) rfl hk1 rfl rfl dX10_later_33 (fun m1 eK1 eN1 => ?_)
  refine z_aload_n C dX10_later_36 rfl 0 rfl ?_
  refine z_iload_n C dX10_later_37 rfl 2 rfl ?_
  refine z_putI C fl_RX10_233 (fun h => by cases h) rfl (kfw eK1 hk1) rfl rfl dX10_later_38 (fun m2 eK2 eN2 => ?_)
  exact z_vret C hr dX10_later_41
set_option maxRecDepth 100000 in
def g_X10_later_0 (th : Nat) (p1 : Int32) (p2 : Int32) (m : MM) : Option (Unit × MM) :=
  chk (m.K th = 11) (if (m.I 1145 th 0) = 0 then (g_X10_later_31 th p1 p2 m) else (if p2 < (m.I 1146 th 0) then (g_X10_later_31 th p1 p2 m) else (if p2 = (m.I 1146 th 0) then (if (m.I 1145 th 0) ≤ p1 then (some ((), m)) else (g_X10_later_31 th p1 p2 m)) else (some ((), m)))))
set_option maxHeartbeats 4000000 in
set_option maxRecDepth 100000 in
theorem s_X10_later_0 {Γ : GX} {E : EX} (C : Cx Γ E cX10_later RX10 3) (hr : Γ.meth.sig.returnType = none) (hrm : Γ.rm = rmX10_later) (th : Nat) (p1 : Int32) (p2 : Int32) (m : MM) : Sm (QM Γ E emV 0 0) Γ E 3 0 0 0 [(0, va_rf (some th)), (1, .int p1), (2, .int p2)] [] m (g_X10_later_0 th p1 p2 m) := by
  unfold g_X10_later_0
  refine z_aload_n C dX10_later_0 rfl 0 rfl ?_
  refine z_chk (fun hk2 => ?_)
  refine z_getI C fl_RX10_230 rfl hk2 dX10_later_1 ?_
  refine z_if_eq (tgt := 31) C dX10_later_4 (by decide) (fun c1 => ?_) (fun c1 => ?_)
  · exact z_sub [0, 1, 2] rfl (s_X10_later_31 C hr hrm th p1 p2 m)
  · refine z_iload_n C dX10_later_7 rfl 2 rfl ?_
    refine z_aload_n C dX10_later_8 rfl 0 rfl ?_
    refine z_getI C fl_RX10_233 rfl hk2 dX10_later_9 ?_
    refine z_icmp_lt (tgt := 31) C dX10_later_12 (by decide) (fun c2 => ?_) (fun c2 => ?_)
    · exact z_sub [0, 1, 2] rfl (s_X10_later_31 C hr hrm th p1 p2 m)
    · refine z_iload_n C dX10_later_15 rfl 2 rfl ?_
      refine z_aload_n C dX10_later_16 rfl 0 rfl ?_
      refine z_getI C fl_RX10_233 rfl hk2 dX10_later_17 ?_
      refine z_icmp_ne (tgt := 41) C dX10_later_20 (by decide) (fun c3 => ?_) (fun c3 => ?_)
      · exact z_vret C hr dX10_later_41
      · refine z_iload_n C dX10_later_23 rfl 1 rfl ?_
        refine z_aload_n C dX10_later_24 rfl 0 rfl ?_
        refine z_getI C fl_RX10_230 rfl hk2 dX10_later_25 ?_
        refine z_icmp_ge (tgt := 41) C dX10_later_28 (by decide) (fun c4 => ?_) (fun c4 => ?_)
        · exact z_vret C hr dX10_later_41
        · exact z_sub [0, 1, 2] rfl (s_X10_later_31 C hr hrm th p1 p2 m)
def f_X10_later (th : Nat) (p1 : Int32) (p2 : Int32) (m : MM) : Option (Unit × MM) := g_X10_later_0 th p1 p2 m
theorem M_X10_later (l : Launch) (E : EX) (th : Nat) (p1 : Int32) (p2 : Int32) (m : MM) (r : Unit) (m2 : MM) (h : f_X10_later th p1 p2 m = some (r, m2)) : Met l yX10_later (.code yX10_later cX10_later 3 none :: TB) rmX10_later (va_Pc [.ref th, .int p1, .int p2] (St E m)) (QR E (emV r) m2) 0 0 (AA E) :=
  met_of (em := emV) (plainFor_of_name rfl) (Nat.le_of_ble_eq_true rfl) (L0 := [(0, va_rf (some th)), (1, .int p1), (2, .int p2)]) rfl (fun Γ _ hrm C hr hn => s_X10_later_0 C hr hrm th p1 p2 m) h

theorem dX10_number_0 : decode cX10_number 0 = .ok (.aload_n 0, 1) := by decide +kernel
theorem dX10_number_1 : decode cX10_number 1 = .ok (.getfield 221, 3) := by decide +kernel
theorem dX10_number_4 : decode cX10_number 4 = .ok (.iconst 3, 1) := by decide +kernel
theorem dX10_number_5 : decode cX10_number 5 = .ok (.if_icmp .eq 8, 3) := by decide +kernel
theorem dX10_number_8 : decode cX10_number 8 = .ok (.aload_n 0, 1) := by decide +kernel
theorem dX10_number_9 : decode cX10_number 9 = .ok (.invokevirtual 236, 3) := by decide +kernel
theorem dX10_number_12 : decode cX10_number 12 = .ok (.ireturn, 1) := by decide +kernel
theorem dX10_number_13 : decode cX10_number 13 = .ok (.aload_n 0, 1) := by decide +kernel
theorem dX10_number_14 : decode cX10_number 14 = .ok (.getfield 122, 3) := by decide +kernel
theorem dX10_number_17 : decode cX10_number 17 = .ok (.aload_n 0, 1) := by decide +kernel
theorem dX10_number_18 : decode cX10_number 18 = .ok (.getfield 240, 3) := by decide +kernel
theorem dX10_number_21 : decode cX10_number 21 = .ok (.aload_n 0, 1) := by decide +kernel
theorem dX10_number_22 : decode cX10_number 22 = .ok (.getfield 224, 3) := by decide +kernel
theorem dX10_number_25 : decode cX10_number 25 = .ok (.iastore, 1) := by decide +kernel
theorem dX10_number_26 : decode cX10_number 26 = .ok (.aload_n 0, 1) := by decide +kernel
theorem dX10_number_27 : decode cX10_number 27 = .ok (.dup, 1) := by decide +kernel
theorem dX10_number_28 : decode cX10_number 28 = .ok (.getfield 240, 3) := by decide +kernel
theorem dX10_number_31 : decode cX10_number 31 = .ok (.iconst 1, 1) := by decide +kernel
theorem dX10_number_32 : decode cX10_number 32 = .ok (.iadd, 1) := by decide +kernel
theorem dX10_number_33 : decode cX10_number 33 = .ok (.putfield 240, 3) := by decide +kernel
theorem dX10_number_36 : decode cX10_number 36 = .ok (.aload_n 0, 1) := by decide +kernel
theorem dX10_number_37 : decode cX10_number 37 = .ok (.getfield 224, 3) := by decide +kernel
theorem dX10_number_40 : decode cX10_number 40 = .ok (.iload_n 1, 1) := by decide +kernel
theorem dX10_number_41 : decode cX10_number 41 = .ok (.iload_n 2, 1) := by decide +kernel
theorem dX10_number_42 : decode cX10_number 42 = .ok (.invokestatic 188, 3) := by decide +kernel
theorem dX10_number_45 : decode cX10_number 45 = .ok (.ifCond .ne 17, 3) := by decide +kernel
theorem dX10_number_48 : decode cX10_number 48 = .ok (.aload_n 0, 1) := by decide +kernel
theorem dX10_number_49 : decode cX10_number 49 = .ok (.iconst 2, 1) := by decide +kernel
theorem dX10_number_50 : decode cX10_number 50 = .ok (.aload_n 0, 1) := by decide +kernel
theorem dX10_number_51 : decode cX10_number 51 = .ok (.getfield 214, 3) := by decide +kernel
theorem dX10_number_54 : decode cX10_number 54 = .ok (.invokevirtual 243, 3) := by decide +kernel
theorem dX10_number_57 : decode cX10_number 57 = .ok (.aload_n 0, 1) := by decide +kernel
theorem dX10_number_58 : decode cX10_number 58 = .ok (.iconst 0, 1) := by decide +kernel
theorem dX10_number_59 : decode cX10_number 59 = .ok (.putfield 247, 3) := by decide +kernel
theorem dX10_number_62 : decode cX10_number 62 = .ok (.aload_n 0, 1) := by decide +kernel
theorem dX10_number_63 : decode cX10_number 63 = .ok (.invokevirtual 251, 3) := by decide +kernel
theorem dX10_number_66 : decode cX10_number 66 = .ok (.iconst 1, 1) := by decide +kernel
theorem dX10_number_67 : decode cX10_number 67 = .ok (.ireturn, 1) := by decide +kernel
def rmX10_number : Room := { frames := 2, cells := 0, slots := 0, locals := 44 }
set_option maxRecDepth 100000 in
def g_X10_number_0 (th : Nat) (p1 : Int32) (p2 : Int32) (m : MM) : Option (Int32 × MM) :=
  chk (m.K th = 11) (if (m.I 1141 th 0) = 3 then (ck m (m.R 1147 th 0) 22 (fun a1 => chk (inb (m.I 1148 th 0) (m.N a1) = true) (bnd (m.sI 22 a1 (Int32.toNatClampNeg (m.I 1148 th 0)) (m.I 1142 th 0)) (fun m1 => bnd (m1.sI 1148 th 0 ((m1.I 1148 th 0) + 1)) (fun m2 => cal (f_X10_in (m2.I 1142 th 0) p1 p2 m2) (fun r1 m3 => if r1 = 0 then (chk (m3.K th = 11) (cal (f_X10_later th 2 (m3.I 1140 th 0) m3) (fun r3 m5 => chk (m5.K th = 11) (bnd (m5.sI 1149 th 0 0) (fun m6 => cal (f_X10_token th m6) (fun r4 m7 => some (1, m7))))))) else (chk (m3.K th = 11) (cal (f_X10_token th m3) (fun r2 m4 => some (1, m4)))))))))) else (cal (f_X10_stops th m) (fun r5 m8 => chk (r5 = 0 ∨ r5 = 1) (some (r5, m8)))))
set_option maxHeartbeats 4000000 in
set_option maxRecDepth 100000 in
theorem s_X10_number_0 {Γ : GX} {E : EX} (C : Cx Γ E cX10_number RX10 3) (hr : Γ.meth.sig.returnType = (some .boolean)) (hrm : Γ.rm = rmX10_number) (th : Nat) (p1 : Int32) (p2 : Int32) (m : MM) : Sm (QM Γ E emI 0 0) Γ E 3 0 0 0 [(0, va_rf (some th)), (1, .int p1), (2, .int p2)] [] m (g_X10_number_0 th p1 p2 m) := by
  unfold g_X10_number_0
  refine z_aload_n C dX10_number_0 rfl 0 rfl ?_
  refine z_chk (fun hk1 => ?_)
  refine z_getI C fl_RX10_221 rfl hk1 dX10_number_1 ?_
  refine z_iconst (v := 3) C dX10_number_4 (by decide) ?_
  refine z_icmp_eq (tgt := 13) C dX10_number_5 (by decide) (fun c1 => ?_) (fun c1 => ?_)
  · refine z_aload_n C dX10_number_13 rfl 0 rfl ?_
    refine z_getR C fl_RX10_122 rfl hk1 dX10_number_14 ?_
    refine z_aload_n C dX10_number_17 rfl 0 rfl ?_
    refine z_getI C fl_RX10_240 rfl hk1 dX10_number_18 ?_
    refine z_aload_n C dX10_number_21 rfl 0 rfl ?_
    refine z_getI C fl_RX10_224 rfl hk1 dX10_number_22 ?_
    refine z_ck (fun a1 hr1 hk2 => ?_)
    refine z_chk (fun hj1 => ?_)
    refine z_iast C hr1 hk2 hj1 dX10_number_25 (fun m1 eK1 eN1 => ?_)
    refine z_aload_n C dX10_number_26 rfl 0 rfl ?_
    refine z_dup C rfl dX10_number_27 ?_
    refine z_getI C fl_RX10_240 rfl (kfw eK1 hk1) dX10_number_28 ?_
    refine z_iconst (v := 1) C dX10_number_31 (by decide) ?_
    refine z_iadd C dX10_number_32 ?_
    refine z_putI C fl_RX10_240 (fun h => by cases h) rfl (kfw eK1 hk1) rfl rfl dX10_number_33 (fun m2 eK2 eN2 => ?_)
    refine z_aload_n C dX10_number_36 rfl 0 rfl ?_
    refine z_getI C fl_RX10_224 rfl (kfw eK2 (kfw eK1 hk1)) dX10_number_37 ?_
    refine z_iload_n C dX10_number_40 rfl 1 rfl ?_
    refine z_iload_n C dX10_number_41 rfl 2 rfl ?_
    refine z_cSI [.int (m2.I 1142 th 0), .int p1, .int p2] [] C mv_RX10_188 (fun r0 m0 h0 => M_X10_in _ _ _ _ _ _ _ _ h0) rfl rfl ⟨by rw [hrm]; exact Nat.le_of_ble_eq_true rfl, by rw [hrm]; exact Nat.le_of_ble_eq_true rfl⟩ ⟨by rw [hrm]; exact Nat.le_of_ble_eq_true rfl, by rw [hrm]; exact Nat.le_of_ble_eq_true rfl⟩ rfl rfl (Nat.le_of_ble_eq_true rfl) dX10_number_42 (fun r1 m3 => ?_)
    refine z_if_ne (tgt := 62) C dX10_number_45 (by decide) (fun c2 => ?_) (fun c2 => ?_)
    · refine z_aload_n C dX10_number_62 rfl 0 rfl ?_
      refine z_chk (fun hk3 => ?_)
      refine z_cVV [] [] C mv_RX10_251 (fun r0 m0 h0 => M_X10_token _ _ _ _ _ _ h0) rfl rfl ⟨by rw [hrm]; exact Nat.le_of_ble_eq_true rfl, by rw [hrm]; exact Nat.le_of_ble_eq_true rfl⟩ ⟨by rw [hrm]; exact Nat.le_of_ble_eq_true rfl, by rw [hrm]; exact Nat.le_of_ble_eq_true rfl⟩ rfl hk3 rfl rfl rfl (Nat.le_of_ble_eq_true rfl) dX10_number_63 (fun r2 m4 => ?_)
      refine z_iconst (v := 1) C dX10_number_66 (by decide) ?_
      exact z_zret C hr rfl dX10_number_67
    · refine z_aload_n C dX10_number_48 rfl 0 rfl ?_
      refine z_iconst (v := 2) C dX10_number_49 (by decide) ?_
      refine z_aload_n C dX10_number_50 rfl 0 rfl ?_
      refine z_chk (fun hk4 => ?_)
      refine z_getI C fl_RX10_214 rfl hk4 dX10_number_51 ?_
      refine z_cVV [.int 2, .int (m3.I 1140 th 0)] [] C mv_RX10_243 (fun r0 m0 h0 => M_X10_later _ _ _ _ _ _ _ _ h0) rfl rfl ⟨by rw [hrm]; exact Nat.le_of_ble_eq_true rfl, by rw [hrm]; exact Nat.le_of_ble_eq_true rfl⟩ ⟨by rw [hrm]; exact Nat.le_of_ble_eq_true rfl, by rw [hrm]; exact Nat.le_of_ble_eq_true rfl⟩ rfl hk4 rfl rfl rfl (Nat.le_of_ble_eq_true rfl) dX10_number_54 (fun r3 m5 => ?_)
      refine z_aload_n C dX10_number_57 rfl 0 rfl ?_
      refine z_iconst (v := 0) C dX10_number_58 (by decide) ?_
      refine z_chk (fun hk5 => ?_)
      refine z_putI C fl_RX10_247 (fun h => by cases h) rfl hk5 rfl rfl dX10_number_59 (fun m6 eK3 eN3 => ?_)
      refine z_aload_n C dX10_number_62 rfl 0 rfl ?_
      refine z_cVV [] [] C mv_RX10_251 (fun r0 m0 h0 => M_X10_token _ _ _ _ _ _ h0) rfl rfl ⟨by rw [hrm]; exact Nat.le_of_ble_eq_true rfl, by rw [hrm]; exact Nat.le_of_ble_eq_true rfl⟩ ⟨by rw [hrm]; exact Nat.le_of_ble_eq_true rfl, by rw [hrm]; exact Nat.le_of_ble_eq_true rfl⟩ rfl (kfw eK3 hk5) rfl rfl rfl (Nat.le_of_ble_eq_true rfl) dX10_number_63 (fun r4 m7 => ?_)
      refine z_iconst (v := 1) C dX10_number_66 (by decide) ?_
      exact z_zret C hr rfl dX10_number_67
  · refine z_aload_n C dX10_number_8 rfl 0 rfl ?_
    refine z_cVI [] [] C mv_RX10_236 (fun r0 m0 h0 => M_X10_stops _ _ _ _ _ _ h0) rfl rfl ⟨by rw [hrm]; exact Nat.le_of_ble_eq_true rfl, by rw [hrm]; exact Nat.le_of_ble_eq_true rfl⟩ ⟨by rw [hrm]; exact Nat.le_of_ble_eq_true rfl, by rw [hrm]; exact Nat.le_of_ble_eq_true rfl⟩ rfl hk1 rfl rfl rfl (Nat.le_of_ble_eq_true rfl) dX10_number_9 (fun r5 m8 => ?_)
    refine z_chk (fun hb1 => ?_)
    exact z_zret C hr (nb_of hb1) dX10_number_12
def f_X10_number (th : Nat) (p1 : Int32) (p2 : Int32) (m : MM) : Option (Int32 × MM) := g_X10_number_0 th p1 p2 m
theorem M_X10_number (l : Launch) (E : EX) (th : Nat) (p1 : Int32) (p2 : Int32) (m : MM) (r : Int32) (m2 : MM) (h : f_X10_number th p1 p2 m = some (r, m2)) : Met l yX10_number (.code yX10_number cX10_number 3 (some .boolean) :: TB) rmX10_number (va_Pc [.ref th, .int p1, .int p2] (St E m)) (QR E (emI r) m2) 0 0 (AA E) :=
  met_of (em := emI) (plainFor_of_name rfl) (Nat.le_of_ble_eq_true rfl) (L0 := [(0, va_rf (some th)), (1, .int p1), (2, .int p2)]) rfl (fun Γ _ hrm C hr hn => s_X10_number_0 C hr hrm th p1 p2 m) h

theorem dX10_passes_0 : decode cX10_passes 0 = .ok (.aload_n 0, 1) := by decide +kernel
theorem dX10_passes_1 : decode cX10_passes 1 = .ok (.getfield 221, 3) := by decide +kernel
theorem dX10_passes_4 : decode cX10_passes 4 = .ok (.iconst 4, 1) := by decide +kernel
theorem dX10_passes_5 : decode cX10_passes 5 = .ok (.if_icmp .eq 8, 3) := by decide +kernel
theorem dX10_passes_8 : decode cX10_passes 8 = .ok (.aload_n 0, 1) := by decide +kernel
theorem dX10_passes_9 : decode cX10_passes 9 = .ok (.invokevirtual 236, 3) := by decide +kernel
theorem dX10_passes_12 : decode cX10_passes 12 = .ok (.ireturn, 1) := by decide +kernel
theorem dX10_passes_13 : decode cX10_passes 13 = .ok (.aload_n 0, 1) := by decide +kernel
theorem dX10_passes_14 : decode cX10_passes 14 = .ok (.invokevirtual 251, 3) := by decide +kernel
theorem dX10_passes_17 : decode cX10_passes 17 = .ok (.iconst 1, 1) := by decide +kernel
theorem dX10_passes_18 : decode cX10_passes 18 = .ok (.ireturn, 1) := by decide +kernel
def rmX10_passes : Room := { frames := 2, cells := 0, slots := 0, locals := 44 }
set_option maxRecDepth 100000 in
def g_X10_passes_0 (th : Nat) (m : MM) : Option (Int32 × MM) :=
  chk (m.K th = 11) (if (m.I 1141 th 0) = 4 then (cal (f_X10_token th m) (fun r1 m1 => some (1, m1))) else (cal (f_X10_stops th m) (fun r2 m2 => chk (r2 = 0 ∨ r2 = 1) (some (r2, m2)))))
set_option maxHeartbeats 4000000 in
set_option maxRecDepth 100000 in
theorem s_X10_passes_0 {Γ : GX} {E : EX} (C : Cx Γ E cX10_passes RX10 1) (hr : Γ.meth.sig.returnType = (some .boolean)) (hrm : Γ.rm = rmX10_passes) (th : Nat) (m : MM) : Sm (QM Γ E emI 0 0) Γ E 1 0 0 0 [(0, va_rf (some th))] [] m (g_X10_passes_0 th m) := by
  unfold g_X10_passes_0
  refine z_aload_n C dX10_passes_0 rfl 0 rfl ?_
  refine z_chk (fun hk1 => ?_)
  refine z_getI C fl_RX10_221 rfl hk1 dX10_passes_1 ?_
  refine z_iconst (v := 4) C dX10_passes_4 (by decide) ?_
  refine z_icmp_eq (tgt := 13) C dX10_passes_5 (by decide) (fun c1 => ?_) (fun c1 => ?_)
  · refine z_aload_n C dX10_passes_13 rfl 0 rfl ?_
    refine z_cVV [] [] C mv_RX10_251 (fun r0 m0 h0 => M_X10_token _ _ _ _ _ _ h0) rfl rfl ⟨by rw [hrm]; exact Nat.le_of_ble_eq_true rfl, by rw [hrm]; exact Nat.le_of_ble_eq_true rfl⟩ ⟨by rw [hrm]; exact Nat.le_of_ble_eq_true rfl, by rw [hrm]; exact Nat.le_of_ble_eq_true rfl⟩ rfl hk1 rfl rfl rfl (Nat.le_of_ble_eq_true rfl) dX10_passes_14 (fun r1 m1 => ?_)
    refine z_iconst (v := 1) C dX10_passes_17 (by decide) ?_
    exact z_zret C hr rfl dX10_passes_18
  · refine z_aload_n C dX10_passes_8 rfl 0 rfl ?_
    refine z_cVI [] [] C mv_RX10_236 (fun r0 m0 h0 => M_X10_stops _ _ _ _ _ _ h0) rfl rfl ⟨by rw [hrm]; exact Nat.le_of_ble_eq_true rfl, by rw [hrm]; exact Nat.le_of_ble_eq_true rfl⟩ ⟨by rw [hrm]; exact Nat.le_of_ble_eq_true rfl, by rw [hrm]; exact Nat.le_of_ble_eq_true rfl⟩ rfl hk1 rfl rfl rfl (Nat.le_of_ble_eq_true rfl) dX10_passes_9 (fun r2 m2 => ?_)
    refine z_chk (fun hb1 => ?_)
    exact z_zret C hr (nb_of hb1) dX10_passes_12
def f_X10_passes (th : Nat) (m : MM) : Option (Int32 × MM) := g_X10_passes_0 th m
theorem M_X10_passes (l : Launch) (E : EX) (th : Nat) (m : MM) (r : Int32) (m2 : MM) (h : f_X10_passes th m = some (r, m2)) : Met l yX10_passes (.code yX10_passes cX10_passes 1 (some .boolean) :: TB) rmX10_passes (va_Pc [.ref th] (St E m)) (QR E (emI r) m2) 0 0 (AA E) :=
  met_of (em := emI) (plainFor_of_name rfl) (Nat.le_of_ble_eq_true rfl) (L0 := [(0, va_rf (some th))]) rfl (fun Γ _ hrm C hr hn => s_X10_passes_0 C hr hrm th m) h
