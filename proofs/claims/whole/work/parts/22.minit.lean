set_option maxRecDepth 100000 in
theorem w_1574 : Cond.methodLink "CascaderyModel" 1 ⟨"java/lang/Object", "<init>", "()V"⟩ ∈ BG := bg_in 1574 (by decide +kernel) (by decide +kernel)
theorem dX12_init_0 : decode cX12_init 0 = .ok (.aload_n 0, 1) := by decide +kernel
theorem dX12_init_1 : decode cX12_init 1 = .ok (.invokespecial 1, 3) := by decide +kernel
theorem dX12_init_4 : decode cX12_init 4 = .ok (.aload_n 0, 1) := by decide +kernel
theorem dX12_init_5 : decode cX12_init 5 = .ok (.bipush 30, 2) := by decide +kernel
theorem dX12_init_7 : decode cX12_init 7 = .ok (.newarray .int, 2) := by decide +kernel
theorem dX12_init_9 : decode cX12_init 9 = .ok (.putfield 7, 3) := by decide +kernel
theorem dX12_init_12 : decode cX12_init 12 = .ok (.aload_n 0, 1) := by decide +kernel
theorem dX12_init_13 : decode cX12_init 13 = .ok (.bipush 30, 2) := by decide +kernel
theorem dX12_init_15 : decode cX12_init 15 = .ok (.newarray .int, 2) := by decide +kernel
theorem dX12_init_17 : decode cX12_init 17 = .ok (.putfield 13, 3) := by decide +kernel
theorem dX12_init_20 : decode cX12_init 20 = .ok (.aload_n 0, 1) := by decide +kernel
theorem dX12_init_21 : decode cX12_init 21 = .ok (.bipush 30, 2) := by decide +kernel
theorem dX12_init_23 : decode cX12_init 23 = .ok (.newarray .int, 2) := by decide +kernel
theorem dX12_init_25 : decode cX12_init 25 = .ok (.putfield 16, 3) := by decide +kernel
theorem dX12_init_28 : decode cX12_init 28 = .ok (.aload_n 0, 1) := by decide +kernel
theorem dX12_init_29 : decode cX12_init 29 = .ok (.bipush 30, 2) := by decide +kernel
theorem dX12_init_31 : decode cX12_init 31 = .ok (.newarray .int, 2) := by decide +kernel
theorem dX12_init_33 : decode cX12_init 33 = .ok (.putfield 19, 3) := by decide +kernel
theorem dX12_init_36 : decode cX12_init 36 = .ok (.aload_n 0, 1) := by decide +kernel
theorem dX12_init_37 : decode cX12_init 37 = .ok (.bipush 30, 2) := by decide +kernel
theorem dX12_init_39 : decode cX12_init 39 = .ok (.newarray .int, 2) := by decide +kernel
theorem dX12_init_41 : decode cX12_init 41 = .ok (.putfield 22, 3) := by decide +kernel
theorem dX12_init_44 : decode cX12_init 44 = .ok (.aload_n 0, 1) := by decide +kernel
theorem dX12_init_45 : decode cX12_init 45 = .ok (.bipush 30, 2) := by decide +kernel
theorem dX12_init_47 : decode cX12_init 47 = .ok (.newarray .int, 2) := by decide +kernel
theorem dX12_init_49 : decode cX12_init 49 = .ok (.putfield 25, 3) := by decide +kernel
theorem dX12_init_52 : decode cX12_init 52 = .ok (.aload_n 0, 1) := by decide +kernel
theorem dX12_init_53 : decode cX12_init 53 = .ok (.bipush 30, 2) := by decide +kernel
theorem dX12_init_55 : decode cX12_init 55 = .ok (.newarray .int, 2) := by decide +kernel
theorem dX12_init_57 : decode cX12_init 57 = .ok (.putfield 28, 3) := by decide +kernel
theorem dX12_init_60 : decode cX12_init 60 = .ok (.aload_n 0, 1) := by decide +kernel
theorem dX12_init_61 : decode cX12_init 61 = .ok (.bipush 30, 2) := by decide +kernel
theorem dX12_init_63 : decode cX12_init 63 = .ok (.newarray .int, 2) := by decide +kernel
theorem dX12_init_65 : decode cX12_init 65 = .ok (.putfield 31, 3) := by decide +kernel
theorem dX12_init_68 : decode cX12_init 68 = .ok (.aload_n 0, 1) := by decide +kernel
theorem dX12_init_69 : decode cX12_init 69 = .ok (.bipush 30, 2) := by decide +kernel
theorem dX12_init_71 : decode cX12_init 71 = .ok (.newarray .int, 2) := by decide +kernel
theorem dX12_init_73 : decode cX12_init 73 = .ok (.putfield 34, 3) := by decide +kernel
theorem dX12_init_76 : decode cX12_init 76 = .ok (.aload_n 0, 1) := by decide +kernel
theorem dX12_init_77 : decode cX12_init 77 = .ok (.sipush 900, 3) := by decide +kernel
theorem dX12_init_80 : decode cX12_init 80 = .ok (.newarray .int, 2) := by decide +kernel
theorem dX12_init_82 : decode cX12_init 82 = .ok (.putfield 37, 3) := by decide +kernel
theorem dX12_init_85 : decode cX12_init 85 = .ok (.aload_n 0, 1) := by decide +kernel
theorem dX12_init_86 : decode cX12_init 86 = .ok (.bipush 30, 2) := by decide +kernel
theorem dX12_init_88 : decode cX12_init 88 = .ok (.newarray .int, 2) := by decide +kernel
theorem dX12_init_90 : decode cX12_init 90 = .ok (.putfield 40, 3) := by decide +kernel
theorem dX12_init_93 : decode cX12_init 93 = .ok (.aload_n 0, 1) := by decide +kernel
theorem dX12_init_94 : decode cX12_init 94 = .ok (.sipush 900, 3) := by decide +kernel
theorem dX12_init_97 : decode cX12_init 97 = .ok (.newarray .int, 2) := by decide +kernel
theorem dX12_init_99 : decode cX12_init 99 = .ok (.putfield 43, 3) := by decide +kernel
theorem dX12_init_102 : decode cX12_init 102 = .ok (.aload_n 0, 1) := by decide +kernel
theorem dX12_init_103 : decode cX12_init 103 = .ok (.bipush 30, 2) := by decide +kernel
theorem dX12_init_105 : decode cX12_init 105 = .ok (.newarray .int, 2) := by decide +kernel
theorem dX12_init_107 : decode cX12_init 107 = .ok (.putfield 46, 3) := by decide +kernel
theorem dX12_init_110 : decode cX12_init 110 = .ok (.aload_n 0, 1) := by decide +kernel
theorem dX12_init_111 : decode cX12_init 111 = .ok (.bipush 31, 2) := by decide +kernel
theorem dX12_init_113 : decode cX12_init 113 = .ok (.newarray .int, 2) := by decide +kernel
theorem dX12_init_115 : decode cX12_init 115 = .ok (.putfield 49, 3) := by decide +kernel
theorem dX12_init_118 : decode cX12_init 118 = .ok (.aload_n 0, 1) := by decide +kernel
theorem dX12_init_119 : decode cX12_init 119 = .ok (.bipush 124, 2) := by decide +kernel
theorem dX12_init_121 : decode cX12_init 121 = .ok (.newarray .int, 2) := by decide +kernel
theorem dX12_init_123 : decode cX12_init 123 = .ok (.putfield 52, 3) := by decide +kernel
theorem dX12_init_126 : decode cX12_init 126 = .ok (.aload_n 0, 1) := by decide +kernel
theorem dX12_init_127 : decode cX12_init 127 = .ok (.bipush 124, 2) := by decide +kernel
theorem dX12_init_129 : decode cX12_init 129 = .ok (.newarray .int, 2) := by decide +kernel
theorem dX12_init_131 : decode cX12_init 131 = .ok (.putfield 55, 3) := by decide +kernel
theorem dX12_init_134 : decode cX12_init 134 = .ok (.aload_n 0, 1) := by decide +kernel
theorem dX12_init_135 : decode cX12_init 135 = .ok (.sipush 496, 3) := by decide +kernel
theorem dX12_init_138 : decode cX12_init 138 = .ok (.newarray .int, 2) := by decide +kernel
theorem dX12_init_140 : decode cX12_init 140 = .ok (.putfield 58, 3) := by decide +kernel
theorem dX12_init_143 : decode cX12_init 143 = .ok (.aload_n 0, 1) := by decide +kernel
theorem dX12_init_144 : decode cX12_init 144 = .ok (.sipush 496, 3) := by decide +kernel
theorem dX12_init_147 : decode cX12_init 147 = .ok (.newarray .int, 2) := by decide +kernel
theorem dX12_init_149 : decode cX12_init 149 = .ok (.putfield 61, 3) := by decide +kernel
theorem dX12_init_152 : decode cX12_init 152 = .ok (.aload_n 0, 1) := by decide +kernel
theorem dX12_init_153 : decode cX12_init 153 = .ok (.sipush 496, 3) := by decide +kernel
theorem dX12_init_156 : decode cX12_init 156 = .ok (.newarray .int, 2) := by decide +kernel
theorem dX12_init_158 : decode cX12_init 158 = .ok (.putfield 64, 3) := by decide +kernel
theorem dX12_init_161 : decode cX12_init 161 = .ok (.aload_n 0, 1) := by decide +kernel
theorem dX12_init_162 : decode cX12_init 162 = .ok (.bipush 31, 2) := by decide +kernel
theorem dX12_init_164 : decode cX12_init 164 = .ok (.newarray .int, 2) := by decide +kernel
theorem dX12_init_166 : decode cX12_init 166 = .ok (.putfield 67, 3) := by decide +kernel
theorem dX12_init_169 : decode cX12_init 169 = .ok (.aload_n 0, 1) := by decide +kernel
theorem dX12_init_170 : decode cX12_init 170 = .ok (.bipush 31, 2) := by decide +kernel
theorem dX12_init_172 : decode cX12_init 172 = .ok (.newarray .int, 2) := by decide +kernel
theorem dX12_init_174 : decode cX12_init 174 = .ok (.putfield 70, 3) := by decide +kernel
theorem dX12_init_177 : decode cX12_init 177 = .ok (.aload_n 0, 1) := by decide +kernel
theorem dX12_init_178 : decode cX12_init 178 = .ok (.bipush 31, 2) := by decide +kernel
theorem dX12_init_180 : decode cX12_init 180 = .ok (.newarray .int, 2) := by decide +kernel
theorem dX12_init_182 : decode cX12_init 182 = .ok (.putfield 73, 3) := by decide +kernel
theorem dX12_init_185 : decode cX12_init 185 = .ok (.aload_n 0, 1) := by decide +kernel
theorem dX12_init_186 : decode cX12_init 186 = .ok (.bipush 31, 2) := by decide +kernel
theorem dX12_init_188 : decode cX12_init 188 = .ok (.newarray .int, 2) := by decide +kernel
theorem dX12_init_190 : decode cX12_init 190 = .ok (.putfield 76, 3) := by decide +kernel
theorem dX12_init_193 : decode cX12_init 193 = .ok (.aload_n 0, 1) := by decide +kernel
theorem dX12_init_194 : decode cX12_init 194 = .ok (.bipush 31, 2) := by decide +kernel
theorem dX12_init_196 : decode cX12_init 196 = .ok (.newarray .int, 2) := by decide +kernel
theorem dX12_init_198 : decode cX12_init 198 = .ok (.putfield 79, 3) := by decide +kernel
theorem dX12_init_201 : decode cX12_init 201 = .ok (.aload_n 0, 1) := by decide +kernel
theorem dX12_init_202 : decode cX12_init 202 = .ok (.bipush 31, 2) := by decide +kernel
theorem dX12_init_204 : decode cX12_init 204 = .ok (.newarray .int, 2) := by decide +kernel
theorem dX12_init_206 : decode cX12_init 206 = .ok (.putfield 82, 3) := by decide +kernel
theorem dX12_init_209 : decode cX12_init 209 = .ok (.aload_n 0, 1) := by decide +kernel
theorem dX12_init_210 : decode cX12_init 210 = .ok (.bipush 8, 2) := by decide +kernel
theorem dX12_init_212 : decode cX12_init 212 = .ok (.newarray .int, 2) := by decide +kernel
theorem dX12_init_214 : decode cX12_init 214 = .ok (.putfield 85, 3) := by decide +kernel
theorem dX12_init_217 : decode cX12_init 217 = .ok (.aload_n 0, 1) := by decide +kernel
theorem dX12_init_218 : decode cX12_init 218 = .ok (.bipush 8, 2) := by decide +kernel
theorem dX12_init_220 : decode cX12_init 220 = .ok (.newarray .int, 2) := by decide +kernel
theorem dX12_init_222 : decode cX12_init 222 = .ok (.putfield 88, 3) := by decide +kernel
theorem dX12_init_225 : decode cX12_init 225 = .ok (.aload_n 0, 1) := by decide +kernel
theorem dX12_init_226 : decode cX12_init 226 = .ok (.bipush 8, 2) := by decide +kernel
theorem dX12_init_228 : decode cX12_init 228 = .ok (.newarray .int, 2) := by decide +kernel
theorem dX12_init_230 : decode cX12_init 230 = .ok (.putfield 91, 3) := by decide +kernel
theorem dX12_init_233 : decode cX12_init 233 = .ok (.aload_n 0, 1) := by decide +kernel
theorem dX12_init_234 : decode cX12_init 234 = .ok (.bipush 8, 2) := by decide +kernel
theorem dX12_init_236 : decode cX12_init 236 = .ok (.newarray .int, 2) := by decide +kernel
theorem dX12_init_238 : decode cX12_init 238 = .ok (.putfield 94, 3) := by decide +kernel
theorem dX12_init_241 : decode cX12_init 241 = .ok (.aload_n 0, 1) := by decide +kernel
theorem dX12_init_242 : decode cX12_init 242 = .ok (.bipush 40, 2) := by decide +kernel
theorem dX12_init_244 : decode cX12_init 244 = .ok (.newarray .int, 2) := by decide +kernel
theorem dX12_init_246 : decode cX12_init 246 = .ok (.putfield 97, 3) := by decide +kernel
theorem dX12_init_249 : decode cX12_init 249 = .ok (.aload_n 0, 1) := by decide +kernel
theorem dX12_init_250 : decode cX12_init 250 = .ok (.bipush 40, 2) := by decide +kernel
theorem dX12_init_252 : decode cX12_init 252 = .ok (.newarray .int, 2) := by decide +kernel
theorem dX12_init_254 : decode cX12_init 254 = .ok (.putfield 100, 3) := by decide +kernel
theorem dX12_init_257 : decode cX12_init 257 = .ok (.aload_n 0, 1) := by decide +kernel
theorem dX12_init_258 : decode cX12_init 258 = .ok (.bipush 40, 2) := by decide +kernel
theorem dX12_init_260 : decode cX12_init 260 = .ok (.newarray .int, 2) := by decide +kernel
theorem dX12_init_262 : decode cX12_init 262 = .ok (.putfield 103, 3) := by decide +kernel
theorem dX12_init_265 : decode cX12_init 265 = .ok (.aload_n 0, 1) := by decide +kernel
theorem dX12_init_266 : decode cX12_init 266 = .ok (.bipush 40, 2) := by decide +kernel
theorem dX12_init_268 : decode cX12_init 268 = .ok (.newarray .int, 2) := by decide +kernel
theorem dX12_init_270 : decode cX12_init 270 = .ok (.putfield 106, 3) := by decide +kernel
theorem dX12_init_273 : decode cX12_init 273 = .ok (.aload_n 0, 1) := by decide +kernel
theorem dX12_init_274 : decode cX12_init 274 = .ok (.sipush 1120, 3) := by decide +kernel
theorem dX12_init_277 : decode cX12_init 277 = .ok (.newarray .int, 2) := by decide +kernel
theorem dX12_init_279 : decode cX12_init 279 = .ok (.putfield 109, 3) := by decide +kernel
theorem dX12_init_282 : decode cX12_init 282 = .ok (.aload_n 0, 1) := by decide +kernel
theorem dX12_init_283 : decode cX12_init 283 = .ok (.sipush 1120, 3) := by decide +kernel
theorem dX12_init_286 : decode cX12_init 286 = .ok (.newarray .int, 2) := by decide +kernel
theorem dX12_init_288 : decode cX12_init 288 = .ok (.putfield 112, 3) := by decide +kernel
theorem dX12_init_291 : decode cX12_init 291 = .ok (.aload_n 0, 1) := by decide +kernel
theorem dX12_init_292 : decode cX12_init 292 = .ok (.sipush 1120, 3) := by decide +kernel
theorem dX12_init_295 : decode cX12_init 295 = .ok (.newarray .int, 2) := by decide +kernel
theorem dX12_init_297 : decode cX12_init 297 = .ok (.putfield 115, 3) := by decide +kernel
theorem dX12_init_300 : decode cX12_init 300 = .ok (.aload_n 0, 1) := by decide +kernel
theorem dX12_init_301 : decode cX12_init 301 = .ok (.sipush 1120, 3) := by decide +kernel
theorem dX12_init_304 : decode cX12_init 304 = .ok (.newarray .int, 2) := by decide +kernel
theorem dX12_init_306 : decode cX12_init 306 = .ok (.putfield 118, 3) := by decide +kernel
theorem dX12_init_309 : decode cX12_init 309 = .ok (.aload_n 0, 1) := by decide +kernel
theorem dX12_init_310 : decode cX12_init 310 = .ok (.sipush 1120, 3) := by decide +kernel
theorem dX12_init_313 : decode cX12_init 313 = .ok (.newarray .int, 2) := by decide +kernel
theorem dX12_init_315 : decode cX12_init 315 = .ok (.putfield 121, 3) := by decide +kernel
theorem dX12_init_318 : decode cX12_init 318 = .ok (.aload_n 0, 1) := by decide +kernel
theorem dX12_init_319 : decode cX12_init 319 = .ok (.sipush 1120, 3) := by decide +kernel
theorem dX12_init_322 : decode cX12_init 322 = .ok (.newarray .int, 2) := by decide +kernel
theorem dX12_init_324 : decode cX12_init 324 = .ok (.putfield 124, 3) := by decide +kernel
theorem dX12_init_327 : decode cX12_init 327 = .ok (.aload_n 0, 1) := by decide +kernel
theorem dX12_init_328 : decode cX12_init 328 = .ok (.sipush 1080, 3) := by decide +kernel
theorem dX12_init_331 : decode cX12_init 331 = .ok (.newarray .int, 2) := by decide +kernel
theorem dX12_init_333 : decode cX12_init 333 = .ok (.putfield 127, 3) := by decide +kernel
theorem dX12_init_336 : decode cX12_init 336 = .ok (.aload_n 0, 1) := by decide +kernel
theorem dX12_init_337 : decode cX12_init 337 = .ok (.sipush 270, 3) := by decide +kernel
theorem dX12_init_340 : decode cX12_init 340 = .ok (.newarray .int, 2) := by decide +kernel
theorem dX12_init_342 : decode cX12_init 342 = .ok (.putfield 130, 3) := by decide +kernel
theorem dX12_init_345 : decode cX12_init 345 = .ok (.aload_n 0, 1) := by decide +kernel
theorem dX12_init_346 : decode cX12_init 346 = .ok (.sipush 270, 3) := by decide +kernel
theorem dX12_init_349 : decode cX12_init 349 = .ok (.newarray .int, 2) := by decide +kernel
theorem dX12_init_351 : decode cX12_init 351 = .ok (.putfield 133, 3) := by decide +kernel
theorem dX12_init_354 : decode cX12_init 354 = .ok (.aload_n 0, 1) := by decide +kernel
theorem dX12_init_355 : decode cX12_init 355 = .ok (.bipush 90, 2) := by decide +kernel
theorem dX12_init_357 : decode cX12_init 357 = .ok (.newarray .int, 2) := by decide +kernel
theorem dX12_init_359 : decode cX12_init 359 = .ok (.putfield 136, 3) := by decide +kernel
theorem dX12_init_362 : decode cX12_init 362 = .ok (.aload_n 0, 1) := by decide +kernel
theorem dX12_init_363 : decode cX12_init 363 = .ok (.sipush 150, 3) := by decide +kernel
theorem dX12_init_366 : decode cX12_init 366 = .ok (.newarray .int, 2) := by decide +kernel
theorem dX12_init_368 : decode cX12_init 368 = .ok (.putfield 139, 3) := by decide +kernel
theorem dX12_init_371 : decode cX12_init 371 = .ok (.aload_n 0, 1) := by decide +kernel
theorem dX12_init_372 : decode cX12_init 372 = .ok (.sipush 150, 3) := by decide +kernel
theorem dX12_init_375 : decode cX12_init 375 = .ok (.newarray .int, 2) := by decide +kernel
theorem dX12_init_377 : decode cX12_init 377 = .ok (.putfield 142, 3) := by decide +kernel
theorem dX12_init_380 : decode cX12_init 380 = .ok (.aload_n 0, 1) := by decide +kernel
theorem dX12_init_381 : decode cX12_init 381 = .ok (.sipush 150, 3) := by decide +kernel
theorem dX12_init_384 : decode cX12_init 384 = .ok (.newarray .int, 2) := by decide +kernel
theorem dX12_init_386 : decode cX12_init 386 = .ok (.putfield 145, 3) := by decide +kernel
theorem dX12_init_389 : decode cX12_init 389 = .ok (.aload_n 0, 1) := by decide +kernel
theorem dX12_init_390 : decode cX12_init 390 = .ok (.sipush 150, 3) := by decide +kernel
theorem dX12_init_393 : decode cX12_init 393 = .ok (.newarray .int, 2) := by decide +kernel
theorem dX12_init_395 : decode cX12_init 395 = .ok (.putfield 148, 3) := by decide +kernel
theorem dX12_init_398 : decode cX12_init 398 = .ok (.aload_n 0, 1) := by decide +kernel
theorem dX12_init_399 : decode cX12_init 399 = .ok (.sipush 150, 3) := by decide +kernel
theorem dX12_init_402 : decode cX12_init 402 = .ok (.newarray .int, 2) := by decide +kernel
theorem dX12_init_404 : decode cX12_init 404 = .ok (.putfield 151, 3) := by decide +kernel
theorem dX12_init_407 : decode cX12_init 407 = .ok (.aload_n 0, 1) := by decide +kernel
theorem dX12_init_408 : decode cX12_init 408 = .ok (.bipush 30, 2) := by decide +kernel
theorem dX12_init_410 : decode cX12_init 410 = .ok (.newarray .int, 2) := by decide +kernel
theorem dX12_init_412 : decode cX12_init 412 = .ok (.putfield 154, 3) := by decide +kernel
theorem dX12_init_415 : decode cX12_init 415 = .ok (.aload_n 0, 1) := by decide +kernel
theorem dX12_init_416 : decode cX12_init 416 = .ok (.iconst 4, 1) := by decide +kernel
theorem dX12_init_417 : decode cX12_init 417 = .ok (.newarray .int, 2) := by decide +kernel
theorem dX12_init_419 : decode cX12_init 419 = .ok (.putfield 157, 3) := by decide +kernel
theorem dX12_init_422 : decode cX12_init 422 = .ok (.aload_n 0, 1) := by decide +kernel
theorem dX12_init_423 : decode cX12_init 423 = .ok (.iconst 4, 1) := by decide +kernel
theorem dX12_init_424 : decode cX12_init 424 = .ok (.newarray .int, 2) := by decide +kernel
theorem dX12_init_426 : decode cX12_init 426 = .ok (.putfield 160, 3) := by decide +kernel
theorem dX12_init_429 : decode cX12_init 429 = .ok (.aload_n 0, 1) := by decide +kernel
theorem dX12_init_430 : decode cX12_init 430 = .ok (.iconst 4, 1) := by decide +kernel
theorem dX12_init_431 : decode cX12_init 431 = .ok (.newarray .int, 2) := by decide +kernel
theorem dX12_init_433 : decode cX12_init 433 = .ok (.putfield 163, 3) := by decide +kernel
theorem dX12_init_436 : decode cX12_init 436 = .ok (.aload_n 0, 1) := by decide +kernel
theorem dX12_init_437 : decode cX12_init 437 = .ok (.sipush 220, 3) := by decide +kernel
theorem dX12_init_440 : decode cX12_init 440 = .ok (.newarray .int, 2) := by decide +kernel
theorem dX12_init_442 : decode cX12_init 442 = .ok (.putfield 166, 3) := by decide +kernel
theorem dX12_init_445 : decode cX12_init 445 = .ok (.aload_n 0, 1) := by decide +kernel
theorem dX12_init_446 : decode cX12_init 446 = .ok (.sipush 220, 3) := by decide +kernel
theorem dX12_init_449 : decode cX12_init 449 = .ok (.newarray .int, 2) := by decide +kernel
theorem dX12_init_451 : decode cX12_init 451 = .ok (.putfield 169, 3) := by decide +kernel
theorem dX12_init_454 : decode cX12_init 454 = .ok (.aload_n 0, 1) := by decide +kernel
theorem dX12_init_455 : decode cX12_init 455 = .ok (.bipush 6, 2) := by decide +kernel
theorem dX12_init_457 : decode cX12_init 457 = .ok (.newarray .int, 2) := by decide +kernel
theorem dX12_init_459 : decode cX12_init 459 = .ok (.putfield 172, 3) := by decide +kernel
theorem dX12_init_462 : decode cX12_init 462 = .ok (.aload_n 0, 1) := by decide +kernel
theorem dX12_init_463 : decode cX12_init 463 = .ok (.bipush 6, 2) := by decide +kernel
theorem dX12_init_465 : decode cX12_init 465 = .ok (.newarray .int, 2) := by decide +kernel
theorem dX12_init_467 : decode cX12_init 467 = .ok (.putfield 175, 3) := by decide +kernel
theorem dX12_init_470 : decode cX12_init 470 = .ok (.aload_n 0, 1) := by decide +kernel
theorem dX12_init_471 : decode cX12_init 471 = .ok (.bipush 6, 2) := by decide +kernel
theorem dX12_init_473 : decode cX12_init 473 = .ok (.newarray .int, 2) := by decide +kernel
theorem dX12_init_475 : decode cX12_init 475 = .ok (.putfield 178, 3) := by decide +kernel
theorem dX12_init_478 : decode cX12_init 478 = .ok (.aload_n 0, 1) := by decide +kernel
theorem dX12_init_479 : decode cX12_init 479 = .ok (.bipush 6, 2) := by decide +kernel
theorem dX12_init_481 : decode cX12_init 481 = .ok (.newarray .int, 2) := by decide +kernel
theorem dX12_init_483 : decode cX12_init 483 = .ok (.putfield 181, 3) := by decide +kernel
theorem dX12_init_486 : decode cX12_init 486 = .ok (.aload_n 0, 1) := by decide +kernel
theorem dX12_init_487 : decode cX12_init 487 = .ok (.bipush 6, 2) := by decide +kernel
theorem dX12_init_489 : decode cX12_init 489 = .ok (.newarray .int, 2) := by decide +kernel
theorem dX12_init_491 : decode cX12_init 491 = .ok (.putfield 184, 3) := by decide +kernel
theorem dX12_init_494 : decode cX12_init 494 = .ok (.aload_n 0, 1) := by decide +kernel
theorem dX12_init_495 : decode cX12_init 495 = .ok (.bipush 30, 2) := by decide +kernel
theorem dX12_init_497 : decode cX12_init 497 = .ok (.newarray .int, 2) := by decide +kernel
theorem dX12_init_499 : decode cX12_init 499 = .ok (.putfield 187, 3) := by decide +kernel
theorem dX12_init_502 : decode cX12_init 502 = .ok (.aload_n 0, 1) := by decide +kernel
theorem dX12_init_503 : decode cX12_init 503 = .ok (.bipush 40, 2) := by decide +kernel
theorem dX12_init_505 : decode cX12_init 505 = .ok (.newarray .int, 2) := by decide +kernel
theorem dX12_init_507 : decode cX12_init 507 = .ok (.putfield 190, 3) := by decide +kernel
theorem dX12_init_510 : decode cX12_init 510 = .ok (.aload_n 0, 1) := by decide +kernel
theorem dX12_init_511 : decode cX12_init 511 = .ok (.bipush 30, 2) := by decide +kernel
theorem dX12_init_513 : decode cX12_init 513 = .ok (.newarray .int, 2) := by decide +kernel
theorem dX12_init_515 : decode cX12_init 515 = .ok (.putfield 193, 3) := by decide +kernel
theorem dX12_init_518 : decode cX12_init 518 = .ok (.aload_n 0, 1) := by decide +kernel
theorem dX12_init_519 : decode cX12_init 519 = .ok (.bipush 30, 2) := by decide +kernel
theorem dX12_init_521 : decode cX12_init 521 = .ok (.newarray .int, 2) := by decide +kernel
theorem dX12_init_523 : decode cX12_init 523 = .ok (.putfield 196, 3) := by decide +kernel
theorem dX12_init_526 : decode cX12_init 526 = .ok (.aload_n 0, 1) := by decide +kernel
theorem dX12_init_527 : decode cX12_init 527 = .ok (.bipush 30, 2) := by decide +kernel
theorem dX12_init_529 : decode cX12_init 529 = .ok (.newarray .int, 2) := by decide +kernel
theorem dX12_init_531 : decode cX12_init 531 = .ok (.putfield 199, 3) := by decide +kernel
theorem dX12_init_534 : decode cX12_init 534 = .ok (.aload_n 0, 1) := by decide +kernel
theorem dX12_init_535 : decode cX12_init 535 = .ok (.bipush 30, 2) := by decide +kernel
theorem dX12_init_537 : decode cX12_init 537 = .ok (.newarray .int, 2) := by decide +kernel
theorem dX12_init_539 : decode cX12_init 539 = .ok (.putfield 202, 3) := by decide +kernel
theorem dX12_init_542 : decode cX12_init 542 = .ok (.aload_n 0, 1) := by decide +kernel
theorem dX12_init_543 : decode cX12_init 543 = .ok (.bipush 12, 2) := by decide +kernel
theorem dX12_init_545 : decode cX12_init 545 = .ok (.newarray .int, 2) := by decide +kernel
theorem dX12_init_547 : decode cX12_init 547 = .ok (.putfield 205, 3) := by decide +kernel
theorem dX12_init_550 : decode cX12_init 550 = .ok (.aload_n 0, 1) := by decide +kernel
theorem dX12_init_551 : decode cX12_init 551 = .ok (.iconst 3, 1) := by decide +kernel
theorem dX12_init_552 : decode cX12_init 552 = .ok (.newarray .int, 2) := by decide +kernel
theorem dX12_init_554 : decode cX12_init 554 = .ok (.putfield 208, 3) := by decide +kernel
theorem dX12_init_557 : decode cX12_init 557 = .ok (.aload_n 0, 1) := by decide +kernel
theorem dX12_init_558 : decode cX12_init 558 = .ok (.iconst 3, 1) := by decide +kernel
theorem dX12_init_559 : decode cX12_init 559 = .ok (.newarray .int, 2) := by decide +kernel
theorem dX12_init_561 : decode cX12_init 561 = .ok (.putfield 211, 3) := by decide +kernel
theorem dX12_init_564 : decode cX12_init 564 = .ok (.aload_n 0, 1) := by decide +kernel
theorem dX12_init_565 : decode cX12_init 565 = .ok (.sipush 150, 3) := by decide +kernel
theorem dX12_init_568 : decode cX12_init 568 = .ok (.newarray .int, 2) := by decide +kernel
theorem dX12_init_570 : decode cX12_init 570 = .ok (.putfield 214, 3) := by decide +kernel
theorem dX12_init_573 : decode cX12_init 573 = .ok (.iconst 0, 1) := by decide +kernel
theorem dX12_init_574 : decode cX12_init 574 = .ok (.istore_n 1, 1) := by decide +kernel
theorem dX12_init_575 : decode cX12_init 575 = .ok (.iload_n 1, 1) := by decide +kernel
theorem dX12_init_576 : decode cX12_init 576 = .ok (.bipush 30, 2) := by decide +kernel
theorem dX12_init_578 : decode cX12_init 578 = .ok (.if_icmp .ge 51, 3) := by decide +kernel
theorem dX12_init_581 : decode cX12_init 581 = .ok (.aload_n 0, 1) := by decide +kernel
theorem dX12_init_582 : decode cX12_init 582 = .ok (.getfield 19, 3) := by decide +kernel
theorem dX12_init_585 : decode cX12_init 585 = .ok (.iload_n 1, 1) := by decide +kernel
theorem dX12_init_586 : decode cX12_init 586 = .ok (.iconst (-1), 1) := by decide +kernel
theorem dX12_init_587 : decode cX12_init 587 = .ok (.iastore, 1) := by decide +kernel
theorem dX12_init_588 : decode cX12_init 588 = .ok (.aload_n 0, 1) := by decide +kernel
theorem dX12_init_589 : decode cX12_init 589 = .ok (.getfield 22, 3) := by decide +kernel
theorem dX12_init_592 : decode cX12_init 592 = .ok (.iload_n 1, 1) := by decide +kernel
theorem dX12_init_593 : decode cX12_init 593 = .ok (.iconst (-1), 1) := by decide +kernel
theorem dX12_init_594 : decode cX12_init 594 = .ok (.iastore, 1) := by decide +kernel
theorem dX12_init_595 : decode cX12_init 595 = .ok (.aload_n 0, 1) := by decide +kernel
theorem dX12_init_596 : decode cX12_init 596 = .ok (.getfield 25, 3) := by decide +kernel
theorem dX12_init_599 : decode cX12_init 599 = .ok (.iload_n 1, 1) := by decide +kernel
theorem dX12_init_600 : decode cX12_init 600 = .ok (.iconst (-1), 1) := by decide +kernel
theorem dX12_init_601 : decode cX12_init 601 = .ok (.iastore, 1) := by decide +kernel
theorem dX12_init_602 : decode cX12_init 602 = .ok (.aload_n 0, 1) := by decide +kernel
theorem dX12_init_603 : decode cX12_init 603 = .ok (.getfield 28, 3) := by decide +kernel
theorem dX12_init_606 : decode cX12_init 606 = .ok (.iload_n 1, 1) := by decide +kernel
theorem dX12_init_607 : decode cX12_init 607 = .ok (.iconst (-1), 1) := by decide +kernel
theorem dX12_init_608 : decode cX12_init 608 = .ok (.iastore, 1) := by decide +kernel
theorem dX12_init_609 : decode cX12_init 609 = .ok (.aload_n 0, 1) := by decide +kernel
theorem dX12_init_610 : decode cX12_init 610 = .ok (.getfield 31, 3) := by decide +kernel
theorem dX12_init_613 : decode cX12_init 613 = .ok (.iload_n 1, 1) := by decide +kernel
theorem dX12_init_614 : decode cX12_init 614 = .ok (.iconst (-1), 1) := by decide +kernel
theorem dX12_init_615 : decode cX12_init 615 = .ok (.iastore, 1) := by decide +kernel
theorem dX12_init_616 : decode cX12_init 616 = .ok (.aload_n 0, 1) := by decide +kernel
theorem dX12_init_617 : decode cX12_init 617 = .ok (.getfield 154, 3) := by decide +kernel
theorem dX12_init_620 : decode cX12_init 620 = .ok (.iload_n 1, 1) := by decide +kernel
theorem dX12_init_621 : decode cX12_init 621 = .ok (.iconst (-1), 1) := by decide +kernel
theorem dX12_init_622 : decode cX12_init 622 = .ok (.iastore, 1) := by decide +kernel
theorem dX12_init_623 : decode cX12_init 623 = .ok (.iinc 1 1, 3) := by decide +kernel
theorem dX12_init_626 : decode cX12_init 626 = .ok (.goto (-51), 3) := by decide +kernel
theorem dX12_init_629 : decode cX12_init 629 = .ok (.iconst 0, 1) := by decide +kernel
theorem dX12_init_630 : decode cX12_init 630 = .ok (.istore_n 1, 1) := by decide +kernel
theorem dX12_init_631 : decode cX12_init 631 = .ok (.iload_n 1, 1) := by decide +kernel
theorem dX12_init_632 : decode cX12_init 632 = .ok (.sipush 1120, 3) := by decide +kernel
theorem dX12_init_635 : decode cX12_init 635 = .ok (.if_icmp .ge 16, 3) := by decide +kernel
theorem dX12_init_638 : decode cX12_init 638 = .ok (.aload_n 0, 1) := by decide +kernel
theorem dX12_init_639 : decode cX12_init 639 = .ok (.getfield 109, 3) := by decide +kernel
theorem dX12_init_642 : decode cX12_init 642 = .ok (.iload_n 1, 1) := by decide +kernel
theorem dX12_init_643 : decode cX12_init 643 = .ok (.iconst (-1), 1) := by decide +kernel
theorem dX12_init_644 : decode cX12_init 644 = .ok (.iastore, 1) := by decide +kernel
theorem dX12_init_645 : decode cX12_init 645 = .ok (.iinc 1 1, 3) := by decide +kernel
theorem dX12_init_648 : decode cX12_init 648 = .ok (.goto (-17), 3) := by decide +kernel
theorem dX12_init_651 : decode cX12_init 651 = .ok (.iconst 0, 1) := by decide +kernel
theorem dX12_init_652 : decode cX12_init 652 = .ok (.istore_n 1, 1) := by decide +kernel
theorem dX12_init_653 : decode cX12_init 653 = .ok (.iload_n 1, 1) := by decide +kernel
theorem dX12_init_654 : decode cX12_init 654 = .ok (.sipush 150, 3) := by decide +kernel
theorem dX12_init_657 : decode cX12_init 657 = .ok (.if_icmp .ge 16, 3) := by decide +kernel
theorem dX12_init_660 : decode cX12_init 660 = .ok (.aload_n 0, 1) := by decide +kernel
theorem dX12_init_661 : decode cX12_init 661 = .ok (.getfield 142, 3) := by decide +kernel
theorem dX12_init_664 : decode cX12_init 664 = .ok (.iload_n 1, 1) := by decide +kernel
theorem dX12_init_665 : decode cX12_init 665 = .ok (.iconst (-1), 1) := by decide +kernel
theorem dX12_init_666 : decode cX12_init 666 = .ok (.iastore, 1) := by decide +kernel
theorem dX12_init_667 : decode cX12_init 667 = .ok (.iinc 1 1, 3) := by decide +kernel
theorem dX12_init_670 : decode cX12_init 670 = .ok (.goto (-17), 3) := by decide +kernel
theorem dX12_init_673 : decode cX12_init 673 = .ok (.iconst 0, 1) := by decide +kernel
theorem dX12_init_674 : decode cX12_init 674 = .ok (.istore_n 1, 1) := by decide +kernel
theorem dX12_init_675 : decode cX12_init 675 = .ok (.iload_n 1, 1) := by decide +kernel
theorem dX12_init_676 : decode cX12_init 676 = .ok (.iconst 4, 1) := by decide +kernel
theorem dX12_init_677 : decode cX12_init 677 = .ok (.if_icmp .ge 24, 3) := by decide +kernel
theorem dX12_init_680 : decode cX12_init 680 = .ok (.aload_n 0, 1) := by decide +kernel
theorem dX12_init_681 : decode cX12_init 681 = .ok (.getfield 157, 3) := by decide +kernel
theorem dX12_init_684 : decode cX12_init 684 = .ok (.iload_n 1, 1) := by decide +kernel
theorem dX12_init_685 : decode cX12_init 685 = .ok (.bipush 10, 2) := by decide +kernel
theorem dX12_init_687 : decode cX12_init 687 = .ok (.iastore, 1) := by decide +kernel
theorem dX12_init_688 : decode cX12_init 688 = .ok (.aload_n 0, 1) := by decide +kernel
theorem dX12_init_689 : decode cX12_init 689 = .ok (.getfield 160, 3) := by decide +kernel
theorem dX12_init_692 : decode cX12_init 692 = .ok (.iload_n 1, 1) := by decide +kernel
theorem dX12_init_693 : decode cX12_init 693 = .ok (.iconst 1, 1) := by decide +kernel
theorem dX12_init_694 : decode cX12_init 694 = .ok (.iastore, 1) := by decide +kernel
theorem dX12_init_695 : decode cX12_init 695 = .ok (.iinc 1 1, 3) := by decide +kernel
theorem dX12_init_698 : decode cX12_init 698 = .ok (.goto (-23), 3) := by decide +kernel
theorem dX12_init_701 : decode cX12_init 701 = .ok (.aload_n 0, 1) := by decide +kernel
theorem dX12_init_702 : decode cX12_init 702 = .ok (.iconst 1, 1) := by decide +kernel
theorem dX12_init_703 : decode cX12_init 703 = .ok (.putfield 217, 3) := by decide +kernel
theorem dX12_init_706 : decode cX12_init 706 = .ok (.aload_n 0, 1) := by decide +kernel
theorem dX12_init_707 : decode cX12_init 707 = .ok (.sipush 1000, 3) := by decide +kernel
theorem dX12_init_710 : decode cX12_init 710 = .ok (.putfield 221, 3) := by decide +kernel
theorem dX12_init_713 : decode cX12_init 713 = .ok (.aload_n 0, 1) := by decide +kernel
theorem dX12_init_714 : decode cX12_init 714 = .ok (.invokevirtual 224, 3) := by decide +kernel
theorem dX12_init_717 : decode cX12_init 717 = .ok (.return_, 1) := by decide +kernel
/-! THE REFERENCE'S CONSTRUCTOR: its arrays one by one, then its loops -/
def mB (D : mD) (mb k : Nat) (H : Heap) : Prop := t_OB mb D.1 86 D.2.1 H (fun f => if mLen f = 0 then .int 0 else if mRk f < k then .ref (mA mb f) else .null) ∧ (∀ f, mLen f ≠ 0 → mRk f < k → H[mA mb f]? = some (vp_cell D.2.2 (mLen f, .inl (fun _ => 0)))) ∧ H.size = mb + 1 + k
def mKi (D : mD) (U : State) : Prop := mK D U ∧ U.vm.findClass ("[" ++ FieldType.int.toString) = some D.2.2
theorem mKi.moved {D : mD} {u U : State} (hvm : u.vm.Alike U.vm) (h : mKi D u) : mKi D U := ⟨h.1.moved hvm, by rw [hvm.findClass]; exact h.2⟩
def mG (mb : Nat) (H0 H : Heap) (locs : List Loc) : Prop := va_S (mReg mb) H0 H locs ∧ H.size = mb + 70
theorem mG.put {mb a k : Nat} {H0 H H1 : Heap} {locs : List Loc} (h : mG mb H0 H locs) (z : H1.size = H.size) (oq : ∀ q : Nat, q ≠ a → H1[q]? = H[q]?) (ha : mReg mb a) : mG mb H0 H1 (locs ++ [⟨a, k⟩]) := ⟨h.1.put z oq ha, z.trans h.2⟩
def mZero : mS := (fun _ _ => 0, fun _ => 0)
theorem mB.all {D : mD} {mb : Nat} {H : Heap} (h : mB D mb 69 H) : mP D mb mZero H := by
  obtain ⟨h1, h2, h3⟩ := h
  refine ⟨t_OB.to h1 (fun f hf => ?_), fun f hf => h2 f hf (mRk_lt f (mLen_lt hf))⟩
  unfold mV
  by_cases h0 : mLen f = 0
  · simp only [if_pos h0]
    rfl
  · simp only [if_neg h0, if_pos (mRk_lt f hf)]
theorem m_fin : ∀ f, f < 86 → mLen f ≠ 0 → ((TX12 f).2.2.2 = true ∧ parseFieldDescriptor (TX12 f).2.2.1 = some (.array .int)) := by decide +kernel
section MI
variable {p : Program} {l : Launch} {e : Env} {R : Room} {s : State} {m : MethodId} {args : Array Value} {below : List Frame} {meth : Method} {c : Code} {H : Heap} {locs : List Loc} {cells slots : Nat} {Q : State → Prop} {cc : ByteArray} {pc : Nat} {ls : Array Slot} {rest : List Value} {D : mD} {mb nL : Nat} {σ : mS} {ret : Option FieldType}
theorem m_mk (X : mX p s m args meth c cc nL ret D) (hfc9 : s.vm.findClass ("[" ++ FieldType.int.toString) = some D.2.2) (hin2 : meth.name = "<init>") {k : Nat} (hB : mB D mb k H) (hS : va_S (mReg mb) s.heap H locs) (f : Nat) (hf : f < 86) (hr : mRk f = k) {N : Nat} {n : Int32} (hlen : mLen f = N) (h0 : N ≠ 0) (hw : Cond.arrayClass .int ∈ BG) (hn : ¬ n < 0) (hN : n.toNatClampNeg = N) (hbytes : N * 4 ≤ 536870912) (hcells : cells + 1 ≤ R.cells) (hslots : slots + N ≤ R.slots) {idx : Nat} (hlink : Cond.fieldLink RX12 idx RX12 (TX12 f).2.1 (TX12 f).2.2.1 ∈ BG) (hdn : decode cc pc = .ok (.newarray .int, 2)) (hdp : decode cc (pc + 2) = .ok (.putfield idx, 3))
    (kk : ∀ (H1 : Heap) (locs1 : List Loc), mB D mb (k + 1) H1 → va_S (mReg mb) s.heap H1 locs1 → W p l e R s m args below meth c H1 locs1 (cells + 1) (slots + N) Q (F0 m (pc + 2 + 3) ls rest)) : W p l e R s m args below meth c H locs cells slots Q (F0 m pc ls (.int n :: .ref mb :: rest)) := by
  obtain ⟨hx, hb, -, hown, hts, ⟨hKn, -⟩, -⟩ := X
  have hf0 : mLen f ≠ 0 := by rw [hlen]; exact h0
  obtain ⟨hfin, hty⟩ := m_fin f hf hf0
  have hK' : va_K (fun _ => D.1, fun _ => D.2.1) [(RX12, TX12, 86)] [] s := ⟨fun c q hq => by
    cases c with
    | zero => cases hq; exact hKn
    | succ c => simp at hq, fun k q hk => by simp at hk⟩
  have hap := va_apart (own := RX12) (ci := 0) hts m_in12 tyX12 tyX12_ok nmX12 hK' rfl
  refine va_newaK (atype := .int) hx hb (hts _ hw) rfl hdn rfl hn hN hbytes hcells hslots rfl fun H1 cA e1 z1 o1 hAr hNm => ?_
  have hcA : cA = D.2.2 := Option.some.inj (hNm.symm.trans hfc9)
  subst hcA
  obtain ⟨hS', hfc, kC, hkC, hkind⟩ := hKn
  obtain ⟨⟨cell, q1, q2, q3, q4⟩, hA, hz⟩ := hB
  obtain ⟨cf, kf, fi, f', hi, hsl⟩ := hS' f hf
  have hlay := hts _ (m_in12 _ (u_in_lay hf))
  unfold u_lay at hlay
  rw [if_pos hfin] at hlay
  have hst := (u_facts hfc hkC (u_lays hts m_in12 hf) hi).1
  have hi' : s.fieldFound? RX12 (TX12 f).2.1 (TX12 f).2.2.1 = some (cf, kf, fi, f') := by
    rw [m_own f hf] at hi
    exact hi
  have hcf : m.cls = cf := by
    obtain ⟨_, _, c', _, _, _, -, -, hf', -, -, -, hown2, -⟩ := Cond.laysFinal_spec hlay
    have e1 : c' = cf := by have := hi.symm.trans hf'; simp at this; exact this.1.symm
    rw [m_own f hf] at hown2
    rw [← e1]; exact Option.some.inj (hown.symm.trans hown2)
  have h6 := u_fits hfc hkC hkind (Or.inr hlay) hi hty (v := .ref H.size) rfl rfl
  have hmb : mb < H.size := by omega
  have q1' : H1[mb]? = some cell := (o1 _ hmb).trans q1
  refine W.putFinK hx hb hown (hts _ hlink) hi' hst hcf hin2 (by rw [q2]; exact h6) q1' q3 (by rw [hsl]; exact k2_hasslot (q4 f hf)) rfl rfl hdp fun H' e1' e2 e3 => ?_
  rw [hsl] at e1' ⊢
  have ea : mA mb f = H.size := by unfold mA; omega
  refine kk H' _ ⟨?_, fun g hg hgk => ?_, by omega⟩ ?_
  · refine t_OB.to (V := updV (fun f => if mLen f = 0 then .int 0 else if mRk f < k then .ref (mA mb f) else .null) f (.ref H.size)) ⟨_, e1', q2, q3, t_set q4 hap hf (.ref H.size)⟩ (fun j hj => ?_)
    by_cases hjf : j = f
    · subst hjf
      simp only [updV, if_pos, if_neg hf0, hr, ea]
      simp
    · have hne := mRk_ne j hj f hf
      simp only [updV, if_neg hjf]
      by_cases h0j : mLen j = 0
      · simp only [if_pos h0j]
      · simp only [if_neg h0j]
        have hne2 : mRk j ≠ k := by
          rcases hne with z | z | z | z
          · exact absurd z h0j
          · exact absurd z hf0
          · exact absurd z hjf
          · rw [hr] at z; exact z
        by_cases hlt : mRk j < k
        · rw [if_pos hlt, if_pos (Nat.lt_succ_of_lt hlt)]
        · rw [if_neg hlt, if_neg (by omega)]
  · rw [e3 _ mA_mb]
    by_cases hgf : g = f
    · subst hgf
      rw [ea, e1, hlen]
      rfl
    · have hlt : mRk g < k := by
        rcases mRk_ne g (mLen_lt hg) f hf with z | z | z | z
        · exact absurd z hg
        · exact absurd z hf0
        · exact absurd z hgf
        · omega
      rw [o1 _ (by unfold mA; omega)]
      exact hA g hg hlt
  · have hS1 : va_S (mReg mb) s.heap H1 locs := ⟨Nat.le_trans hS.1 (by omega), fun x h1 h2 => (o1 x (Nat.lt_of_lt_of_le h1 hS.1)).trans (hS.2.1 x h1 h2), hS.2.2⟩
    exact hS1.put e2 e3 (by unfold mReg; omega)
theorem m_putI (X : mX p s m args meth c cc nL ret D) (hP : mP D mb σ H) (hF : mG mb s.heap H locs) (f : Nat) (hf : f < 86) (h0 : mLen f = 0) (hfin : (TX12 f).2.2.2 = false) (hty : parseFieldDescriptor (TX12 f).2.2.1 = some .int) {idx : Nat} {x : Int32} (hlink : Cond.fieldLink RX12 idx RX12 (TX12 f).2.1 (TX12 f).2.2.1 ∈ BG) (hdg : decode cc pc = .ok (.putfield idx, 3))
    (kk : ∀ (H1 : Heap) (locs1 : List Loc), mP D mb (sf σ f x) H1 → mG mb s.heap H1 locs1 → W p l e R s m args below meth c H1 locs1 cells slots Q (F0 m (pc + 3) ls rest)) : W p l e R s m args below meth c H locs cells slots Q (F0 m pc ls (.int x :: .ref mb :: rest)) := by
  obtain ⟨hx, hb, -, hown, hts, ⟨hKn, -⟩, -⟩ := X
  have hK' : va_K (fun _ => D.1, fun _ => D.2.1) [(RX12, TX12, 86)] [] s := ⟨fun c q hq => by
    cases c with
    | zero => cases hq; exact hKn
    | succ c => simp at hq, fun k q hk => by simp at hk⟩
  have hap := va_apart (own := RX12) (ci := 0) hts m_in12 tyX12 tyX12_ok nmX12 hK' rfl
  obtain ⟨hS, hfc, kC, hkC, hkind⟩ := hKn
  obtain ⟨⟨cell, q1, q2, q3, q4⟩, hA⟩ := hP
  obtain ⟨cf, kf, fi, f', hi, hsl⟩ := hS f hf
  have hlay := hts _ (m_in12 _ (u_in_lay hf))
  unfold u_lay at hlay
  rw [if_neg (by rw [hfin]; decide)] at hlay
  have hst := (u_facts hfc hkC (u_lays hts m_in12 hf) hi).1
  have h6 := u_store hfc hkC hkind hlay hi hty (v := .int x) rfl rfl
  refine W.putK hx hb (f := f') ⟨hown, hts _ hlink, ⟨_, _, _, by rw [m_own f hf] at hi; exact hi⟩, hst⟩ (by rw [q2]; exact h6) q1 q3 (by rw [hsl]; exact k2_hasslot (q4 f hf)) rfl rfl hdg fun H' e1 e2 e3 => ?_
  rw [hsl] at e1 ⊢
  refine kk H' _ ⟨t_OB.to (V := updV (mV mb σ) f (.int x)) ⟨_, e1, q2, q3, t_set q4 hap hf (.int x)⟩ (fun j _ => ?_), fun g hg => ?_⟩ (hF.put e2 e3 (by unfold mReg; omega))
  · by_cases hj : j = f
    · subst hj
      simp [updV, mV, h0, sf, upd]
    · simp [updV, mV, sf, upd, hj]
  · rw [e3 _ mA_mb]
    exact hA g hg
theorem m_astI (X : mX p s m args meth c cc nL ret D) (hP : mP D mb σ H) (hF : mG mb s.heap H locs) {f : Nat} {i x : Int32} {σ' : mS} (h : wr σ f i x = some σ') (hdg : decode cc pc = .ok (.iastore, 1))
    (kk : ∀ (H1 : Heap) (locs1 : List Loc), mP D mb σ' H1 → mG mb s.heap H1 locs1 → W p l e R s m args below meth c H1 locs1 cells slots Q (F0 m (pc + 1) ls rest)) : W p l e R s m args below meth c H locs cells slots Q (F0 m pc ls (.int x :: .int i :: .ref (mA mb f) :: rest)) := by
  obtain ⟨hin, hv⟩ := wr_spec h
  have hlt : i.toNatClampNeg < mLen f := Nat.not_le.mp fun q => hin (Or.inr q)
  have hne : mLen f ≠ 0 := by omega
  subst hv
  refine W.iast X.1 X.2.1 (hP.2 f hne) (X.2.2.2.2.2.1.2 (mLen f) (fun j => .int (σ.1 f j))) (fun q => by cases q) (by show ¬ (i < 0 ∨ (arrV _ _ _).slots.size ≤ _); rw [arrV_size]; exact hin) rfl rfl hdg fun H1 e z oq => ?_
  refine kk H1 _ ⟨?_, fun g hg => ?_⟩ (hF.put z oq (mA_reg hne))
  · refine t_OB.to (V := mV mb σ) (hP.1.kept (oq mb (fun z => mA_mb z.symm))) (fun j _ => rfl)
  · by_cases hgf : g = f
    · subst hgf
      dsimp only
      rw [if_pos rfl]
      rw [e]
      rw [vp_cell_i, vp_cell_i, arrV_store]
      congr 2
      funext q
      by_cases hq : q = i.toNatClampNeg
      · subst hq
        simp [updV, upd]
      · simp [updV, upd, hq]
    · dsimp only
      rw [if_neg hgf, oq _ (mA_ne hne hg hgf)]
      exact hP.2 g hg
theorem m_runI {y : MethodName} {cy : ByteArray} {maxL : Nat} {rt : Option FieldType} {fr lo fR mC mS9 lR idx n : Nat} {Qc : Array Value → State → Outcome → State → Prop} {free : Addr → Prop} {As st0 : List Value} (X : mX p s m args meth c cc nL ret D) (hM : Met l y (Cond.code y cy maxL rt :: BG) (rM fr lo) (mPc D mb σ As) Qc 0 0 free)
    (hw : Cond.methodLink RX12 idx y ∈ BG ∧ Cond.instanceMethod y ∈ BG ∧ Cond.selects RX12 y y ∈ BG ∧ Cond.code y cy maxL rt ∈ BG)
    (hy : y.cls = RX12 ∧ y.cls ≠ "java/lang/invoke/MethodHandle" ∧ y.cls ≠ "java/lang/invoke/VarHandle" ∧ (parseMethodDescriptor y.desc).map (fun d => d.parameters.length) = some n) (hn : As.length = n)
    (hr : fr + 1 ≤ fR ∧ 8 + (maxL + 11) + lo ≤ lR) (hP : mP D mb σ H) (hl : ls.size = nL) (hW : (rest.map fun v => v.category).sum ≤ 8) (hdg : decode cc pc = .ok (.invokevirtual idx, 3)) (hst : st0 = As.reverse ++ .ref mb :: rest) (hf : cells + 0 ≤ mC ∧ slots + 0 ≤ mS9) :
    va_Run p l e (rA fR mC mS9 lR) s m args below meth c H locs cells slots 0 0 (F0 m pc ls st0) rest (Qc (Value.ref mb :: As).toArray) free := by
  obtain ⟨hx, hb, hml, hown, hts, hK, -⟩ := X
  subst hst
  have hG : GoodIn BG (wsV RX12 idx RX12 y (Cond.code y cy maxL rt :: BG)) := bg_all (fun w h => by
    rcases List.mem_append.mp h with h | h
    · rcases List.mem_cons.mp h with rfl | h
      · exact hw.1
      · rcases List.mem_cons.mp h with rfl | h
        · exact hw.2.1
        · rcases List.mem_cons.mp h with rfl | h
          · exact hw.2.2.1
          · rw [List.mem_singleton.mp h]
            exact w_154
    · rcases List.mem_cons.mp h with rfl | h
      · exact hw.2.2.2
      · exact h)
  have hrec : ∃ cellB : Cell, H[mb]? = some cellB ∧ cellB.vm.isStatics = false ∧ s.vm.findClass RX12 = some cellB.cls := by
    obtain ⟨⟨cell, q1, q2, q3, -⟩, -⟩ := hP
    exact ⟨cell, q1, by rw [q3]; rfl, by rw [q2]; exact hK.1.2.1⟩
  exact va_runV (As := As) (rest := rest) (C := RX12) (n := n) ⟨hx, hb, hml, hown, hts⟩ hM (cwV n hts hG rfl rfl rfl hy hr) ⟨m_blind, hrec, fun U hU hW => ⟨rfl, by rw [hU]; exact hP, mK.moved hW.alike hK⟩⟩ rfl hn hl rfl (lv_room hW) hdg hf
theorem m_cvI {σ' : mS} {st0 : List Value} {a : Array Value} (hr : va_Run p l e R s m args below meth c H locs cells slots 0 0 (F0 m pc ls st0) rest (mQw D mb σ' none a) (mReg mb)) (hF : mG mb s.heap H locs)
    (kk : ∀ (H1 : Heap) (locs1 : List Loc), mP D mb σ' H1 → mG mb s.heap H1 locs1 → W p l e R s m args below meth c H1 locs1 cells slots Q (F0 m (pc + 3) ls rest)) : W p l e R s m args below meth c H locs cells slots Q (F0 m pc ls st0) := by
  intro T hT X
  obtain ⟨v, st₀, t, T', L, h0, X', hL, e1, e2, ⟨hv, hp, hz, hk⟩, st⟩ := hr T hT X
  cases hv
  rw [h0] at hz hk
  obtain ⟨t2, a1, b1⟩ := kk T'.heap (locs ++ L) (by rw [e1]; exact hp) ⟨⟨by rw [e1, hz]; exact hF.1.1, fun q h1 h2 => by rw [e1, hk q h2]; exact hF.1.2.1 q h1 h2, fun q hq => (List.mem_append.mp hq).elim (hF.1.2.2 q) (fun h => hL q h)⟩, by rw [e1, hz]; exact hF.2⟩ T' rfl X'
  exact ⟨t2, st t2 a1, b1⟩
def mQi (D : mD) (mb : Nat) (σ : mS) : Array Value → State → Outcome → State → Prop := fun _ st o t => o = .returned none ∧ mP D mb σ t.heap ∧ va_F (mReg mb) st t ∧ t.heap.size = mb + 70
abbrev mWi (p : Program) (l : Launch) (e : Env) (fr lo : Nat) (s : State) (m : MethodId) (args : Array Value) (below : List Frame) (meth : Method) (c : Code) (D : mD) (mb : Nat) (σ : mS) (H : Heap) (locs : List Loc) (g : JFrame) : Prop :=
  W p l e (rA fr 69 14325 lo) s m args below meth c H locs 69 14325 (MQ below (mQi D mb σ) args s 69 14325 (mReg mb)) g
theorem m_wvI {fr lo : Nat} (X : mX p s m args meth c cc nL none D) (hP : mP D mb σ H) (hF : mG mb s.heap H locs) (hdg : decode cc pc = .ok (.return_, 1)) : mWi p l e fr lo s m args below meth c D mb σ H locs (F0 m pc ls []) :=
  W.vret X.1 X.2.1 X.2.2.2.2.2.2.1 (fun t ht _ => ⟨rfl, by rw [ht]; exact hP, hF.1.F ht, by rw [ht]; exact hF.2⟩) hF.1.2.2 hdg X.2.2.2.2.2.2.2
end MI
def f_init_675  : Nat → Int32 → mS → Option (mS)
  | 0, _, _ => none
  | n + 1, x1, σ => if (4:Int32) ≤ x1 then ((f_draft  (sf (sf σ 13 (1:Int32)) 50 (1000:Int32))).bind (fun v1 => some v1)) else ((wr σ 60 x1 (10:Int32)).bind (fun s2 => (wr s2 61 x1 (1:Int32)).bind (fun s3 => f_init_675 n ((x1 + (1:Int32))) s3)))
def f_init_653  : Nat → Int32 → mS → Option (mS)
  | 0, _, _ => none
  | n + 1, x1, σ => if (150:Int32) ≤ x1 then (f_init_675 4000 ((0:Int32)) σ) else ((wr σ 55 x1 ((-1):Int32)).bind (fun s1 => f_init_653 n ((x1 + (1:Int32))) s1))
def f_init_631  : Nat → Int32 → mS → Option (mS)
  | 0, _, _ => none
  | n + 1, x1, σ => if (1120:Int32) ≤ x1 then (f_init_653 4000 ((0:Int32)) σ) else ((wr σ 37 x1 ((-1):Int32)).bind (fun s1 => f_init_631 n ((x1 + (1:Int32))) s1))
def f_init_575  : Nat → Int32 → mS → Option (mS)
  | 0, _, _ => none
  | n + 1, x1, σ => if (30:Int32) ≤ x1 then (f_init_631 4000 ((0:Int32)) σ) else ((wr σ 3 x1 ((-1):Int32)).bind (fun s1 => (wr s1 4 x1 ((-1):Int32)).bind (fun s2 => (wr s2 5 x1 ((-1):Int32)).bind (fun s3 => (wr s3 6 x1 ((-1):Int32)).bind (fun s4 => (wr s4 7 x1 ((-1):Int32)).bind (fun s5 => (wr s5 59 x1 ((-1):Int32)).bind (fun s6 => f_init_575 n ((x1 + (1:Int32))) s6)))))))
def f_init_at (σ : mS) : Option mS := f_init_575 4000 ((0:Int32)) σ
def f_X12_init : Option mS := f_init_at mZero
set_option maxRecDepth 20000 in
set_option maxHeartbeats 4000000 in
theorem N_init_675 {p : Program} {l : Launch} {e : Env} {s : State} {m : MethodId} {args : Array Value} {below : List Frame} {meth : Method} {c : Code} {D : mD} {mb : Nat}  {n : Nat} {x1 : Int32} {σ : mS} {H : Heap} {locs : List Loc} {ls : Array Slot} {q : mS} (X : mX p s m args meth c cX12_init 2 none D) (hP : mP D mb σ H) (hF : mG mb s.heap H locs)  (hl : lv_has ls 2 [(0, .ref mb), (1, .int x1)]) (h : f_init_675  n x1 σ = some q) : mWi p l e 2 30 s m args below meth c D mb q H locs (F0 m 675 ls []) := by
  have hx := X.1
  have hb := X.2.1
  have hown := X.2.2.2.1
  have hts := X.2.2.2.2.1
  induction n generalizing x1 σ H locs ls with
  | zero => exact absurd (show none = some q from h) (by simp)
  | succ n ih =>
    have h : (if (4:Int32) ≤ x1 then ((f_draft  (sf (sf σ 13 (1:Int32)) 50 (1000:Int32))).bind (fun v1 => some v1)) else ((wr σ 60 x1 (10:Int32)).bind (fun s2 => (wr s2 61 x1 (1:Int32)).bind (fun s3 => f_init_675 n ((x1 + (1:Int32))) s3)))) = some q := h
    refine lv_iload_n hx hb dX12_init_675 rfl (lv_at hl 1 rfl) ?_
    refine lv_iconst (v := (4:Int32)) hx hb dX12_init_676 (by decide) ?_
    refine lv_icmp_ge (tgt := 701) hx hb dX12_init_677 rfl (fun hc => ?_) (fun hc => ?_)
    · have h := ip hc h
      refine lv_aload_n hx hb dX12_init_701 rfl (lv_at hl 0 rfl) ?_
      refine lv_iconst (v := (1:Int32)) hx hb dX12_init_702 (by decide) ?_
      refine m_putI X hP hF 13 (Nat.le_of_ble_eq_true rfl) rfl rfl (by decide +kernel) w_1592 dX12_init_703 (fun H locs hP hF => ?_)
      refine lv_aload_n hx hb dX12_init_706 rfl (lv_at hl 0 rfl) ?_
      refine lv_sipush (v := (1000:Int32)) hx hb dX12_init_707 (by decide) ?_
      refine m_putI X hP hF 50 (Nat.le_of_ble_eq_true rfl) rfl rfl (by decide +kernel) w_1629 dX12_init_710 (fun H locs hP hF => ?_)
      refine lv_aload_n hx hb dX12_init_713 rfl (lv_at hl 0 rfl) ?_
      obtain ⟨v1, hv1, h⟩ := ob h
      refine m_cvI (m_runI (n := 0) X (K_draft l D mb _ hv1) ⟨w_1575, w_1577, w_56, w_1578⟩ (hyX rfl (by decide +kernel)) rfl ⟨Nat.le_of_ble_eq_true rfl, Nat.le_of_ble_eq_true rfl⟩ hP hl.1 (Nat.le_of_ble_eq_true rfl) dX12_init_714 rfl ⟨Nat.le_refl _, Nat.le_refl _⟩) hF (fun H locs hP hF => ?_)
      obtain rfl := sj h
      exact m_wvI X hP hF dX12_init_717
    · have h := ine hc h
      refine lv_aload_n hx hb dX12_init_680 rfl (lv_at hl 0 rfl) ?_
      refine mg_al X hP dX12_init_681 ?_
      refine lv_iload_n hx hb dX12_init_684 rfl (lv_at hl 1 rfl) ?_
      refine lv_bipush (v := (10:Int32)) hx hb dX12_init_685 (by decide) ?_
      obtain ⟨s2, hs2, h⟩ := ob h
      refine m_astI X hP hF hs2 dX12_init_687 (fun H locs hP hF => ?_)
      refine lv_aload_n hx hb dX12_init_688 rfl (lv_at hl 0 rfl) ?_
      refine mg_ar X hP dX12_init_689 ?_
      refine lv_iload_n hx hb dX12_init_692 rfl (lv_at hl 1 rfl) ?_
      refine lv_iconst (v := (1:Int32)) hx hb dX12_init_693 (by decide) ?_
      obtain ⟨s3, hs3, h⟩ := ob h
      refine m_astI X hP hF hs3 dX12_init_694 (fun H locs hP hF => ?_)
      refine lv_iinc (v := (x1 + (1:Int32))) hx hb dX12_init_695 hl (k := 1) rfl rfl (Nat.le_of_ble_eq_true rfl) rfl (fun ls (hl : lv_has ls 2 [(1, .int (x1 + (1:Int32))), (0, .ref mb)]) => ?_)
      refine lv_goto (tgt := 675) hx hb dX12_init_698 rfl ?_
      exact ih hP hF (lv_sub hl [1, 0] rfl) h
set_option maxRecDepth 20000 in
set_option maxHeartbeats 4000000 in
theorem N_init_653 {p : Program} {l : Launch} {e : Env} {s : State} {m : MethodId} {args : Array Value} {below : List Frame} {meth : Method} {c : Code} {D : mD} {mb : Nat}  {n : Nat} {x1 : Int32} {σ : mS} {H : Heap} {locs : List Loc} {ls : Array Slot} {q : mS} (X : mX p s m args meth c cX12_init 2 none D) (hP : mP D mb σ H) (hF : mG mb s.heap H locs)  (hl : lv_has ls 2 [(0, .ref mb), (1, .int x1)]) (h : f_init_653  n x1 σ = some q) : mWi p l e 2 30 s m args below meth c D mb q H locs (F0 m 653 ls []) := by
  have hx := X.1
  have hb := X.2.1
  have hown := X.2.2.2.1
  have hts := X.2.2.2.2.1
  induction n generalizing x1 σ H locs ls with
  | zero => exact absurd (show none = some q from h) (by simp)
  | succ n ih =>
    have h : (if (150:Int32) ≤ x1 then (f_init_675 4000 ((0:Int32)) σ) else ((wr σ 55 x1 ((-1):Int32)).bind (fun s1 => f_init_653 n ((x1 + (1:Int32))) s1))) = some q := h
    refine lv_iload_n hx hb dX12_init_653 rfl (lv_at hl 1 rfl) ?_
    refine lv_sipush (v := (150:Int32)) hx hb dX12_init_654 (by decide) ?_
    refine lv_icmp_ge (tgt := 673) hx hb dX12_init_657 rfl (fun hc => ?_) (fun hc => ?_)
    · have h := ip hc h
      refine lv_iconst (v := (0:Int32)) hx hb dX12_init_673 (by decide) ?_
      refine lv_istore_n hx hb dX12_init_674 rfl hl (Nat.le_of_ble_eq_true rfl) rfl (fun ls (hl : lv_has ls 2 [(1, .int (0:Int32)), (0, .ref mb)]) => ?_)
      exact N_init_675 X hP hF (lv_sub hl [1, 0] rfl) h
    · have h := ine hc h
      refine lv_aload_n hx hb dX12_init_660 rfl (lv_at hl 0 rfl) ?_
      refine mg_trs X hP dX12_init_661 ?_
      refine lv_iload_n hx hb dX12_init_664 rfl (lv_at hl 1 rfl) ?_
      refine lv_iconst (v := ((-1):Int32)) hx hb dX12_init_665 (by decide) ?_
      obtain ⟨s1, hs1, h⟩ := ob h
      refine m_astI X hP hF hs1 dX12_init_666 (fun H locs hP hF => ?_)
      refine lv_iinc (v := (x1 + (1:Int32))) hx hb dX12_init_667 hl (k := 1) rfl rfl (Nat.le_of_ble_eq_true rfl) rfl (fun ls (hl : lv_has ls 2 [(1, .int (x1 + (1:Int32))), (0, .ref mb)]) => ?_)
      refine lv_goto (tgt := 653) hx hb dX12_init_670 rfl ?_
      exact ih hP hF (lv_sub hl [1, 0] rfl) h
set_option maxRecDepth 20000 in
set_option maxHeartbeats 4000000 in
theorem N_init_631 {p : Program} {l : Launch} {e : Env} {s : State} {m : MethodId} {args : Array Value} {below : List Frame} {meth : Method} {c : Code} {D : mD} {mb : Nat}  {n : Nat} {x1 : Int32} {σ : mS} {H : Heap} {locs : List Loc} {ls : Array Slot} {q : mS} (X : mX p s m args meth c cX12_init 2 none D) (hP : mP D mb σ H) (hF : mG mb s.heap H locs)  (hl : lv_has ls 2 [(0, .ref mb), (1, .int x1)]) (h : f_init_631  n x1 σ = some q) : mWi p l e 2 30 s m args below meth c D mb q H locs (F0 m 631 ls []) := by
  have hx := X.1
  have hb := X.2.1
  have hown := X.2.2.2.1
  have hts := X.2.2.2.2.1
  induction n generalizing x1 σ H locs ls with
  | zero => exact absurd (show none = some q from h) (by simp)
  | succ n ih =>
    have h : (if (1120:Int32) ≤ x1 then (f_init_653 4000 ((0:Int32)) σ) else ((wr σ 37 x1 ((-1):Int32)).bind (fun s1 => f_init_631 n ((x1 + (1:Int32))) s1))) = some q := h
    refine lv_iload_n hx hb dX12_init_631 rfl (lv_at hl 1 rfl) ?_
    refine lv_sipush (v := (1120:Int32)) hx hb dX12_init_632 (by decide) ?_
    refine lv_icmp_ge (tgt := 651) hx hb dX12_init_635 rfl (fun hc => ?_) (fun hc => ?_)
    · have h := ip hc h
      refine lv_iconst (v := (0:Int32)) hx hb dX12_init_651 (by decide) ?_
      refine lv_istore_n hx hb dX12_init_652 rfl hl (Nat.le_of_ble_eq_true rfl) rfl (fun ls (hl : lv_has ls 2 [(1, .int (0:Int32)), (0, .ref mb)]) => ?_)
      exact N_init_653 X hP hF (lv_sub hl [1, 0] rfl) h
    · have h := ine hc h
      refine lv_aload_n hx hb dX12_init_638 rfl (lv_at hl 0 rfl) ?_
      refine mg_du X hP dX12_init_639 ?_
      refine lv_iload_n hx hb dX12_init_642 rfl (lv_at hl 1 rfl) ?_
      refine lv_iconst (v := ((-1):Int32)) hx hb dX12_init_643 (by decide) ?_
      obtain ⟨s1, hs1, h⟩ := ob h
      refine m_astI X hP hF hs1 dX12_init_644 (fun H locs hP hF => ?_)
      refine lv_iinc (v := (x1 + (1:Int32))) hx hb dX12_init_645 hl (k := 1) rfl rfl (Nat.le_of_ble_eq_true rfl) rfl (fun ls (hl : lv_has ls 2 [(1, .int (x1 + (1:Int32))), (0, .ref mb)]) => ?_)
      refine lv_goto (tgt := 631) hx hb dX12_init_648 rfl ?_
      exact ih hP hF (lv_sub hl [1, 0] rfl) h
set_option maxRecDepth 20000 in
set_option maxHeartbeats 4000000 in
theorem N_init_575 {p : Program} {l : Launch} {e : Env} {s : State} {m : MethodId} {args : Array Value} {below : List Frame} {meth : Method} {c : Code} {D : mD} {mb : Nat}  {n : Nat} {x1 : Int32} {σ : mS} {H : Heap} {locs : List Loc} {ls : Array Slot} {q : mS} (X : mX p s m args meth c cX12_init 2 none D) (hP : mP D mb σ H) (hF : mG mb s.heap H locs)  (hl : lv_has ls 2 [(0, .ref mb), (1, .int x1)]) (h : f_init_575  n x1 σ = some q) : mWi p l e 2 30 s m args below meth c D mb q H locs (F0 m 575 ls []) := by
  have hx := X.1
  have hb := X.2.1
  have hown := X.2.2.2.1
  have hts := X.2.2.2.2.1
  induction n generalizing x1 σ H locs ls with
  | zero => exact absurd (show none = some q from h) (by simp)
  | succ n ih =>
    have h : (if (30:Int32) ≤ x1 then (f_init_631 4000 ((0:Int32)) σ) else ((wr σ 3 x1 ((-1):Int32)).bind (fun s1 => (wr s1 4 x1 ((-1):Int32)).bind (fun s2 => (wr s2 5 x1 ((-1):Int32)).bind (fun s3 => (wr s3 6 x1 ((-1):Int32)).bind (fun s4 => (wr s4 7 x1 ((-1):Int32)).bind (fun s5 => (wr s5 59 x1 ((-1):Int32)).bind (fun s6 => f_init_575 n ((x1 + (1:Int32))) s6)))))))) = some q := h
    refine lv_iload_n hx hb dX12_init_575 rfl (lv_at hl 1 rfl) ?_
    refine lv_bipush (v := (30:Int32)) hx hb dX12_init_576 (by decide) ?_
    refine lv_icmp_ge (tgt := 629) hx hb dX12_init_578 rfl (fun hc => ?_) (fun hc => ?_)
    · have h := ip hc h
      refine lv_iconst (v := (0:Int32)) hx hb dX12_init_629 (by decide) ?_
      refine lv_istore_n hx hb dX12_init_630 rfl hl (Nat.le_of_ble_eq_true rfl) rfl (fun ls (hl : lv_has ls 2 [(1, .int (0:Int32)), (0, .ref mb)]) => ?_)
      exact N_init_631 X hP hF (lv_sub hl [1, 0] rfl) h
    · have h := ine hc h
      refine lv_aload_n hx hb dX12_init_581 rfl (lv_at hl 0 rfl) ?_
      refine mg_at0 X hP dX12_init_582 ?_
      refine lv_iload_n hx hb dX12_init_585 rfl (lv_at hl 1 rfl) ?_
      refine lv_iconst (v := ((-1):Int32)) hx hb dX12_init_586 (by decide) ?_
      obtain ⟨s1, hs1, h⟩ := ob h
      refine m_astI X hP hF hs1 dX12_init_587 (fun H locs hP hF => ?_)
      refine lv_aload_n hx hb dX12_init_588 rfl (lv_at hl 0 rfl) ?_
      refine mg_at1 X hP dX12_init_589 ?_
      refine lv_iload_n hx hb dX12_init_592 rfl (lv_at hl 1 rfl) ?_
      refine lv_iconst (v := ((-1):Int32)) hx hb dX12_init_593 (by decide) ?_
      obtain ⟨s2, hs2, h⟩ := ob h
      refine m_astI X hP hF hs2 dX12_init_594 (fun H locs hP hF => ?_)
      refine lv_aload_n hx hb dX12_init_595 rfl (lv_at hl 0 rfl) ?_
      refine mg_part X hP dX12_init_596 ?_
      refine lv_iload_n hx hb dX12_init_599 rfl (lv_at hl 1 rfl) ?_
      refine lv_iconst (v := ((-1):Int32)) hx hb dX12_init_600 (by decide) ?_
      obtain ⟨s3, hs3, h⟩ := ob h
      refine m_astI X hP hF hs3 dX12_init_601 (fun H locs hP hF => ?_)
      refine lv_aload_n hx hb dX12_init_602 rfl (lv_at hl 0 rfl) ?_
      refine mg_parent X hP dX12_init_603 ?_
      refine lv_iload_n hx hb dX12_init_606 rfl (lv_at hl 1 rfl) ?_
      refine lv_iconst (v := ((-1):Int32)) hx hb dX12_init_607 (by decide) ?_
      obtain ⟨s4, hs4, h⟩ := ob h
      refine m_astI X hP hF hs4 dX12_init_608 (fun H locs hP hF => ?_)
      refine lv_aload_n hx hb dX12_init_609 rfl (lv_at hl 0 rfl) ?_
      refine mg_host X hP dX12_init_610 ?_
      refine lv_iload_n hx hb dX12_init_613 rfl (lv_at hl 1 rfl) ?_
      refine lv_iconst (v := ((-1):Int32)) hx hb dX12_init_614 (by decide) ?_
      obtain ⟨s5, hs5, h⟩ := ob h
      refine m_astI X hP hF hs5 dX12_init_615 (fun H locs hP hF => ?_)
      refine lv_aload_n hx hb dX12_init_616 rfl (lv_at hl 0 rfl) ?_
      refine mg_an X hP dX12_init_617 ?_
      refine lv_iload_n hx hb dX12_init_620 rfl (lv_at hl 1 rfl) ?_
      refine lv_iconst (v := ((-1):Int32)) hx hb dX12_init_621 (by decide) ?_
      obtain ⟨s6, hs6, h⟩ := ob h
      refine m_astI X hP hF hs6 dX12_init_622 (fun H locs hP hF => ?_)
      refine lv_iinc (v := (x1 + (1:Int32))) hx hb dX12_init_623 hl (k := 1) rfl rfl (Nat.le_of_ble_eq_true rfl) rfl (fun ls (hl : lv_has ls 2 [(1, .int (x1 + (1:Int32))), (0, .ref mb)]) => ?_)
      refine lv_goto (tgt := 575) hx hb dX12_init_626 rfl ?_
      exact ih hP hF (lv_sub hl [1, 0] rfl) h
set_option maxRecDepth 20000 in
set_option maxHeartbeats 4000000 in
theorem N_init_at {p : Program} {l : Launch} {e : Env} {s : State} {m : MethodId} {args : Array Value} {below : List Frame} {meth : Method} {c : Code} {D : mD} {mb : Nat} {σ : mS} {H : Heap} {locs : List Loc} {ls : Array Slot} {q : mS} (X : mX p s m args meth c cX12_init 2 none D) (hP : mP D mb σ H) (hF : mG mb s.heap H locs) (hl : lv_has ls 2 [(0, .ref mb)]) (h : f_init_at σ = some q) : mWi p l e 2 30 s m args below meth c D mb q H locs (F0 m 573 ls []) := by
  have hx := X.1
  have hb := X.2.1
  have hown := X.2.2.2.1
  have hts := X.2.2.2.2.1
  have h : (f_init_575 4000 ((0:Int32)) σ) = some q := h
  refine lv_iconst (v := (0:Int32)) hx hb dX12_init_573 (by decide) ?_
  refine lv_istore_n hx hb dX12_init_574 rfl hl (Nat.le_of_ble_eq_true rfl) rfl (fun ls (hl : lv_has ls 2 [(1, .int (0:Int32)), (0, .ref mb)]) => ?_)
  exact N_init_575 X hP hF (lv_sub hl [1, 0] rfl) h
set_option maxRecDepth 20000 in
set_option maxHeartbeats 16000000 in
theorem K_X12_init (l : Launch) (D : mD) (mb : Nat) {q : mS} (h : f_X12_init = some q) : Met l yX12_init (Cond.code yX12_init cX12_init 2 none :: BG) (rA 2 69 14325 30) (va_Pc [.ref mb] (fun U => mB D mb 0 U.heap ∧ mKi D U)) (mQi D mb q) 69 14325 (mReg mb) := by
  refine Met.ofW (cc := cX12_init) (maxL := 2) (ret := none) (by decide) rfl ?_
  intro p e s m args below meth c s₁ B hml hv
  obtain ⟨rfl, hB, hKi⟩ := hv
  have hK := hKi.1
  have X := mX_of B hml rfl hK
  have hfc9 := hKi.2
  have hin : meth.name = "<init>" := (name_of_methodNamed B.named B.method).1
  have hx := X.1
  have hb := X.2.1
  have hown := X.2.2.2.1
  have hts := X.2.2.2.2.1
  have hl := lv_entry [.ref mb] (n := 2) (Nat.le_of_ble_eq_true rfl)
  rw [lg_entry_eq]
  generalize (lg_sl [.ref mb] ++ List.replicate (2 - (lg_sl [.ref mb]).length) Slot.unset).toArray = ls at hl ⊢
  have hl : lv_has ls 2 [(0, .ref mb)] := hl
  have hS : va_S (mReg mb) s.heap s.heap [] := va_S.rf
  show W p l e (rA 2 69 14325 30) s m [.ref mb].toArray below meth c s.heap [] 0 0 (MQ below (mQi D mb q) [.ref mb].toArray s 69 14325 (mReg mb)) (F0 m 0 ls [])
  refine lv_aload_n hx hb dX12_init_0 rfl (lv_at hl 0 rfl) ?_
  refine W.objInit hx hb hown (hts _ w_1574) (hts _ w_oi) (hts _ w_oc) rfl (hl.1.trans X.2.2.1.symm) rfl dX12_init_1 (Nat.le_of_ble_eq_true rfl) (Nat.le_of_ble_eq_true rfl) ?_
  refine W.eq (g2 := F0 m 4 ls []) rfl ?_
  refine lv_aload_n hx hb dX12_init_4 rfl (lv_at hl 0 rfl) ?_
  refine lv_bipush (v := (30:Int32)) hx hb dX12_init_5 (by decide) ?_
  refine m_mk X hfc9 hin hB hS 0 (Nat.le_of_ble_eq_true rfl) rfl rfl (by decide) w_231 (by decide) rfl (Nat.le_of_ble_eq_true rfl) (Nat.le_of_ble_eq_true rfl) (Nat.le_of_ble_eq_true rfl) w_1579 dX12_init_7 dX12_init_9 (fun H locs hB hS => ?_)
  refine lv_aload_n hx hb dX12_init_12 rfl (lv_at hl 0 rfl) ?_
  refine lv_bipush (v := (30:Int32)) hx hb dX12_init_13 (by decide) ?_
  refine m_mk X hfc9 hin hB hS 1 (Nat.le_of_ble_eq_true rfl) rfl rfl (by decide) w_231 (by decide) rfl (Nat.le_of_ble_eq_true rfl) (Nat.le_of_ble_eq_true rfl) (Nat.le_of_ble_eq_true rfl) w_1580 dX12_init_15 dX12_init_17 (fun H locs hB hS => ?_)
  refine lv_aload_n hx hb dX12_init_20 rfl (lv_at hl 0 rfl) ?_
  refine lv_bipush (v := (30:Int32)) hx hb dX12_init_21 (by decide) ?_
  refine m_mk X hfc9 hin hB hS 2 (Nat.le_of_ble_eq_true rfl) rfl rfl (by decide) w_231 (by decide) rfl (Nat.le_of_ble_eq_true rfl) (Nat.le_of_ble_eq_true rfl) (Nat.le_of_ble_eq_true rfl) w_1581 dX12_init_23 dX12_init_25 (fun H locs hB hS => ?_)
  refine lv_aload_n hx hb dX12_init_28 rfl (lv_at hl 0 rfl) ?_
  refine lv_bipush (v := (30:Int32)) hx hb dX12_init_29 (by decide) ?_
  refine m_mk X hfc9 hin hB hS 3 (Nat.le_of_ble_eq_true rfl) rfl rfl (by decide) w_231 (by decide) rfl (Nat.le_of_ble_eq_true rfl) (Nat.le_of_ble_eq_true rfl) (Nat.le_of_ble_eq_true rfl) w_1582 dX12_init_31 dX12_init_33 (fun H locs hB hS => ?_)
  refine lv_aload_n hx hb dX12_init_36 rfl (lv_at hl 0 rfl) ?_
  refine lv_bipush (v := (30:Int32)) hx hb dX12_init_37 (by decide) ?_
  refine m_mk X hfc9 hin hB hS 4 (Nat.le_of_ble_eq_true rfl) rfl rfl (by decide) w_231 (by decide) rfl (Nat.le_of_ble_eq_true rfl) (Nat.le_of_ble_eq_true rfl) (Nat.le_of_ble_eq_true rfl) w_1583 dX12_init_39 dX12_init_41 (fun H locs hB hS => ?_)
  refine lv_aload_n hx hb dX12_init_44 rfl (lv_at hl 0 rfl) ?_
  refine lv_bipush (v := (30:Int32)) hx hb dX12_init_45 (by decide) ?_
  refine m_mk X hfc9 hin hB hS 5 (Nat.le_of_ble_eq_true rfl) rfl rfl (by decide) w_231 (by decide) rfl (Nat.le_of_ble_eq_true rfl) (Nat.le_of_ble_eq_true rfl) (Nat.le_of_ble_eq_true rfl) w_1584 dX12_init_47 dX12_init_49 (fun H locs hB hS => ?_)
  refine lv_aload_n hx hb dX12_init_52 rfl (lv_at hl 0 rfl) ?_
  refine lv_bipush (v := (30:Int32)) hx hb dX12_init_53 (by decide) ?_
  refine m_mk X hfc9 hin hB hS 6 (Nat.le_of_ble_eq_true rfl) rfl rfl (by decide) w_231 (by decide) rfl (Nat.le_of_ble_eq_true rfl) (Nat.le_of_ble_eq_true rfl) (Nat.le_of_ble_eq_true rfl) w_1585 dX12_init_55 dX12_init_57 (fun H locs hB hS => ?_)
  refine lv_aload_n hx hb dX12_init_60 rfl (lv_at hl 0 rfl) ?_
  refine lv_bipush (v := (30:Int32)) hx hb dX12_init_61 (by decide) ?_
  refine m_mk X hfc9 hin hB hS 7 (Nat.le_of_ble_eq_true rfl) rfl rfl (by decide) w_231 (by decide) rfl (Nat.le_of_ble_eq_true rfl) (Nat.le_of_ble_eq_true rfl) (Nat.le_of_ble_eq_true rfl) w_1586 dX12_init_63 dX12_init_65 (fun H locs hB hS => ?_)
  refine lv_aload_n hx hb dX12_init_68 rfl (lv_at hl 0 rfl) ?_
  refine lv_bipush (v := (30:Int32)) hx hb dX12_init_69 (by decide) ?_
  refine m_mk X hfc9 hin hB hS 8 (Nat.le_of_ble_eq_true rfl) rfl rfl (by decide) w_231 (by decide) rfl (Nat.le_of_ble_eq_true rfl) (Nat.le_of_ble_eq_true rfl) (Nat.le_of_ble_eq_true rfl) w_1587 dX12_init_71 dX12_init_73 (fun H locs hB hS => ?_)
  refine lv_aload_n hx hb dX12_init_76 rfl (lv_at hl 0 rfl) ?_
  refine lv_sipush (v := (900:Int32)) hx hb dX12_init_77 (by decide) ?_
  refine m_mk X hfc9 hin hB hS 9 (Nat.le_of_ble_eq_true rfl) rfl rfl (by decide) w_231 (by decide) rfl (Nat.le_of_ble_eq_true rfl) (Nat.le_of_ble_eq_true rfl) (Nat.le_of_ble_eq_true rfl) w_1588 dX12_init_80 dX12_init_82 (fun H locs hB hS => ?_)
  refine lv_aload_n hx hb dX12_init_85 rfl (lv_at hl 0 rfl) ?_
  refine lv_bipush (v := (30:Int32)) hx hb dX12_init_86 (by decide) ?_
  refine m_mk X hfc9 hin hB hS 10 (Nat.le_of_ble_eq_true rfl) rfl rfl (by decide) w_231 (by decide) rfl (Nat.le_of_ble_eq_true rfl) (Nat.le_of_ble_eq_true rfl) (Nat.le_of_ble_eq_true rfl) w_1589 dX12_init_88 dX12_init_90 (fun H locs hB hS => ?_)
  refine lv_aload_n hx hb dX12_init_93 rfl (lv_at hl 0 rfl) ?_
  refine lv_sipush (v := (900:Int32)) hx hb dX12_init_94 (by decide) ?_
  refine m_mk X hfc9 hin hB hS 11 (Nat.le_of_ble_eq_true rfl) rfl rfl (by decide) w_231 (by decide) rfl (Nat.le_of_ble_eq_true rfl) (Nat.le_of_ble_eq_true rfl) (Nat.le_of_ble_eq_true rfl) w_1590 dX12_init_97 dX12_init_99 (fun H locs hB hS => ?_)
  refine lv_aload_n hx hb dX12_init_102 rfl (lv_at hl 0 rfl) ?_
  refine lv_bipush (v := (30:Int32)) hx hb dX12_init_103 (by decide) ?_
  refine m_mk X hfc9 hin hB hS 12 (Nat.le_of_ble_eq_true rfl) rfl rfl (by decide) w_231 (by decide) rfl (Nat.le_of_ble_eq_true rfl) (Nat.le_of_ble_eq_true rfl) (Nat.le_of_ble_eq_true rfl) w_1591 dX12_init_105 dX12_init_107 (fun H locs hB hS => ?_)
  refine lv_aload_n hx hb dX12_init_110 rfl (lv_at hl 0 rfl) ?_
  refine lv_bipush (v := (31:Int32)) hx hb dX12_init_111 (by decide) ?_
  refine m_mk X hfc9 hin hB hS 14 (Nat.le_of_ble_eq_true rfl) rfl rfl (by decide) w_231 (by decide) rfl (Nat.le_of_ble_eq_true rfl) (Nat.le_of_ble_eq_true rfl) (Nat.le_of_ble_eq_true rfl) w_1593 dX12_init_113 dX12_init_115 (fun H locs hB hS => ?_)
  refine lv_aload_n hx hb dX12_init_118 rfl (lv_at hl 0 rfl) ?_
  refine lv_bipush (v := (124:Int32)) hx hb dX12_init_119 (by decide) ?_
  refine m_mk X hfc9 hin hB hS 15 (Nat.le_of_ble_eq_true rfl) rfl rfl (by decide) w_231 (by decide) rfl (Nat.le_of_ble_eq_true rfl) (Nat.le_of_ble_eq_true rfl) (Nat.le_of_ble_eq_true rfl) w_1594 dX12_init_121 dX12_init_123 (fun H locs hB hS => ?_)
  refine lv_aload_n hx hb dX12_init_126 rfl (lv_at hl 0 rfl) ?_
  refine lv_bipush (v := (124:Int32)) hx hb dX12_init_127 (by decide) ?_
  refine m_mk X hfc9 hin hB hS 16 (Nat.le_of_ble_eq_true rfl) rfl rfl (by decide) w_231 (by decide) rfl (Nat.le_of_ble_eq_true rfl) (Nat.le_of_ble_eq_true rfl) (Nat.le_of_ble_eq_true rfl) w_1595 dX12_init_129 dX12_init_131 (fun H locs hB hS => ?_)
  refine lv_aload_n hx hb dX12_init_134 rfl (lv_at hl 0 rfl) ?_
  refine lv_sipush (v := (496:Int32)) hx hb dX12_init_135 (by decide) ?_
  refine m_mk X hfc9 hin hB hS 17 (Nat.le_of_ble_eq_true rfl) rfl rfl (by decide) w_231 (by decide) rfl (Nat.le_of_ble_eq_true rfl) (Nat.le_of_ble_eq_true rfl) (Nat.le_of_ble_eq_true rfl) w_1596 dX12_init_138 dX12_init_140 (fun H locs hB hS => ?_)
  refine lv_aload_n hx hb dX12_init_143 rfl (lv_at hl 0 rfl) ?_
  refine lv_sipush (v := (496:Int32)) hx hb dX12_init_144 (by decide) ?_
  refine m_mk X hfc9 hin hB hS 18 (Nat.le_of_ble_eq_true rfl) rfl rfl (by decide) w_231 (by decide) rfl (Nat.le_of_ble_eq_true rfl) (Nat.le_of_ble_eq_true rfl) (Nat.le_of_ble_eq_true rfl) w_1597 dX12_init_147 dX12_init_149 (fun H locs hB hS => ?_)
  refine lv_aload_n hx hb dX12_init_152 rfl (lv_at hl 0 rfl) ?_
  refine lv_sipush (v := (496:Int32)) hx hb dX12_init_153 (by decide) ?_
  refine m_mk X hfc9 hin hB hS 19 (Nat.le_of_ble_eq_true rfl) rfl rfl (by decide) w_231 (by decide) rfl (Nat.le_of_ble_eq_true rfl) (Nat.le_of_ble_eq_true rfl) (Nat.le_of_ble_eq_true rfl) w_1598 dX12_init_156 dX12_init_158 (fun H locs hB hS => ?_)
  refine lv_aload_n hx hb dX12_init_161 rfl (lv_at hl 0 rfl) ?_
  refine lv_bipush (v := (31:Int32)) hx hb dX12_init_162 (by decide) ?_
  refine m_mk X hfc9 hin hB hS 20 (Nat.le_of_ble_eq_true rfl) rfl rfl (by decide) w_231 (by decide) rfl (Nat.le_of_ble_eq_true rfl) (Nat.le_of_ble_eq_true rfl) (Nat.le_of_ble_eq_true rfl) w_1599 dX12_init_164 dX12_init_166 (fun H locs hB hS => ?_)
  refine lv_aload_n hx hb dX12_init_169 rfl (lv_at hl 0 rfl) ?_
  refine lv_bipush (v := (31:Int32)) hx hb dX12_init_170 (by decide) ?_
  refine m_mk X hfc9 hin hB hS 21 (Nat.le_of_ble_eq_true rfl) rfl rfl (by decide) w_231 (by decide) rfl (Nat.le_of_ble_eq_true rfl) (Nat.le_of_ble_eq_true rfl) (Nat.le_of_ble_eq_true rfl) w_1600 dX12_init_172 dX12_init_174 (fun H locs hB hS => ?_)
  refine lv_aload_n hx hb dX12_init_177 rfl (lv_at hl 0 rfl) ?_
  refine lv_bipush (v := (31:Int32)) hx hb dX12_init_178 (by decide) ?_
  refine m_mk X hfc9 hin hB hS 22 (Nat.le_of_ble_eq_true rfl) rfl rfl (by decide) w_231 (by decide) rfl (Nat.le_of_ble_eq_true rfl) (Nat.le_of_ble_eq_true rfl) (Nat.le_of_ble_eq_true rfl) w_1601 dX12_init_180 dX12_init_182 (fun H locs hB hS => ?_)
  refine lv_aload_n hx hb dX12_init_185 rfl (lv_at hl 0 rfl) ?_
  refine lv_bipush (v := (31:Int32)) hx hb dX12_init_186 (by decide) ?_
  refine m_mk X hfc9 hin hB hS 23 (Nat.le_of_ble_eq_true rfl) rfl rfl (by decide) w_231 (by decide) rfl (Nat.le_of_ble_eq_true rfl) (Nat.le_of_ble_eq_true rfl) (Nat.le_of_ble_eq_true rfl) w_1602 dX12_init_188 dX12_init_190 (fun H locs hB hS => ?_)
  refine lv_aload_n hx hb dX12_init_193 rfl (lv_at hl 0 rfl) ?_
  refine lv_bipush (v := (31:Int32)) hx hb dX12_init_194 (by decide) ?_
  refine m_mk X hfc9 hin hB hS 24 (Nat.le_of_ble_eq_true rfl) rfl rfl (by decide) w_231 (by decide) rfl (Nat.le_of_ble_eq_true rfl) (Nat.le_of_ble_eq_true rfl) (Nat.le_of_ble_eq_true rfl) w_1603 dX12_init_196 dX12_init_198 (fun H locs hB hS => ?_)
  refine lv_aload_n hx hb dX12_init_201 rfl (lv_at hl 0 rfl) ?_
  refine lv_bipush (v := (31:Int32)) hx hb dX12_init_202 (by decide) ?_
  refine m_mk X hfc9 hin hB hS 25 (Nat.le_of_ble_eq_true rfl) rfl rfl (by decide) w_231 (by decide) rfl (Nat.le_of_ble_eq_true rfl) (Nat.le_of_ble_eq_true rfl) (Nat.le_of_ble_eq_true rfl) w_1604 dX12_init_204 dX12_init_206 (fun H locs hB hS => ?_)
  refine lv_aload_n hx hb dX12_init_209 rfl (lv_at hl 0 rfl) ?_
  refine lv_bipush (v := (8:Int32)) hx hb dX12_init_210 (by decide) ?_
  refine m_mk X hfc9 hin hB hS 27 (Nat.le_of_ble_eq_true rfl) rfl rfl (by decide) w_231 (by decide) rfl (Nat.le_of_ble_eq_true rfl) (Nat.le_of_ble_eq_true rfl) (Nat.le_of_ble_eq_true rfl) w_1606 dX12_init_212 dX12_init_214 (fun H locs hB hS => ?_)
  refine lv_aload_n hx hb dX12_init_217 rfl (lv_at hl 0 rfl) ?_
  refine lv_bipush (v := (8:Int32)) hx hb dX12_init_218 (by decide) ?_
  refine m_mk X hfc9 hin hB hS 28 (Nat.le_of_ble_eq_true rfl) rfl rfl (by decide) w_231 (by decide) rfl (Nat.le_of_ble_eq_true rfl) (Nat.le_of_ble_eq_true rfl) (Nat.le_of_ble_eq_true rfl) w_1607 dX12_init_220 dX12_init_222 (fun H locs hB hS => ?_)
  refine lv_aload_n hx hb dX12_init_225 rfl (lv_at hl 0 rfl) ?_
  refine lv_bipush (v := (8:Int32)) hx hb dX12_init_226 (by decide) ?_
  refine m_mk X hfc9 hin hB hS 29 (Nat.le_of_ble_eq_true rfl) rfl rfl (by decide) w_231 (by decide) rfl (Nat.le_of_ble_eq_true rfl) (Nat.le_of_ble_eq_true rfl) (Nat.le_of_ble_eq_true rfl) w_1608 dX12_init_228 dX12_init_230 (fun H locs hB hS => ?_)
  refine lv_aload_n hx hb dX12_init_233 rfl (lv_at hl 0 rfl) ?_
  refine lv_bipush (v := (8:Int32)) hx hb dX12_init_234 (by decide) ?_
  refine m_mk X hfc9 hin hB hS 30 (Nat.le_of_ble_eq_true rfl) rfl rfl (by decide) w_231 (by decide) rfl (Nat.le_of_ble_eq_true rfl) (Nat.le_of_ble_eq_true rfl) (Nat.le_of_ble_eq_true rfl) w_1609 dX12_init_236 dX12_init_238 (fun H locs hB hS => ?_)
  refine lv_aload_n hx hb dX12_init_241 rfl (lv_at hl 0 rfl) ?_
  refine lv_bipush (v := (40:Int32)) hx hb dX12_init_242 (by decide) ?_
  refine m_mk X hfc9 hin hB hS 32 (Nat.le_of_ble_eq_true rfl) rfl rfl (by decide) w_231 (by decide) rfl (Nat.le_of_ble_eq_true rfl) (Nat.le_of_ble_eq_true rfl) (Nat.le_of_ble_eq_true rfl) w_1611 dX12_init_244 dX12_init_246 (fun H locs hB hS => ?_)
  refine lv_aload_n hx hb dX12_init_249 rfl (lv_at hl 0 rfl) ?_
  refine lv_bipush (v := (40:Int32)) hx hb dX12_init_250 (by decide) ?_
  refine m_mk X hfc9 hin hB hS 33 (Nat.le_of_ble_eq_true rfl) rfl rfl (by decide) w_231 (by decide) rfl (Nat.le_of_ble_eq_true rfl) (Nat.le_of_ble_eq_true rfl) (Nat.le_of_ble_eq_true rfl) w_1612 dX12_init_252 dX12_init_254 (fun H locs hB hS => ?_)
  refine lv_aload_n hx hb dX12_init_257 rfl (lv_at hl 0 rfl) ?_
  refine lv_bipush (v := (40:Int32)) hx hb dX12_init_258 (by decide) ?_
  refine m_mk X hfc9 hin hB hS 34 (Nat.le_of_ble_eq_true rfl) rfl rfl (by decide) w_231 (by decide) rfl (Nat.le_of_ble_eq_true rfl) (Nat.le_of_ble_eq_true rfl) (Nat.le_of_ble_eq_true rfl) w_1613 dX12_init_260 dX12_init_262 (fun H locs hB hS => ?_)
  refine lv_aload_n hx hb dX12_init_265 rfl (lv_at hl 0 rfl) ?_
  refine lv_bipush (v := (40:Int32)) hx hb dX12_init_266 (by decide) ?_
  refine m_mk X hfc9 hin hB hS 35 (Nat.le_of_ble_eq_true rfl) rfl rfl (by decide) w_231 (by decide) rfl (Nat.le_of_ble_eq_true rfl) (Nat.le_of_ble_eq_true rfl) (Nat.le_of_ble_eq_true rfl) w_1614 dX12_init_268 dX12_init_270 (fun H locs hB hS => ?_)
  refine lv_aload_n hx hb dX12_init_273 rfl (lv_at hl 0 rfl) ?_
  refine lv_sipush (v := (1120:Int32)) hx hb dX12_init_274 (by decide) ?_
  refine m_mk X hfc9 hin hB hS 37 (Nat.le_of_ble_eq_true rfl) rfl rfl (by decide) w_231 (by decide) rfl (Nat.le_of_ble_eq_true rfl) (Nat.le_of_ble_eq_true rfl) (Nat.le_of_ble_eq_true rfl) w_1616 dX12_init_277 dX12_init_279 (fun H locs hB hS => ?_)
  refine lv_aload_n hx hb dX12_init_282 rfl (lv_at hl 0 rfl) ?_
  refine lv_sipush (v := (1120:Int32)) hx hb dX12_init_283 (by decide) ?_
  refine m_mk X hfc9 hin hB hS 38 (Nat.le_of_ble_eq_true rfl) rfl rfl (by decide) w_231 (by decide) rfl (Nat.le_of_ble_eq_true rfl) (Nat.le_of_ble_eq_true rfl) (Nat.le_of_ble_eq_true rfl) w_1617 dX12_init_286 dX12_init_288 (fun H locs hB hS => ?_)
  refine lv_aload_n hx hb dX12_init_291 rfl (lv_at hl 0 rfl) ?_
  refine lv_sipush (v := (1120:Int32)) hx hb dX12_init_292 (by decide) ?_
  refine m_mk X hfc9 hin hB hS 39 (Nat.le_of_ble_eq_true rfl) rfl rfl (by decide) w_231 (by decide) rfl (Nat.le_of_ble_eq_true rfl) (Nat.le_of_ble_eq_true rfl) (Nat.le_of_ble_eq_true rfl) w_1618 dX12_init_295 dX12_init_297 (fun H locs hB hS => ?_)
  refine lv_aload_n hx hb dX12_init_300 rfl (lv_at hl 0 rfl) ?_
  refine lv_sipush (v := (1120:Int32)) hx hb dX12_init_301 (by decide) ?_
  refine m_mk X hfc9 hin hB hS 40 (Nat.le_of_ble_eq_true rfl) rfl rfl (by decide) w_231 (by decide) rfl (Nat.le_of_ble_eq_true rfl) (Nat.le_of_ble_eq_true rfl) (Nat.le_of_ble_eq_true rfl) w_1619 dX12_init_304 dX12_init_306 (fun H locs hB hS => ?_)
  refine lv_aload_n hx hb dX12_init_309 rfl (lv_at hl 0 rfl) ?_
  refine lv_sipush (v := (1120:Int32)) hx hb dX12_init_310 (by decide) ?_
  refine m_mk X hfc9 hin hB hS 41 (Nat.le_of_ble_eq_true rfl) rfl rfl (by decide) w_231 (by decide) rfl (Nat.le_of_ble_eq_true rfl) (Nat.le_of_ble_eq_true rfl) (Nat.le_of_ble_eq_true rfl) w_1620 dX12_init_313 dX12_init_315 (fun H locs hB hS => ?_)
  refine lv_aload_n hx hb dX12_init_318 rfl (lv_at hl 0 rfl) ?_
  refine lv_sipush (v := (1120:Int32)) hx hb dX12_init_319 (by decide) ?_
  refine m_mk X hfc9 hin hB hS 42 (Nat.le_of_ble_eq_true rfl) rfl rfl (by decide) w_231 (by decide) rfl (Nat.le_of_ble_eq_true rfl) (Nat.le_of_ble_eq_true rfl) (Nat.le_of_ble_eq_true rfl) w_1621 dX12_init_322 dX12_init_324 (fun H locs hB hS => ?_)
  refine lv_aload_n hx hb dX12_init_327 rfl (lv_at hl 0 rfl) ?_
  refine lv_sipush (v := (1080:Int32)) hx hb dX12_init_328 (by decide) ?_
  refine m_mk X hfc9 hin hB hS 43 (Nat.le_of_ble_eq_true rfl) rfl rfl (by decide) w_231 (by decide) rfl (Nat.le_of_ble_eq_true rfl) (Nat.le_of_ble_eq_true rfl) (Nat.le_of_ble_eq_true rfl) w_1622 dX12_init_331 dX12_init_333 (fun H locs hB hS => ?_)
  refine lv_aload_n hx hb dX12_init_336 rfl (lv_at hl 0 rfl) ?_
  refine lv_sipush (v := (270:Int32)) hx hb dX12_init_337 (by decide) ?_
  refine m_mk X hfc9 hin hB hS 44 (Nat.le_of_ble_eq_true rfl) rfl rfl (by decide) w_231 (by decide) rfl (Nat.le_of_ble_eq_true rfl) (Nat.le_of_ble_eq_true rfl) (Nat.le_of_ble_eq_true rfl) w_1623 dX12_init_340 dX12_init_342 (fun H locs hB hS => ?_)
  refine lv_aload_n hx hb dX12_init_345 rfl (lv_at hl 0 rfl) ?_
  refine lv_sipush (v := (270:Int32)) hx hb dX12_init_346 (by decide) ?_
  refine m_mk X hfc9 hin hB hS 45 (Nat.le_of_ble_eq_true rfl) rfl rfl (by decide) w_231 (by decide) rfl (Nat.le_of_ble_eq_true rfl) (Nat.le_of_ble_eq_true rfl) (Nat.le_of_ble_eq_true rfl) w_1624 dX12_init_349 dX12_init_351 (fun H locs hB hS => ?_)
  refine lv_aload_n hx hb dX12_init_354 rfl (lv_at hl 0 rfl) ?_
  refine lv_bipush (v := (90:Int32)) hx hb dX12_init_355 (by decide) ?_
  refine m_mk X hfc9 hin hB hS 46 (Nat.le_of_ble_eq_true rfl) rfl rfl (by decide) w_231 (by decide) rfl (Nat.le_of_ble_eq_true rfl) (Nat.le_of_ble_eq_true rfl) (Nat.le_of_ble_eq_true rfl) w_1625 dX12_init_357 dX12_init_359 (fun H locs hB hS => ?_)
  refine lv_aload_n hx hb dX12_init_362 rfl (lv_at hl 0 rfl) ?_
  refine lv_sipush (v := (150:Int32)) hx hb dX12_init_363 (by decide) ?_
  refine m_mk X hfc9 hin hB hS 47 (Nat.le_of_ble_eq_true rfl) rfl rfl (by decide) w_231 (by decide) rfl (Nat.le_of_ble_eq_true rfl) (Nat.le_of_ble_eq_true rfl) (Nat.le_of_ble_eq_true rfl) w_1626 dX12_init_366 dX12_init_368 (fun H locs hB hS => ?_)
  refine lv_aload_n hx hb dX12_init_371 rfl (lv_at hl 0 rfl) ?_
  refine lv_sipush (v := (150:Int32)) hx hb dX12_init_372 (by decide) ?_
  refine m_mk X hfc9 hin hB hS 55 (Nat.le_of_ble_eq_true rfl) rfl rfl (by decide) w_231 (by decide) rfl (Nat.le_of_ble_eq_true rfl) (Nat.le_of_ble_eq_true rfl) (Nat.le_of_ble_eq_true rfl) w_1634 dX12_init_375 dX12_init_377 (fun H locs hB hS => ?_)
  refine lv_aload_n hx hb dX12_init_380 rfl (lv_at hl 0 rfl) ?_
  refine lv_sipush (v := (150:Int32)) hx hb dX12_init_381 (by decide) ?_
  refine m_mk X hfc9 hin hB hS 56 (Nat.le_of_ble_eq_true rfl) rfl rfl (by decide) w_231 (by decide) rfl (Nat.le_of_ble_eq_true rfl) (Nat.le_of_ble_eq_true rfl) (Nat.le_of_ble_eq_true rfl) w_1635 dX12_init_384 dX12_init_386 (fun H locs hB hS => ?_)
  refine lv_aload_n hx hb dX12_init_389 rfl (lv_at hl 0 rfl) ?_
  refine lv_sipush (v := (150:Int32)) hx hb dX12_init_390 (by decide) ?_
  refine m_mk X hfc9 hin hB hS 57 (Nat.le_of_ble_eq_true rfl) rfl rfl (by decide) w_231 (by decide) rfl (Nat.le_of_ble_eq_true rfl) (Nat.le_of_ble_eq_true rfl) (Nat.le_of_ble_eq_true rfl) w_1636 dX12_init_393 dX12_init_395 (fun H locs hB hS => ?_)
  refine lv_aload_n hx hb dX12_init_398 rfl (lv_at hl 0 rfl) ?_
  refine lv_sipush (v := (150:Int32)) hx hb dX12_init_399 (by decide) ?_
  refine m_mk X hfc9 hin hB hS 58 (Nat.le_of_ble_eq_true rfl) rfl rfl (by decide) w_231 (by decide) rfl (Nat.le_of_ble_eq_true rfl) (Nat.le_of_ble_eq_true rfl) (Nat.le_of_ble_eq_true rfl) w_1637 dX12_init_402 dX12_init_404 (fun H locs hB hS => ?_)
  refine lv_aload_n hx hb dX12_init_407 rfl (lv_at hl 0 rfl) ?_
  refine lv_bipush (v := (30:Int32)) hx hb dX12_init_408 (by decide) ?_
  refine m_mk X hfc9 hin hB hS 59 (Nat.le_of_ble_eq_true rfl) rfl rfl (by decide) w_231 (by decide) rfl (Nat.le_of_ble_eq_true rfl) (Nat.le_of_ble_eq_true rfl) (Nat.le_of_ble_eq_true rfl) w_1638 dX12_init_410 dX12_init_412 (fun H locs hB hS => ?_)
  refine lv_aload_n hx hb dX12_init_415 rfl (lv_at hl 0 rfl) ?_
  refine lv_iconst (v := (4:Int32)) hx hb dX12_init_416 (by decide) ?_
  refine m_mk X hfc9 hin hB hS 60 (Nat.le_of_ble_eq_true rfl) rfl rfl (by decide) w_231 (by decide) rfl (Nat.le_of_ble_eq_true rfl) (Nat.le_of_ble_eq_true rfl) (Nat.le_of_ble_eq_true rfl) w_1639 dX12_init_417 dX12_init_419 (fun H locs hB hS => ?_)
  refine lv_aload_n hx hb dX12_init_422 rfl (lv_at hl 0 rfl) ?_
  refine lv_iconst (v := (4:Int32)) hx hb dX12_init_423 (by decide) ?_
  refine m_mk X hfc9 hin hB hS 61 (Nat.le_of_ble_eq_true rfl) rfl rfl (by decide) w_231 (by decide) rfl (Nat.le_of_ble_eq_true rfl) (Nat.le_of_ble_eq_true rfl) (Nat.le_of_ble_eq_true rfl) w_1640 dX12_init_424 dX12_init_426 (fun H locs hB hS => ?_)
  refine lv_aload_n hx hb dX12_init_429 rfl (lv_at hl 0 rfl) ?_
  refine lv_iconst (v := (4:Int32)) hx hb dX12_init_430 (by decide) ?_
  refine m_mk X hfc9 hin hB hS 62 (Nat.le_of_ble_eq_true rfl) rfl rfl (by decide) w_231 (by decide) rfl (Nat.le_of_ble_eq_true rfl) (Nat.le_of_ble_eq_true rfl) (Nat.le_of_ble_eq_true rfl) w_1641 dX12_init_431 dX12_init_433 (fun H locs hB hS => ?_)
  refine lv_aload_n hx hb dX12_init_436 rfl (lv_at hl 0 rfl) ?_
  refine lv_sipush (v := (220:Int32)) hx hb dX12_init_437 (by decide) ?_
  refine m_mk X hfc9 hin hB hS 63 (Nat.le_of_ble_eq_true rfl) rfl rfl (by decide) w_231 (by decide) rfl (Nat.le_of_ble_eq_true rfl) (Nat.le_of_ble_eq_true rfl) (Nat.le_of_ble_eq_true rfl) w_1642 dX12_init_440 dX12_init_442 (fun H locs hB hS => ?_)
  refine lv_aload_n hx hb dX12_init_445 rfl (lv_at hl 0 rfl) ?_
  refine lv_sipush (v := (220:Int32)) hx hb dX12_init_446 (by decide) ?_
  refine m_mk X hfc9 hin hB hS 64 (Nat.le_of_ble_eq_true rfl) rfl rfl (by decide) w_231 (by decide) rfl (Nat.le_of_ble_eq_true rfl) (Nat.le_of_ble_eq_true rfl) (Nat.le_of_ble_eq_true rfl) w_1643 dX12_init_449 dX12_init_451 (fun H locs hB hS => ?_)
  refine lv_aload_n hx hb dX12_init_454 rfl (lv_at hl 0 rfl) ?_
  refine lv_bipush (v := (6:Int32)) hx hb dX12_init_455 (by decide) ?_
  refine m_mk X hfc9 hin hB hS 65 (Nat.le_of_ble_eq_true rfl) rfl rfl (by decide) w_231 (by decide) rfl (Nat.le_of_ble_eq_true rfl) (Nat.le_of_ble_eq_true rfl) (Nat.le_of_ble_eq_true rfl) w_1644 dX12_init_457 dX12_init_459 (fun H locs hB hS => ?_)
  refine lv_aload_n hx hb dX12_init_462 rfl (lv_at hl 0 rfl) ?_
  refine lv_bipush (v := (6:Int32)) hx hb dX12_init_463 (by decide) ?_
  refine m_mk X hfc9 hin hB hS 66 (Nat.le_of_ble_eq_true rfl) rfl rfl (by decide) w_231 (by decide) rfl (Nat.le_of_ble_eq_true rfl) (Nat.le_of_ble_eq_true rfl) (Nat.le_of_ble_eq_true rfl) w_1645 dX12_init_465 dX12_init_467 (fun H locs hB hS => ?_)
  refine lv_aload_n hx hb dX12_init_470 rfl (lv_at hl 0 rfl) ?_
  refine lv_bipush (v := (6:Int32)) hx hb dX12_init_471 (by decide) ?_
  refine m_mk X hfc9 hin hB hS 67 (Nat.le_of_ble_eq_true rfl) rfl rfl (by decide) w_231 (by decide) rfl (Nat.le_of_ble_eq_true rfl) (Nat.le_of_ble_eq_true rfl) (Nat.le_of_ble_eq_true rfl) w_1646 dX12_init_473 dX12_init_475 (fun H locs hB hS => ?_)
  refine lv_aload_n hx hb dX12_init_478 rfl (lv_at hl 0 rfl) ?_
  refine lv_bipush (v := (6:Int32)) hx hb dX12_init_479 (by decide) ?_
  refine m_mk X hfc9 hin hB hS 68 (Nat.le_of_ble_eq_true rfl) rfl rfl (by decide) w_231 (by decide) rfl (Nat.le_of_ble_eq_true rfl) (Nat.le_of_ble_eq_true rfl) (Nat.le_of_ble_eq_true rfl) w_1647 dX12_init_481 dX12_init_483 (fun H locs hB hS => ?_)
  refine lv_aload_n hx hb dX12_init_486 rfl (lv_at hl 0 rfl) ?_
  refine lv_bipush (v := (6:Int32)) hx hb dX12_init_487 (by decide) ?_
  refine m_mk X hfc9 hin hB hS 69 (Nat.le_of_ble_eq_true rfl) rfl rfl (by decide) w_231 (by decide) rfl (Nat.le_of_ble_eq_true rfl) (Nat.le_of_ble_eq_true rfl) (Nat.le_of_ble_eq_true rfl) w_1648 dX12_init_489 dX12_init_491 (fun H locs hB hS => ?_)
  refine lv_aload_n hx hb dX12_init_494 rfl (lv_at hl 0 rfl) ?_
  refine lv_bipush (v := (30:Int32)) hx hb dX12_init_495 (by decide) ?_
  refine m_mk X hfc9 hin hB hS 73 (Nat.le_of_ble_eq_true rfl) rfl rfl (by decide) w_231 (by decide) rfl (Nat.le_of_ble_eq_true rfl) (Nat.le_of_ble_eq_true rfl) (Nat.le_of_ble_eq_true rfl) w_1652 dX12_init_497 dX12_init_499 (fun H locs hB hS => ?_)
  refine lv_aload_n hx hb dX12_init_502 rfl (lv_at hl 0 rfl) ?_
  refine lv_bipush (v := (40:Int32)) hx hb dX12_init_503 (by decide) ?_
  refine m_mk X hfc9 hin hB hS 74 (Nat.le_of_ble_eq_true rfl) rfl rfl (by decide) w_231 (by decide) rfl (Nat.le_of_ble_eq_true rfl) (Nat.le_of_ble_eq_true rfl) (Nat.le_of_ble_eq_true rfl) w_1653 dX12_init_505 dX12_init_507 (fun H locs hB hS => ?_)
  refine lv_aload_n hx hb dX12_init_510 rfl (lv_at hl 0 rfl) ?_
  refine lv_bipush (v := (30:Int32)) hx hb dX12_init_511 (by decide) ?_
  refine m_mk X hfc9 hin hB hS 75 (Nat.le_of_ble_eq_true rfl) rfl rfl (by decide) w_231 (by decide) rfl (Nat.le_of_ble_eq_true rfl) (Nat.le_of_ble_eq_true rfl) (Nat.le_of_ble_eq_true rfl) w_1654 dX12_init_513 dX12_init_515 (fun H locs hB hS => ?_)
  refine lv_aload_n hx hb dX12_init_518 rfl (lv_at hl 0 rfl) ?_
  refine lv_bipush (v := (30:Int32)) hx hb dX12_init_519 (by decide) ?_
  refine m_mk X hfc9 hin hB hS 77 (Nat.le_of_ble_eq_true rfl) rfl rfl (by decide) w_231 (by decide) rfl (Nat.le_of_ble_eq_true rfl) (Nat.le_of_ble_eq_true rfl) (Nat.le_of_ble_eq_true rfl) w_1656 dX12_init_521 dX12_init_523 (fun H locs hB hS => ?_)
  refine lv_aload_n hx hb dX12_init_526 rfl (lv_at hl 0 rfl) ?_
  refine lv_bipush (v := (30:Int32)) hx hb dX12_init_527 (by decide) ?_
  refine m_mk X hfc9 hin hB hS 78 (Nat.le_of_ble_eq_true rfl) rfl rfl (by decide) w_231 (by decide) rfl (Nat.le_of_ble_eq_true rfl) (Nat.le_of_ble_eq_true rfl) (Nat.le_of_ble_eq_true rfl) w_1657 dX12_init_529 dX12_init_531 (fun H locs hB hS => ?_)
  refine lv_aload_n hx hb dX12_init_534 rfl (lv_at hl 0 rfl) ?_
  refine lv_bipush (v := (30:Int32)) hx hb dX12_init_535 (by decide) ?_
  refine m_mk X hfc9 hin hB hS 80 (Nat.le_of_ble_eq_true rfl) rfl rfl (by decide) w_231 (by decide) rfl (Nat.le_of_ble_eq_true rfl) (Nat.le_of_ble_eq_true rfl) (Nat.le_of_ble_eq_true rfl) w_1659 dX12_init_537 dX12_init_539 (fun H locs hB hS => ?_)
  refine lv_aload_n hx hb dX12_init_542 rfl (lv_at hl 0 rfl) ?_
  refine lv_bipush (v := (12:Int32)) hx hb dX12_init_543 (by decide) ?_
  refine m_mk X hfc9 hin hB hS 82 (Nat.le_of_ble_eq_true rfl) rfl rfl (by decide) w_231 (by decide) rfl (Nat.le_of_ble_eq_true rfl) (Nat.le_of_ble_eq_true rfl) (Nat.le_of_ble_eq_true rfl) w_1661 dX12_init_545 dX12_init_547 (fun H locs hB hS => ?_)
  refine lv_aload_n hx hb dX12_init_550 rfl (lv_at hl 0 rfl) ?_
  refine lv_iconst (v := (3:Int32)) hx hb dX12_init_551 (by decide) ?_
  refine m_mk X hfc9 hin hB hS 83 (Nat.le_of_ble_eq_true rfl) rfl rfl (by decide) w_231 (by decide) rfl (Nat.le_of_ble_eq_true rfl) (Nat.le_of_ble_eq_true rfl) (Nat.le_of_ble_eq_true rfl) w_1662 dX12_init_552 dX12_init_554 (fun H locs hB hS => ?_)
  refine lv_aload_n hx hb dX12_init_557 rfl (lv_at hl 0 rfl) ?_
  refine lv_iconst (v := (3:Int32)) hx hb dX12_init_558 (by decide) ?_
  refine m_mk X hfc9 hin hB hS 84 (Nat.le_of_ble_eq_true rfl) rfl rfl (by decide) w_231 (by decide) rfl (Nat.le_of_ble_eq_true rfl) (Nat.le_of_ble_eq_true rfl) (Nat.le_of_ble_eq_true rfl) w_1663 dX12_init_559 dX12_init_561 (fun H locs hB hS => ?_)
  refine lv_aload_n hx hb dX12_init_564 rfl (lv_at hl 0 rfl) ?_
  refine lv_sipush (v := (150:Int32)) hx hb dX12_init_565 (by decide) ?_
  refine m_mk X hfc9 hin hB hS 85 (Nat.le_of_ble_eq_true rfl) rfl rfl (by decide) w_231 (by decide) rfl (Nat.le_of_ble_eq_true rfl) (Nat.le_of_ble_eq_true rfl) (Nat.le_of_ble_eq_true rfl) w_1664 dX12_init_568 dX12_init_570 (fun H locs hB hS => ?_)
  exact N_init_at (locs := locs) X hB.all ⟨hS, hB.2.2⟩ hl h
theorem ww_X12_init : Cond.instanceMethod yX12_init ∈ BG ∧ Cond.initialized (yX12_init).cls ∈ BG ∧ Cond.code yX12_init cX12_init 2 none ∈ BG := ⟨w_1572, w_154, w_1573⟩
theorem hy_X12_init : (yX12_init).cls ≠ "java/lang/invoke/MethodHandle" ∧ (yX12_init).cls ≠ "java/lang/invoke/VarHandle" ∧ (parseMethodDescriptor (yX12_init).desc).map (fun d => d.parameters.length) = some 0 := ⟨by decide, by decide, by decide +kernel⟩
