set_option maxRecDepth 100000 in
theorem w_1365 : Cond.methodLink "CascaderyLaw" 175 yX11_setWidth ∈ BG := bg_in 1365 (by decide +kernel) (by decide +kernel)
set_option maxRecDepth 100000 in
theorem w_1361 : Cond.methodLink "CascaderyLaw" 171 yX11_turn ∈ BG := bg_in 1361 (by decide +kernel) (by decide +kernel)
set_option maxRecDepth 100000 in
theorem w_628 : Cond.methodLink "CascaderyLaw" 123 yL_make ∈ BG := bg_in 628 (by decide +kernel) (by decide +kernel)
set_option maxRecDepth 100000 in
theorem w_1214 : Cond.methodLink "CascaderyLaw" 138 yX11_setClass ∈ BG := bg_in 1214 (by decide +kernel) (by decide +kernel)
set_option maxRecDepth 100000 in
theorem w_1242 : Cond.methodLink "CascaderyLaw" 151 yL_sheets ∈ BG := bg_in 1242 (by decide +kernel) (by decide +kernel)
set_option maxRecDepth 100000 in
theorem w_1300 : Cond.methodLink "CascaderyLaw" 157 yL_declares ∈ BG := bg_in 1300 (by decide +kernel) (by decide +kernel)
set_option maxRecDepth 100000 in
theorem w_1340 : Cond.methodLink "CascaderyLaw" 161 yL_still ∈ BG := bg_in 1340 (by decide +kernel) (by decide +kernel)
set_option maxRecDepth 100000 in
theorem w_1343 : Cond.methodLink "CascaderyLaw" 164 yL_varies ∈ BG := bg_in 1343 (by decide +kernel) (by decide +kernel)
set_option maxRecDepth 100000 in
theorem w_726 : Cond.methodLink "CascaderyLaw" 126 yL_puts ∈ BG := bg_in 726 (by decide +kernel) (by decide +kernel)
set_option maxRecDepth 100000 in
theorem w_1199 : Cond.methodLink "CascaderyLaw" 129 yL_tops ∈ BG := bg_in 1199 (by decide +kernel) (by decide +kernel)
set_option maxRecDepth 100000 in
theorem w_838 : Cond.methodLink "CascaderyLaw" 132 yL_takes ∈ BG := bg_in 838 (by decide +kernel) (by decide +kernel)
set_option maxRecDepth 100000 in
theorem w_1206 : Cond.methodLink "CascaderyLaw" 135 yL_shadows ∈ BG := bg_in 1206 (by decide +kernel) (by decide +kernel)
set_option maxRecDepth 100000 in
theorem w_1218 : Cond.methodLink "CascaderyLaw" 142 yX11_setAttribute ∈ BG := bg_in 1218 (by decide +kernel) (by decide +kernel)
set_option maxRecDepth 100000 in
theorem w_1222 : Cond.methodLink "CascaderyLaw" 145 yX11_setPart ∈ BG := bg_in 1222 (by decide +kernel) (by decide +kernel)
set_option maxRecDepth 100000 in
theorem w_1226 : Cond.methodLink "CascaderyLaw" 148 yL_selects ∈ BG := bg_in 1226 (by decide +kernel) (by decide +kernel)
set_option maxRecDepth 100000 in
theorem w_1280 : Cond.methodLink "CascaderyLaw" 154 yL_rules ∈ BG := bg_in 1280 (by decide +kernel) (by decide +kernel)
set_option maxRecDepth 100000 in
theorem w_1354 : Cond.methodLink "CascaderyLaw" 168 yL_whens ∈ BG := bg_in 1354 (by decide +kernel) (by decide +kernel)
set_option maxRecDepth 100000 in
theorem w_1198 : Cond.code yL_act cL_act 7 (some .int) ∈ BG := bg_in 1198 (by rfl) (by decide +kernel)
set_option maxRecDepth 100000 in
theorem w_1197 : Cond.static yL_act ∈ BG := bg_in 1197 (by decide +kernel) (by decide +kernel)
theorem dL_act_0 : decode cL_act 0 = .ok (.iload_n 2, 1) := by decide +kernel
theorem dL_act_1 : decode cL_act 1 = .ok (.aload_n 1, 1) := by decide +kernel
theorem dL_act_2 : decode cL_act 2 = .ok (.iconst 0, 1) := by decide +kernel
theorem dL_act_3 : decode cL_act 3 = .ok (.iaload, 1) := by decide +kernel
theorem dL_act_4 : decode cL_act 4 = .ok (.iconst 1, 1) := by decide +kernel
theorem dL_act_5 : decode cL_act 5 = .ok (.iadd, 1) := by decide +kernel
theorem dL_act_6 : decode cL_act 6 = .ok (.invokestatic 109, 3) := by decide +kernel
theorem dL_act_9 : decode cL_act 9 = .ok (.iload_n 2, 1) := by decide +kernel
theorem dL_act_10 : decode cL_act 10 = .ok (.bipush 9, 2) := by decide +kernel
theorem dL_act_12 : decode cL_act 12 = .ok (.ishr, 1) := by decide +kernel
theorem dL_act_13 : decode cL_act 13 = .ok (.bipush 29, 2) := by decide +kernel
theorem dL_act_15 : decode cL_act 15 = .ok (.invokestatic 109, 3) := by decide +kernel
theorem dL_act_18 : decode cL_act 18 = .ok (.bipush 28, 2) := by decide +kernel
theorem dL_act_20 : decode cL_act 20 = .ok (.idiv, 1) := by decide +kernel
theorem dL_act_21 : decode cL_act 21 = .ok (.isub, 1) := by decide +kernel
theorem dL_act_22 : decode cL_act 22 = .ok (.istore 4, 2) := by decide +kernel
theorem dL_act_24 : decode cL_act 24 = .ok (.iload_n 2, 1) := by decide +kernel
theorem dL_act_25 : decode cL_act 25 = .ok (.iconst 4, 1) := by decide +kernel
theorem dL_act_26 : decode cL_act 26 = .ok (.ishr, 1) := by decide +kernel
theorem dL_act_27 : decode cL_act 27 = .ok (.aload_n 1, 1) := by decide +kernel
theorem dL_act_28 : decode cL_act 28 = .ok (.iconst 0, 1) := by decide +kernel
theorem dL_act_29 : decode cL_act 29 = .ok (.iaload, 1) := by decide +kernel
theorem dL_act_30 : decode cL_act 30 = .ok (.invokestatic 109, 3) := by decide +kernel
theorem dL_act_33 : decode cL_act 33 = .ok (.istore 5, 2) := by decide +kernel
theorem dL_act_35 : decode cL_act 35 = .ok (.iload_n 3, 1) := by decide +kernel
theorem dL_act_36 : decode cL_act 36 = .ok (.tableswitch 755 0 14 #[76, 102, 102, 119, 136, 166, 217, 265, 324, 331, 400, 400, 536, 635, 728], 76) := by decide +kernel
theorem dL_act_112 : decode cL_act 112 = .ok (.aload_n 0, 1) := by decide +kernel
theorem dL_act_113 : decode cL_act 113 = .ok (.aload_n 1, 1) := by decide +kernel
theorem dL_act_114 : decode cL_act 114 = .ok (.iload_n 2, 1) := by decide +kernel
theorem dL_act_115 : decode cL_act 115 = .ok (.iconst 3, 1) := by decide +kernel
theorem dL_act_116 : decode cL_act 116 = .ok (.invokestatic 109, 3) := by decide +kernel
theorem dL_act_119 : decode cL_act 119 = .ok (.ifCond .ne 8, 3) := by decide +kernel
theorem dL_act_122 : decode cL_act 122 = .ok (.bipush 7, 2) := by decide +kernel
theorem dL_act_124 : decode cL_act 124 = .ok (.goto 10, 3) := by decide +kernel
theorem dL_act_127 : decode cL_act 127 = .ok (.iload_n 2, 1) := by decide +kernel
theorem dL_act_128 : decode cL_act 128 = .ok (.iconst 2, 1) := by decide +kernel
theorem dL_act_129 : decode cL_act 129 = .ok (.ishr, 1) := by decide +kernel
theorem dL_act_130 : decode cL_act 130 = .ok (.iconst 4, 1) := by decide +kernel
theorem dL_act_131 : decode cL_act 131 = .ok (.invokestatic 109, 3) := by decide +kernel
theorem dL_act_134 : decode cL_act 134 = .ok (.invokestatic 123, 3) := by decide +kernel
theorem dL_act_137 : decode cL_act 137 = .ok (.ireturn, 1) := by decide +kernel
theorem dL_act_138 : decode cL_act 138 = .ok (.aload_n 0, 1) := by decide +kernel
theorem dL_act_139 : decode cL_act 139 = .ok (.iload 4, 2) := by decide +kernel
theorem dL_act_141 : decode cL_act 141 = .ok (.iload 5, 2) := by decide +kernel
theorem dL_act_143 : decode cL_act 143 = .ok (.iload_n 2, 1) := by decide +kernel
theorem dL_act_144 : decode cL_act 144 = .ok (.bipush 8, 2) := by decide +kernel
theorem dL_act_146 : decode cL_act 146 = .ok (.ishr, 1) := by decide +kernel
theorem dL_act_147 : decode cL_act 147 = .ok (.iconst 2, 1) := by decide +kernel
theorem dL_act_148 : decode cL_act 148 = .ok (.invokestatic 109, 3) := by decide +kernel
theorem dL_act_151 : decode cL_act 151 = .ok (.invokestatic 126, 3) := by decide +kernel
theorem dL_act_154 : decode cL_act 154 = .ok (.ireturn, 1) := by decide +kernel
theorem dL_act_155 : decode cL_act 155 = .ok (.aload_n 0, 1) := by decide +kernel
theorem dL_act_156 : decode cL_act 156 = .ok (.iload 4, 2) := by decide +kernel
theorem dL_act_158 : decode cL_act 158 = .ok (.iload 5, 2) := by decide +kernel
theorem dL_act_160 : decode cL_act 160 = .ok (.iload_n 2, 1) := by decide +kernel
theorem dL_act_161 : decode cL_act 161 = .ok (.bipush 8, 2) := by decide +kernel
theorem dL_act_163 : decode cL_act 163 = .ok (.ishr, 1) := by decide +kernel
theorem dL_act_164 : decode cL_act 164 = .ok (.iconst 2, 1) := by decide +kernel
theorem dL_act_165 : decode cL_act 165 = .ok (.invokestatic 109, 3) := by decide +kernel
theorem dL_act_168 : decode cL_act 168 = .ok (.invokestatic 129, 3) := by decide +kernel
theorem dL_act_171 : decode cL_act 171 = .ok (.ireturn, 1) := by decide +kernel
theorem dL_act_172 : decode cL_act 172 = .ok (.iload_n 2, 1) := by decide +kernel
theorem dL_act_173 : decode cL_act 173 = .ok (.bipush 6, 2) := by decide +kernel
theorem dL_act_175 : decode cL_act 175 = .ok (.ishr, 1) := by decide +kernel
theorem dL_act_176 : decode cL_act 176 = .ok (.iconst 3, 1) := by decide +kernel
theorem dL_act_177 : decode cL_act 177 = .ok (.invokestatic 109, 3) := by decide +kernel
theorem dL_act_180 : decode cL_act 180 = .ok (.ifCond .ne 19, 3) := by decide +kernel
theorem dL_act_183 : decode cL_act 183 = .ok (.aload_n 1, 1) := by decide +kernel
theorem dL_act_184 : decode cL_act 184 = .ok (.bipush 7, 2) := by decide +kernel
theorem dL_act_186 : decode cL_act 186 = .ok (.iaload, 1) := by decide +kernel
theorem dL_act_187 : decode cL_act 187 = .ok (.ifCond .ne 12, 3) := by decide +kernel
theorem dL_act_190 : decode cL_act 190 = .ok (.aload_n 0, 1) := by decide +kernel
theorem dL_act_191 : decode cL_act 191 = .ok (.iload 4, 2) := by decide +kernel
theorem dL_act_193 : decode cL_act 193 = .ok (.invokestatic 132, 3) := by decide +kernel
theorem dL_act_196 : decode cL_act 196 = .ok (.goto 5, 3) := by decide +kernel
theorem dL_act_199 : decode cL_act 199 = .ok (.bipush (-9), 2) := by decide +kernel
theorem dL_act_201 : decode cL_act 201 = .ok (.ireturn, 1) := by decide +kernel
theorem dL_act_202 : decode cL_act 202 = .ok (.iload_n 2, 1) := by decide +kernel
theorem dL_act_203 : decode cL_act 203 = .ok (.bipush 6, 2) := by decide +kernel
theorem dL_act_205 : decode cL_act 205 = .ok (.ishr, 1) := by decide +kernel
theorem dL_act_206 : decode cL_act 206 = .ok (.iconst 2, 1) := by decide +kernel
theorem dL_act_207 : decode cL_act 207 = .ok (.invokestatic 109, 3) := by decide +kernel
theorem dL_act_210 : decode cL_act 210 = .ok (.ifCond .ne 19, 3) := by decide +kernel
theorem dL_act_213 : decode cL_act 213 = .ok (.aload_n 1, 1) := by decide +kernel
theorem dL_act_214 : decode cL_act 214 = .ok (.bipush 8, 2) := by decide +kernel
theorem dL_act_216 : decode cL_act 216 = .ok (.iaload, 1) := by decide +kernel
theorem dL_act_217 : decode cL_act 217 = .ok (.ifCond .ne 12, 3) := by decide +kernel
theorem dL_act_220 : decode cL_act 220 = .ok (.aload_n 0, 1) := by decide +kernel
theorem dL_act_221 : decode cL_act 221 = .ok (.iload 4, 2) := by decide +kernel
theorem dL_act_223 : decode cL_act 223 = .ok (.invokestatic 135, 3) := by decide +kernel
theorem dL_act_226 : decode cL_act 226 = .ok (.goto 5, 3) := by decide +kernel
theorem dL_act_229 : decode cL_act 229 = .ok (.bipush (-9), 2) := by decide +kernel
theorem dL_act_231 : decode cL_act 231 = .ok (.istore 6, 2) := by decide +kernel
theorem dL_act_233 : decode cL_act 233 = .ok (.aload_n 1, 1) := by decide +kernel
theorem dL_act_234 : decode cL_act 234 = .ok (.bipush 8, 2) := by decide +kernel
theorem dL_act_236 : decode cL_act 236 = .ok (.dup2, 1) := by decide +kernel
theorem dL_act_237 : decode cL_act 237 = .ok (.iaload, 1) := by decide +kernel
theorem dL_act_238 : decode cL_act 238 = .ok (.iload 6, 2) := by decide +kernel
theorem dL_act_240 : decode cL_act 240 = .ok (.ifCond .ne 7, 3) := by decide +kernel
theorem dL_act_243 : decode cL_act 243 = .ok (.iconst 1, 1) := by decide +kernel
theorem dL_act_244 : decode cL_act 244 = .ok (.goto 4, 3) := by decide +kernel
theorem dL_act_247 : decode cL_act 247 = .ok (.iconst 0, 1) := by decide +kernel
theorem dL_act_248 : decode cL_act 248 = .ok (.iadd, 1) := by decide +kernel
theorem dL_act_249 : decode cL_act 249 = .ok (.iastore, 1) := by decide +kernel
theorem dL_act_250 : decode cL_act 250 = .ok (.iload 6, 2) := by decide +kernel
theorem dL_act_252 : decode cL_act 252 = .ok (.ireturn, 1) := by decide +kernel
theorem dL_act_253 : decode cL_act 253 = .ok (.iload 4, 2) := by decide +kernel
theorem dL_act_255 : decode cL_act 255 = .ok (.ifCond .lt 11, 3) := by decide +kernel
theorem dL_act_258 : decode cL_act 258 = .ok (.iload 4, 2) := by decide +kernel
theorem dL_act_260 : decode cL_act 260 = .ok (.aload_n 1, 1) := by decide +kernel
theorem dL_act_261 : decode cL_act 261 = .ok (.iconst 0, 1) := by decide +kernel
theorem dL_act_262 : decode cL_act 262 = .ok (.iaload, 1) := by decide +kernel
theorem dL_act_263 : decode cL_act 263 = .ok (.if_icmp .lt 6, 3) := by decide +kernel
theorem dL_act_266 : decode cL_act 266 = .ok (.bipush (-9), 2) := by decide +kernel
theorem dL_act_268 : decode cL_act 268 = .ok (.ireturn, 1) := by decide +kernel
theorem dL_act_269 : decode cL_act 269 = .ok (.aload_n 0, 1) := by decide +kernel
theorem dL_act_270 : decode cL_act 270 = .ok (.iload 4, 2) := by decide +kernel
theorem dL_act_272 : decode cL_act 272 = .ok (.iload_n 2, 1) := by decide +kernel
theorem dL_act_273 : decode cL_act 273 = .ok (.iconst 5, 1) := by decide +kernel
theorem dL_act_274 : decode cL_act 274 = .ok (.ishr, 1) := by decide +kernel
theorem dL_act_275 : decode cL_act 275 = .ok (.iconst 3, 1) := by decide +kernel
theorem dL_act_276 : decode cL_act 276 = .ok (.invokestatic 109, 3) := by decide +kernel
theorem dL_act_279 : decode cL_act 279 = .ok (.iload_n 2, 1) := by decide +kernel
theorem dL_act_280 : decode cL_act 280 = .ok (.bipush 7, 2) := by decide +kernel
theorem dL_act_282 : decode cL_act 282 = .ok (.ishr, 1) := by decide +kernel
theorem dL_act_283 : decode cL_act 283 = .ok (.iconst 2, 1) := by decide +kernel
theorem dL_act_284 : decode cL_act 284 = .ok (.invokestatic 109, 3) := by decide +kernel
theorem dL_act_287 : decode cL_act 287 = .ok (.ifCond .ne 7, 3) := by decide +kernel
theorem dL_act_290 : decode cL_act 290 = .ok (.iconst 1, 1) := by decide +kernel
theorem dL_act_291 : decode cL_act 291 = .ok (.goto 4, 3) := by decide +kernel
theorem dL_act_294 : decode cL_act 294 = .ok (.iconst 0, 1) := by decide +kernel
theorem dL_act_295 : decode cL_act 295 = .ok (.invokevirtual 138, 3) := by decide +kernel
theorem dL_act_298 : decode cL_act 298 = .ok (.pop, 1) := by decide +kernel
theorem dL_act_299 : decode cL_act 299 = .ok (.iconst 0, 1) := by decide +kernel
theorem dL_act_300 : decode cL_act 300 = .ok (.ireturn, 1) := by decide +kernel
theorem dL_act_301 : decode cL_act 301 = .ok (.iload 4, 2) := by decide +kernel
theorem dL_act_303 : decode cL_act 303 = .ok (.ifCond .lt 11, 3) := by decide +kernel
theorem dL_act_306 : decode cL_act 306 = .ok (.iload 4, 2) := by decide +kernel
theorem dL_act_308 : decode cL_act 308 = .ok (.aload_n 1, 1) := by decide +kernel
theorem dL_act_309 : decode cL_act 309 = .ok (.iconst 0, 1) := by decide +kernel
theorem dL_act_310 : decode cL_act 310 = .ok (.iaload, 1) := by decide +kernel
theorem dL_act_311 : decode cL_act 311 = .ok (.if_icmp .lt 6, 3) := by decide +kernel
theorem dL_act_314 : decode cL_act 314 = .ok (.bipush (-9), 2) := by decide +kernel
theorem dL_act_316 : decode cL_act 316 = .ok (.ireturn, 1) := by decide +kernel
theorem dL_act_317 : decode cL_act 317 = .ok (.aload_n 0, 1) := by decide +kernel
theorem dL_act_318 : decode cL_act 318 = .ok (.iload 4, 2) := by decide +kernel
theorem dL_act_320 : decode cL_act 320 = .ok (.iload_n 2, 1) := by decide +kernel
theorem dL_act_321 : decode cL_act 321 = .ok (.iconst 5, 1) := by decide +kernel
theorem dL_act_322 : decode cL_act 322 = .ok (.ishr, 1) := by decide +kernel
theorem dL_act_323 : decode cL_act 323 = .ok (.iconst 2, 1) := by decide +kernel
theorem dL_act_324 : decode cL_act 324 = .ok (.invokestatic 109, 3) := by decide +kernel
theorem dL_act_327 : decode cL_act 327 = .ok (.iload_n 2, 1) := by decide +kernel
theorem dL_act_328 : decode cL_act 328 = .ok (.bipush 6, 2) := by decide +kernel
theorem dL_act_330 : decode cL_act 330 = .ok (.ishr, 1) := by decide +kernel
theorem dL_act_331 : decode cL_act 331 = .ok (.iconst 4, 1) := by decide +kernel
theorem dL_act_332 : decode cL_act 332 = .ok (.invokestatic 109, 3) := by decide +kernel
theorem dL_act_335 : decode cL_act 335 = .ok (.iconst 1, 1) := by decide +kernel
theorem dL_act_336 : decode cL_act 336 = .ok (.isub, 1) := by decide +kernel
theorem dL_act_337 : decode cL_act 337 = .ok (.invokevirtual 142, 3) := by decide +kernel
theorem dL_act_340 : decode cL_act 340 = .ok (.pop, 1) := by decide +kernel
theorem dL_act_341 : decode cL_act 341 = .ok (.aload_n 0, 1) := by decide +kernel
theorem dL_act_342 : decode cL_act 342 = .ok (.iload 4, 2) := by decide +kernel
theorem dL_act_344 : decode cL_act 344 = .ok (.iload_n 2, 1) := by decide +kernel
theorem dL_act_345 : decode cL_act 345 = .ok (.bipush 8, 2) := by decide +kernel
theorem dL_act_347 : decode cL_act 347 = .ok (.ishr, 1) := by decide +kernel
theorem dL_act_348 : decode cL_act 348 = .ok (.iconst 3, 1) := by decide +kernel
theorem dL_act_349 : decode cL_act 349 = .ok (.invokestatic 109, 3) := by decide +kernel
theorem dL_act_352 : decode cL_act 352 = .ok (.iconst 1, 1) := by decide +kernel
theorem dL_act_353 : decode cL_act 353 = .ok (.isub, 1) := by decide +kernel
theorem dL_act_354 : decode cL_act 354 = .ok (.invokevirtual 145, 3) := by decide +kernel
theorem dL_act_357 : decode cL_act 357 = .ok (.pop, 1) := by decide +kernel
theorem dL_act_358 : decode cL_act 358 = .ok (.iconst 0, 1) := by decide +kernel
theorem dL_act_359 : decode cL_act 359 = .ok (.ireturn, 1) := by decide +kernel
theorem dL_act_360 : decode cL_act 360 = .ok (.aload_n 0, 1) := by decide +kernel
theorem dL_act_361 : decode cL_act 361 = .ok (.aload_n 1, 1) := by decide +kernel
theorem dL_act_362 : decode cL_act 362 = .ok (.iload_n 2, 1) := by decide +kernel
theorem dL_act_363 : decode cL_act 363 = .ok (.invokestatic 148, 3) := by decide +kernel
theorem dL_act_366 : decode cL_act 366 = .ok (.ireturn, 1) := by decide +kernel
theorem dL_act_367 : decode cL_act 367 = .ok (.aload_n 1, 1) := by decide +kernel
theorem dL_act_368 : decode cL_act 368 = .ok (.iconst 2, 1) := by decide +kernel
theorem dL_act_369 : decode cL_act 369 = .ok (.iaload, 1) := by decide +kernel
theorem dL_act_370 : decode cL_act 370 = .ok (.bipush 6, 2) := by decide +kernel
theorem dL_act_372 : decode cL_act 372 = .ok (.if_icmp .ne 8, 3) := by decide +kernel
theorem dL_act_375 : decode cL_act 375 = .ok (.bipush (-9), 2) := by decide +kernel
theorem dL_act_377 : decode cL_act 377 = .ok (.goto 38, 3) := by decide +kernel
theorem dL_act_380 : decode cL_act 380 = .ok (.aload_n 0, 1) := by decide +kernel
theorem dL_act_381 : decode cL_act 381 = .ok (.iload_n 2, 1) := by decide +kernel
theorem dL_act_382 : decode cL_act 382 = .ok (.iconst 4, 1) := by decide +kernel
theorem dL_act_383 : decode cL_act 383 = .ok (.invokestatic 109, 3) := by decide +kernel
theorem dL_act_386 : decode cL_act 386 = .ok (.iload_n 2, 1) := by decide +kernel
theorem dL_act_387 : decode cL_act 387 = .ok (.iconst 2, 1) := by decide +kernel
theorem dL_act_388 : decode cL_act 388 = .ok (.ishr, 1) := by decide +kernel
theorem dL_act_389 : decode cL_act 389 = .ok (.iconst 2, 1) := by decide +kernel
theorem dL_act_390 : decode cL_act 390 = .ok (.invokestatic 109, 3) := by decide +kernel
theorem dL_act_393 : decode cL_act 393 = .ok (.ifCond .ne 7, 3) := by decide +kernel
theorem dL_act_396 : decode cL_act 396 = .ok (.iconst (-1), 1) := by decide +kernel
theorem dL_act_397 : decode cL_act 397 = .ok (.goto 5, 3) := by decide +kernel
theorem dL_act_400 : decode cL_act 400 = .ok (.iload 5, 2) := by decide +kernel
theorem dL_act_402 : decode cL_act 402 = .ok (.iload_n 2, 1) := by decide +kernel
theorem dL_act_403 : decode cL_act 403 = .ok (.iconst 5, 1) := by decide +kernel
theorem dL_act_404 : decode cL_act 404 = .ok (.ishr, 1) := by decide +kernel
theorem dL_act_405 : decode cL_act 405 = .ok (.bipush 6, 2) := by decide +kernel
theorem dL_act_407 : decode cL_act 407 = .ok (.invokestatic 109, 3) := by decide +kernel
theorem dL_act_410 : decode cL_act 410 = .ok (.iconst 1, 1) := by decide +kernel
theorem dL_act_411 : decode cL_act 411 = .ok (.isub, 1) := by decide +kernel
theorem dL_act_412 : decode cL_act 412 = .ok (.invokestatic 151, 3) := by decide +kernel
theorem dL_act_415 : decode cL_act 415 = .ok (.istore 6, 2) := by decide +kernel
theorem dL_act_417 : decode cL_act 417 = .ok (.aload_n 1, 1) := by decide +kernel
theorem dL_act_418 : decode cL_act 418 = .ok (.iconst 2, 1) := by decide +kernel
theorem dL_act_419 : decode cL_act 419 = .ok (.dup2, 1) := by decide +kernel
theorem dL_act_420 : decode cL_act 420 = .ok (.iaload, 1) := by decide +kernel
theorem dL_act_421 : decode cL_act 421 = .ok (.iload 6, 2) := by decide +kernel
theorem dL_act_423 : decode cL_act 423 = .ok (.ifCond .ge 7, 3) := by decide +kernel
theorem dL_act_426 : decode cL_act 426 = .ok (.iconst 0, 1) := by decide +kernel
theorem dL_act_427 : decode cL_act 427 = .ok (.goto 4, 3) := by decide +kernel
theorem dL_act_430 : decode cL_act 430 = .ok (.iconst 1, 1) := by decide +kernel
theorem dL_act_431 : decode cL_act 431 = .ok (.iadd, 1) := by decide +kernel
theorem dL_act_432 : decode cL_act 432 = .ok (.iastore, 1) := by decide +kernel
theorem dL_act_433 : decode cL_act 433 = .ok (.iload 6, 2) := by decide +kernel
theorem dL_act_435 : decode cL_act 435 = .ok (.ireturn, 1) := by decide +kernel
theorem dL_act_436 : decode cL_act 436 = .ok (.aload_n 1, 1) := by decide +kernel
theorem dL_act_437 : decode cL_act 437 = .ok (.iconst 3, 1) := by decide +kernel
theorem dL_act_438 : decode cL_act 438 = .ok (.iaload, 1) := by decide +kernel
theorem dL_act_439 : decode cL_act 439 = .ok (.bipush 12, 2) := by decide +kernel
theorem dL_act_441 : decode cL_act 441 = .ok (.if_icmp .eq 9, 3) := by decide +kernel
theorem dL_act_444 : decode cL_act 444 = .ok (.aload_n 1, 1) := by decide +kernel
theorem dL_act_445 : decode cL_act 445 = .ok (.iconst 2, 1) := by decide +kernel
theorem dL_act_446 : decode cL_act 446 = .ok (.iaload, 1) := by decide +kernel
theorem dL_act_447 : decode cL_act 447 = .ok (.ifCond .ne 8, 3) := by decide +kernel
theorem dL_act_450 : decode cL_act 450 = .ok (.bipush (-9), 2) := by decide +kernel
theorem dL_act_452 : decode cL_act 452 = .ok (.goto 25, 3) := by decide +kernel
theorem dL_act_455 : decode cL_act 455 = .ok (.aload_n 0, 1) := by decide +kernel
theorem dL_act_456 : decode cL_act 456 = .ok (.iload_n 2, 1) := by decide +kernel
theorem dL_act_457 : decode cL_act 457 = .ok (.aload_n 1, 1) := by decide +kernel
theorem dL_act_458 : decode cL_act 458 = .ok (.iconst 2, 1) := by decide +kernel
theorem dL_act_459 : decode cL_act 459 = .ok (.iaload, 1) := by decide +kernel
theorem dL_act_460 : decode cL_act 460 = .ok (.invokestatic 109, 3) := by decide +kernel
theorem dL_act_463 : decode cL_act 463 = .ok (.iload_n 2, 1) := by decide +kernel
theorem dL_act_464 : decode cL_act 464 = .ok (.iconst 3, 1) := by decide +kernel
theorem dL_act_465 : decode cL_act 465 = .ok (.ishr, 1) := by decide +kernel
theorem dL_act_466 : decode cL_act 466 = .ok (.aload_n 1, 1) := by decide +kernel
theorem dL_act_467 : decode cL_act 467 = .ok (.iconst 1, 1) := by decide +kernel
theorem dL_act_468 : decode cL_act 468 = .ok (.iaload, 1) := by decide +kernel
theorem dL_act_469 : decode cL_act 469 = .ok (.iconst 1, 1) := by decide +kernel
theorem dL_act_470 : decode cL_act 470 = .ok (.iadd, 1) := by decide +kernel
theorem dL_act_471 : decode cL_act 471 = .ok (.invokestatic 109, 3) := by decide +kernel
theorem dL_act_474 : decode cL_act 474 = .ok (.invokestatic 154, 3) := by decide +kernel
theorem dL_act_477 : decode cL_act 477 = .ok (.istore 6, 2) := by decide +kernel
theorem dL_act_479 : decode cL_act 479 = .ok (.iload 6, 2) := by decide +kernel
theorem dL_act_481 : decode cL_act 481 = .ok (.ifCond .lt 88, 3) := by decide +kernel
theorem dL_act_484 : decode cL_act 484 = .ok (.aload_n 1, 1) := by decide +kernel
theorem dL_act_485 : decode cL_act 485 = .ok (.iconst 3, 1) := by decide +kernel
theorem dL_act_486 : decode cL_act 486 = .ok (.dup2, 1) := by decide +kernel
theorem dL_act_487 : decode cL_act 487 = .ok (.iaload, 1) := by decide +kernel
theorem dL_act_488 : decode cL_act 488 = .ok (.iconst 1, 1) := by decide +kernel
theorem dL_act_489 : decode cL_act 489 = .ok (.iadd, 1) := by decide +kernel
theorem dL_act_490 : decode cL_act 490 = .ok (.iastore, 1) := by decide +kernel
theorem dL_act_491 : decode cL_act 491 = .ok (.aload_n 1, 1) := by decide +kernel
theorem dL_act_492 : decode cL_act 492 = .ok (.bipush 7, 2) := by decide +kernel
theorem dL_act_494 : decode cL_act 494 = .ok (.dup2, 1) := by decide +kernel
theorem dL_act_495 : decode cL_act 495 = .ok (.iaload, 1) := by decide +kernel
theorem dL_act_496 : decode cL_act 496 = .ok (.iload_n 2, 1) := by decide +kernel
theorem dL_act_497 : decode cL_act 497 = .ok (.iconst 5, 1) := by decide +kernel
theorem dL_act_498 : decode cL_act 498 = .ok (.ishr, 1) := by decide +kernel
theorem dL_act_499 : decode cL_act 499 = .ok (.bipush 7, 2) := by decide +kernel
theorem dL_act_501 : decode cL_act 501 = .ok (.invokestatic 109, 3) := by decide +kernel
theorem dL_act_504 : decode cL_act 504 = .ok (.bipush 6, 2) := by decide +kernel
theorem dL_act_506 : decode cL_act 506 = .ok (.if_icmp .ne 7, 3) := by decide +kernel
theorem dL_act_509 : decode cL_act 509 = .ok (.iconst 1, 1) := by decide +kernel
theorem dL_act_510 : decode cL_act 510 = .ok (.goto 4, 3) := by decide +kernel
theorem dL_act_513 : decode cL_act 513 = .ok (.iconst 0, 1) := by decide +kernel
theorem dL_act_514 : decode cL_act 514 = .ok (.ior, 1) := by decide +kernel
theorem dL_act_515 : decode cL_act 515 = .ok (.iastore, 1) := by decide +kernel
theorem dL_act_516 : decode cL_act 516 = .ok (.aload_n 0, 1) := by decide +kernel
theorem dL_act_517 : decode cL_act 517 = .ok (.iload 6, 2) := by decide +kernel
theorem dL_act_519 : decode cL_act 519 = .ok (.iload_n 2, 1) := by decide +kernel
theorem dL_act_520 : decode cL_act 520 = .ok (.iconst 5, 1) := by decide +kernel
theorem dL_act_521 : decode cL_act 521 = .ok (.ishr, 1) := by decide +kernel
theorem dL_act_522 : decode cL_act 522 = .ok (.bipush 7, 2) := by decide +kernel
theorem dL_act_524 : decode cL_act 524 = .ok (.invokestatic 109, 3) := by decide +kernel
theorem dL_act_527 : decode cL_act 527 = .ok (.iload_n 2, 1) := by decide +kernel
theorem dL_act_528 : decode cL_act 528 = .ok (.bipush 8, 2) := by decide +kernel
theorem dL_act_530 : decode cL_act 530 = .ok (.ishr, 1) := by decide +kernel
theorem dL_act_531 : decode cL_act 531 = .ok (.bipush 11, 2) := by decide +kernel
theorem dL_act_533 : decode cL_act 533 = .ok (.invokestatic 109, 3) := by decide +kernel
theorem dL_act_536 : decode cL_act 536 = .ok (.iload_n 2, 1) := by decide +kernel
theorem dL_act_537 : decode cL_act 537 = .ok (.bipush 9, 2) := by decide +kernel
theorem dL_act_539 : decode cL_act 539 = .ok (.ishr, 1) := by decide +kernel
theorem dL_act_540 : decode cL_act 540 = .ok (.sipush 400, 3) := by decide +kernel
theorem dL_act_543 : decode cL_act 543 = .ok (.invokestatic 109, 3) := by decide +kernel
theorem dL_act_546 : decode cL_act 546 = .ok (.bipush 50, 2) := by decide +kernel
theorem dL_act_548 : decode cL_act 548 = .ok (.isub, 1) := by decide +kernel
theorem dL_act_549 : decode cL_act 549 = .ok (.iload_n 2, 1) := by decide +kernel
theorem dL_act_550 : decode cL_act 550 = .ok (.bipush 11, 2) := by decide +kernel
theorem dL_act_552 : decode cL_act 552 = .ok (.ishr, 1) := by decide +kernel
theorem dL_act_553 : decode cL_act 553 = .ok (.iconst 4, 1) := by decide +kernel
theorem dL_act_554 : decode cL_act 554 = .ok (.invokestatic 109, 3) := by decide +kernel
theorem dL_act_557 : decode cL_act 557 = .ok (.ifCond .ne 7, 3) := by decide +kernel
theorem dL_act_560 : decode cL_act 560 = .ok (.iconst 1, 1) := by decide +kernel
theorem dL_act_561 : decode cL_act 561 = .ok (.goto 4, 3) := by decide +kernel
theorem dL_act_564 : decode cL_act 564 = .ok (.iconst 0, 1) := by decide +kernel
theorem dL_act_565 : decode cL_act 565 = .ok (.invokestatic 157, 3) := by decide +kernel
theorem dL_act_568 : decode cL_act 568 = .ok (.pop, 1) := by decide +kernel
theorem dL_act_569 : decode cL_act 569 = .ok (.iload 6, 2) := by decide +kernel
theorem dL_act_571 : decode cL_act 571 = .ok (.ireturn, 1) := by decide +kernel
theorem dL_act_572 : decode cL_act 572 = .ok (.aload_n 1, 1) := by decide +kernel
theorem dL_act_573 : decode cL_act 573 = .ok (.bipush 7, 2) := by decide +kernel
theorem dL_act_575 : decode cL_act 575 = .ok (.dup2, 1) := by decide +kernel
theorem dL_act_576 : decode cL_act 576 = .ok (.iaload, 1) := by decide +kernel
theorem dL_act_577 : decode cL_act 577 = .ok (.iload_n 2, 1) := by decide +kernel
theorem dL_act_578 : decode cL_act 578 = .ok (.iconst 4, 1) := by decide +kernel
theorem dL_act_579 : decode cL_act 579 = .ok (.ishr, 1) := by decide +kernel
theorem dL_act_580 : decode cL_act 580 = .ok (.bipush 17, 2) := by decide +kernel
theorem dL_act_582 : decode cL_act 582 = .ok (.invokestatic 109, 3) := by decide +kernel
theorem dL_act_585 : decode cL_act 585 = .ok (.bipush 6, 2) := by decide +kernel
theorem dL_act_587 : decode cL_act 587 = .ok (.if_icmp .ne 7, 3) := by decide +kernel
theorem dL_act_590 : decode cL_act 590 = .ok (.iconst 1, 1) := by decide +kernel
theorem dL_act_591 : decode cL_act 591 = .ok (.goto 4, 3) := by decide +kernel
theorem dL_act_594 : decode cL_act 594 = .ok (.iconst 0, 1) := by decide +kernel
theorem dL_act_595 : decode cL_act 595 = .ok (.ior, 1) := by decide +kernel
theorem dL_act_596 : decode cL_act 596 = .ok (.iastore, 1) := by decide +kernel
theorem dL_act_597 : decode cL_act 597 = .ok (.aload_n 0, 1) := by decide +kernel
theorem dL_act_598 : decode cL_act 598 = .ok (.iload_n 2, 1) := by decide +kernel
theorem dL_act_599 : decode cL_act 599 = .ok (.iconst 3, 1) := by decide +kernel
theorem dL_act_600 : decode cL_act 600 = .ok (.ishr, 1) := by decide +kernel
theorem dL_act_601 : decode cL_act 601 = .ok (.iconst 2, 1) := by decide +kernel
theorem dL_act_602 : decode cL_act 602 = .ok (.invokestatic 109, 3) := by decide +kernel
theorem dL_act_605 : decode cL_act 605 = .ok (.ifCond .ne 8, 3) := by decide +kernel
theorem dL_act_608 : decode cL_act 608 = .ok (.iload 4, 2) := by decide +kernel
theorem dL_act_610 : decode cL_act 610 = .ok (.goto 8, 3) := by decide +kernel
theorem dL_act_613 : decode cL_act 613 = .ok (.bipush 100, 2) := by decide +kernel
theorem dL_act_615 : decode cL_act 615 = .ok (.iload 4, 2) := by decide +kernel
theorem dL_act_617 : decode cL_act 617 = .ok (.iadd, 1) := by decide +kernel
theorem dL_act_618 : decode cL_act 618 = .ok (.iload_n 2, 1) := by decide +kernel
theorem dL_act_619 : decode cL_act 619 = .ok (.iconst 4, 1) := by decide +kernel
theorem dL_act_620 : decode cL_act 620 = .ok (.ishr, 1) := by decide +kernel
theorem dL_act_621 : decode cL_act 621 = .ok (.bipush 17, 2) := by decide +kernel
theorem dL_act_623 : decode cL_act 623 = .ok (.invokestatic 109, 3) := by decide +kernel
theorem dL_act_626 : decode cL_act 626 = .ok (.invokestatic 161, 3) := by decide +kernel
theorem dL_act_629 : decode cL_act 629 = .ok (.iload_n 2, 1) := by decide +kernel
theorem dL_act_630 : decode cL_act 630 = .ok (.bipush 6, 2) := by decide +kernel
theorem dL_act_632 : decode cL_act 632 = .ok (.ishr, 1) := by decide +kernel
theorem dL_act_633 : decode cL_act 633 = .ok (.bipush 12, 2) := by decide +kernel
theorem dL_act_635 : decode cL_act 635 = .ok (.invokestatic 109, 3) := by decide +kernel
theorem dL_act_638 : decode cL_act 638 = .ok (.iload_n 2, 1) := by decide +kernel
theorem dL_act_639 : decode cL_act 639 = .ok (.bipush 7, 2) := by decide +kernel
theorem dL_act_641 : decode cL_act 641 = .ok (.ishr, 1) := by decide +kernel
theorem dL_act_642 : decode cL_act 642 = .ok (.sipush 500, 3) := by decide +kernel
theorem dL_act_645 : decode cL_act 645 = .ok (.invokestatic 109, 3) := by decide +kernel
theorem dL_act_648 : decode cL_act 648 = .ok (.bipush 90, 2) := by decide +kernel
theorem dL_act_650 : decode cL_act 650 = .ok (.isub, 1) := by decide +kernel
theorem dL_act_651 : decode cL_act 651 = .ok (.iload_n 2, 1) := by decide +kernel
theorem dL_act_652 : decode cL_act 652 = .ok (.bipush 10, 2) := by decide +kernel
theorem dL_act_654 : decode cL_act 654 = .ok (.ishr, 1) := by decide +kernel
theorem dL_act_655 : decode cL_act 655 = .ok (.iconst 4, 1) := by decide +kernel
theorem dL_act_656 : decode cL_act 656 = .ok (.invokestatic 109, 3) := by decide +kernel
theorem dL_act_659 : decode cL_act 659 = .ok (.ifCond .ne 7, 3) := by decide +kernel
theorem dL_act_662 : decode cL_act 662 = .ok (.iconst 1, 1) := by decide +kernel
theorem dL_act_663 : decode cL_act 663 = .ok (.goto 4, 3) := by decide +kernel
theorem dL_act_666 : decode cL_act 666 = .ok (.iconst 0, 1) := by decide +kernel
theorem dL_act_667 : decode cL_act 667 = .ok (.invokestatic 157, 3) := by decide +kernel
theorem dL_act_670 : decode cL_act 670 = .ok (.ireturn, 1) := by decide +kernel
theorem dL_act_671 : decode cL_act 671 = .ok (.aload_n 1, 1) := by decide +kernel
theorem dL_act_672 : decode cL_act 672 = .ok (.bipush 7, 2) := by decide +kernel
theorem dL_act_674 : decode cL_act 674 = .ok (.dup2, 1) := by decide +kernel
theorem dL_act_675 : decode cL_act 675 = .ok (.iaload, 1) := by decide +kernel
theorem dL_act_676 : decode cL_act 676 = .ok (.iload_n 2, 1) := by decide +kernel
theorem dL_act_677 : decode cL_act 677 = .ok (.iconst 4, 1) := by decide +kernel
theorem dL_act_678 : decode cL_act 678 = .ok (.ishr, 1) := by decide +kernel
theorem dL_act_679 : decode cL_act 679 = .ok (.bipush 16, 2) := by decide +kernel
theorem dL_act_681 : decode cL_act 681 = .ok (.invokestatic 109, 3) := by decide +kernel
theorem dL_act_684 : decode cL_act 684 = .ok (.bipush 6, 2) := by decide +kernel
theorem dL_act_686 : decode cL_act 686 = .ok (.if_icmp .ne 7, 3) := by decide +kernel
theorem dL_act_689 : decode cL_act 689 = .ok (.iconst 1, 1) := by decide +kernel
theorem dL_act_690 : decode cL_act 690 = .ok (.goto 4, 3) := by decide +kernel
theorem dL_act_693 : decode cL_act 693 = .ok (.iconst 0, 1) := by decide +kernel
theorem dL_act_694 : decode cL_act 694 = .ok (.ior, 1) := by decide +kernel
theorem dL_act_695 : decode cL_act 695 = .ok (.iastore, 1) := by decide +kernel
theorem dL_act_696 : decode cL_act 696 = .ok (.aload_n 0, 1) := by decide +kernel
theorem dL_act_697 : decode cL_act 697 = .ok (.iload_n 2, 1) := by decide +kernel
theorem dL_act_698 : decode cL_act 698 = .ok (.iconst 3, 1) := by decide +kernel
theorem dL_act_699 : decode cL_act 699 = .ok (.ishr, 1) := by decide +kernel
theorem dL_act_700 : decode cL_act 700 = .ok (.iconst 2, 1) := by decide +kernel
theorem dL_act_701 : decode cL_act 701 = .ok (.invokestatic 109, 3) := by decide +kernel
theorem dL_act_704 : decode cL_act 704 = .ok (.ifCond .ne 8, 3) := by decide +kernel
theorem dL_act_707 : decode cL_act 707 = .ok (.iload 4, 2) := by decide +kernel
theorem dL_act_709 : decode cL_act 709 = .ok (.goto 8, 3) := by decide +kernel
theorem dL_act_712 : decode cL_act 712 = .ok (.bipush 100, 2) := by decide +kernel
theorem dL_act_714 : decode cL_act 714 = .ok (.iload 4, 2) := by decide +kernel
theorem dL_act_716 : decode cL_act 716 = .ok (.iadd, 1) := by decide +kernel
theorem dL_act_717 : decode cL_act 717 = .ok (.iload_n 2, 1) := by decide +kernel
theorem dL_act_718 : decode cL_act 718 = .ok (.iconst 4, 1) := by decide +kernel
theorem dL_act_719 : decode cL_act 719 = .ok (.ishr, 1) := by decide +kernel
theorem dL_act_720 : decode cL_act 720 = .ok (.bipush 16, 2) := by decide +kernel
theorem dL_act_722 : decode cL_act 722 = .ok (.invokestatic 109, 3) := by decide +kernel
theorem dL_act_725 : decode cL_act 725 = .ok (.invokestatic 161, 3) := by decide +kernel
theorem dL_act_728 : decode cL_act 728 = .ok (.bipush 11, 2) := by decide +kernel
theorem dL_act_730 : decode cL_act 730 = .ok (.iload_n 2, 1) := by decide +kernel
theorem dL_act_731 : decode cL_act 731 = .ok (.bipush 8, 2) := by decide +kernel
theorem dL_act_733 : decode cL_act 733 = .ok (.ishr, 1) := by decide +kernel
theorem dL_act_734 : decode cL_act 734 = .ok (.iconst 5, 1) := by decide +kernel
theorem dL_act_735 : decode cL_act 735 = .ok (.invokestatic 109, 3) := by decide +kernel
theorem dL_act_738 : decode cL_act 738 = .ok (.iadd, 1) := by decide +kernel
theorem dL_act_739 : decode cL_act 739 = .ok (.iload_n 2, 1) := by decide +kernel
theorem dL_act_740 : decode cL_act 740 = .ok (.bipush 10, 2) := by decide +kernel
theorem dL_act_742 : decode cL_act 742 = .ok (.ishr, 1) := by decide +kernel
theorem dL_act_743 : decode cL_act 743 = .ok (.bipush 9, 2) := by decide +kernel
theorem dL_act_745 : decode cL_act 745 = .ok (.invokestatic 109, 3) := by decide +kernel
theorem dL_act_748 : decode cL_act 748 = .ok (.iconst 1, 1) := by decide +kernel
theorem dL_act_749 : decode cL_act 749 = .ok (.isub, 1) := by decide +kernel
theorem dL_act_750 : decode cL_act 750 = .ok (.iload_n 2, 1) := by decide +kernel
theorem dL_act_751 : decode cL_act 751 = .ok (.bipush 7, 2) := by decide +kernel
theorem dL_act_753 : decode cL_act 753 = .ok (.ishr, 1) := by decide +kernel
theorem dL_act_754 : decode cL_act 754 = .ok (.sipush 200, 3) := by decide +kernel
theorem dL_act_757 : decode cL_act 757 = .ok (.invokestatic 109, 3) := by decide +kernel
theorem dL_act_760 : decode cL_act 760 = .ok (.invokestatic 164, 3) := by decide +kernel
theorem dL_act_763 : decode cL_act 763 = .ok (.ireturn, 1) := by decide +kernel
theorem dL_act_764 : decode cL_act 764 = .ok (.aload_n 0, 1) := by decide +kernel
theorem dL_act_765 : decode cL_act 765 = .ok (.iload 4, 2) := by decide +kernel
theorem dL_act_767 : decode cL_act 767 = .ok (.iload_n 2, 1) := by decide +kernel
theorem dL_act_768 : decode cL_act 768 = .ok (.iconst 4, 1) := by decide +kernel
theorem dL_act_769 : decode cL_act 769 = .ok (.ishr, 1) := by decide +kernel
theorem dL_act_770 : decode cL_act 770 = .ok (.bipush 7, 2) := by decide +kernel
theorem dL_act_772 : decode cL_act 772 = .ok (.invokestatic 109, 3) := by decide +kernel
theorem dL_act_775 : decode cL_act 775 = .ok (.iconst 1, 1) := by decide +kernel
theorem dL_act_776 : decode cL_act 776 = .ok (.isub, 1) := by decide +kernel
theorem dL_act_777 : decode cL_act 777 = .ok (.iload_n 2, 1) := by decide +kernel
theorem dL_act_778 : decode cL_act 778 = .ok (.bipush 7, 2) := by decide +kernel
theorem dL_act_780 : decode cL_act 780 = .ok (.ishr, 1) := by decide +kernel
theorem dL_act_781 : decode cL_act 781 = .ok (.sipush 900, 3) := by decide +kernel
theorem dL_act_784 : decode cL_act 784 = .ok (.invokestatic 109, 3) := by decide +kernel
theorem dL_act_787 : decode cL_act 787 = .ok (.invokestatic 168, 3) := by decide +kernel
theorem dL_act_790 : decode cL_act 790 = .ok (.ireturn, 1) := by decide +kernel
theorem dL_act_791 : decode cL_act 791 = .ok (.aload_n 1, 1) := by decide +kernel
theorem dL_act_792 : decode cL_act 792 = .ok (.iconst 2, 1) := by decide +kernel
theorem dL_act_793 : decode cL_act 793 = .ok (.iaload, 1) := by decide +kernel
theorem dL_act_794 : decode cL_act 794 = .ok (.ifCond .le 30, 3) := by decide +kernel
theorem dL_act_797 : decode cL_act 797 = .ok (.aload_n 0, 1) := by decide +kernel
theorem dL_act_798 : decode cL_act 798 = .ok (.iload_n 2, 1) := by decide +kernel
theorem dL_act_799 : decode cL_act 799 = .ok (.aload_n 1, 1) := by decide +kernel
theorem dL_act_800 : decode cL_act 800 = .ok (.iconst 2, 1) := by decide +kernel
theorem dL_act_801 : decode cL_act 801 = .ok (.iaload, 1) := by decide +kernel
theorem dL_act_802 : decode cL_act 802 = .ok (.invokestatic 109, 3) := by decide +kernel
theorem dL_act_805 : decode cL_act 805 = .ok (.iload_n 2, 1) := by decide +kernel
theorem dL_act_806 : decode cL_act 806 = .ok (.iconst 4, 1) := by decide +kernel
theorem dL_act_807 : decode cL_act 807 = .ok (.ishr, 1) := by decide +kernel
theorem dL_act_808 : decode cL_act 808 = .ok (.iconst 4, 1) := by decide +kernel
theorem dL_act_809 : decode cL_act 809 = .ok (.invokestatic 109, 3) := by decide +kernel
theorem dL_act_812 : decode cL_act 812 = .ok (.ifCond .le 7, 3) := by decide +kernel
theorem dL_act_815 : decode cL_act 815 = .ok (.iconst 1, 1) := by decide +kernel
theorem dL_act_816 : decode cL_act 816 = .ok (.goto 4, 3) := by decide +kernel
theorem dL_act_819 : decode cL_act 819 = .ok (.iconst 0, 1) := by decide +kernel
theorem dL_act_820 : decode cL_act 820 = .ok (.invokevirtual 171, 3) := by decide +kernel
theorem dL_act_823 : decode cL_act 823 = .ok (.pop, 1) := by decide +kernel
theorem dL_act_824 : decode cL_act 824 = .ok (.aload_n 0, 1) := by decide +kernel
theorem dL_act_825 : decode cL_act 825 = .ok (.iload_n 2, 1) := by decide +kernel
theorem dL_act_826 : decode cL_act 826 = .ok (.iconst 3, 1) := by decide +kernel
theorem dL_act_827 : decode cL_act 827 = .ok (.ishr, 1) := by decide +kernel
theorem dL_act_828 : decode cL_act 828 = .ok (.sipush 1500, 3) := by decide +kernel
theorem dL_act_831 : decode cL_act 831 = .ok (.invokestatic 109, 3) := by decide +kernel
theorem dL_act_834 : decode cL_act 834 = .ok (.invokevirtual 175, 3) := by decide +kernel
theorem dL_act_837 : decode cL_act 837 = .ok (.ireturn, 1) := by decide +kernel

section LP5
variable {p : Program} {l : Launch} {e : Env} {R : Room} {s : State} {m : MethodId} {args : Array Value} {below : List Frame} {meth : Method} {c : Code} {H : Heap} {locs : List Loc} {cells slots fR mC mS lR : Nat} {Q : State → Prop} {cc : ByteArray} {pc : Nat} {ls : Array Slot} {rest : List Value} {D : cD} {Φ Φ1 : cG} {nL : Nat} {S : cS} {ret : Option FieldType} {own : String} {b : Nat × Nat} {V V' : lwS}
theorem l_runS5 {y : MethodName} {cy : ByteArray} {maxL : Nat} {rt : Option FieldType} {fr mc ms lo idx n : Nat} {Qc : Array Value → State → Outcome → State → Prop} {free : Addr → Prop} {As st0 : List Value} (X : lwX p s m args meth c cc nL ret D b) (hM : Met l y (Cond.code y cy maxL rt :: BG) (rA fr mc ms lo) (lwPc D b V As) Qc mc ms free)
    (hw : Cond.methodLink "CascaderyLaw" idx y ∈ BG ∧ Cond.static y ∈ BG ∧ Cond.initialized y.cls ∈ BG ∧ Cond.code y cy maxL rt ∈ BG)
    (hy : y.cls ≠ "java/lang/invoke/MethodHandle" ∧ y.cls ≠ "java/lang/invoke/VarHandle" ∧ (parseMethodDescriptor y.desc).map (fun d => d.parameters.length) = some n) (hn : As.length = n)
    (hr : fr + 1 ≤ fR ∧ 8 + (maxL + 11) + lo ≤ lR) (hI : lwI D b V H) (hS : va_S (cReg (lwO b)) s.heap H locs) (hl : ls.size = nL) (hW : (rest.map fun v => v.category).sum ≤ 8) (hdg : decode cc pc = .ok (.invokestatic idx, 3)) (hst : st0 = As.reverse ++ rest) (hf : cells + mc ≤ mC ∧ slots + ms ≤ mS) :
    va_Run p l e (rA fR mC mS lR) s m args below meth c H locs cells slots mc ms (F0 m pc ls st0) rest (Qc As.toArray) free := by
  subst hst
  have hG : GoodIn BG (va_wsS "CascaderyLaw" idx y (Cond.code y cy maxL rt :: BG)) := bg_all (fun w h => by
    rcases List.mem_append.mp h with h | h
    · rcases List.mem_cons.mp h with rfl | h
      · exact hw.1
      · rcases List.mem_cons.mp h with rfl | h
        · exact hw.2.1
        · rw [List.mem_singleton.mp h]
          exact hw.2.2.1
    · rcases List.mem_cons.mp h with rfl | h
      · exact hw.2.2.2
      · exact h)
  exact va_runS (As := As) (rest := rest) (n := n) ⟨X.1.1, X.1.2.1, X.1.2.2.1, X.1.2.2.2.1, X.1.2.2.2.2.1⟩ hM (va_cwS n X.1.2.2.2.2.1 hG rfl rfl rfl hy hr) ⟨lw_blind, lw_pre X hI hS⟩ rfl hn hl rfl (lv_room hW) hdg hf
end LP5
def f_L_act_824  (x2 : Int32) (V : lwS) : Option (Int32 × lwS) := (f_L_low ((x2 >>> ((3:Int32) &&& 31))) ((1500:Int32)) V).bind (fun v1 => (oC (f_setWidth (v1.1)) v1.2).bind (fun v2 => some (v2.1, v2.2)))
def f_L_act_820  (x2 : Int32) (y1 : Int32) (y2 : Int32) (V : lwS) : Option (Int32 × lwS) := (if y2 = 0 ∨ y2 = 1 then oC (f_turn (y1) (y2)) V else none).bind (fun v1 => f_L_act_824 (x2) v1.2)
def f_L_act_134  (y1 : Nat) (y2 : Int32) (V : lwS) : Option (Int32 × lwS) := (f_L_make (y1) (y2) V).bind (fun v1 => some (v1.1, v1.2))
def f_L_act_201  (y0 : Int32) (V : lwS) : Option (Int32 × lwS) := some (y0, V)
def f_L_act_199   (V : lwS) : Option (Int32 × lwS) := f_L_act_201 (((-9):Int32)) V
def f_L_act_248  (x6 : Int32) (y0 : Nat) (y1 : Int32) (y2 : Int32) (y3 : Int32) (V : lwS) : Option (Int32 × lwS) := (stA V y0 y1 (y2 + y3)).bind (fun v1 => some (x6, v1))
def f_L_act_231  (x1 : Nat) (y0 : Int32) (V : lwS) : Option (Int32 × lwS) := (ldA V x1 (8:Int32)).bind (fun v1 => if y0 = (0:Int32) then (f_L_act_248 (y0) (x1) ((8:Int32)) (v1) ((1:Int32)) V) else (f_L_act_248 (y0) (x1) ((8:Int32)) (v1) ((0:Int32)) V))
def f_L_act_229  (x1 : Nat) (V : lwS) : Option (Int32 × lwS) := f_L_act_231 (x1) (((-9):Int32)) V
def f_L_act_266   (V : lwS) : Option (Int32 × lwS) := some (((-9):Int32), V)
def f_L_act_295  (y1 : Int32) (y2 : Int32) (y3 : Int32) (V : lwS) : Option (Int32 × lwS) := (if y3 = 0 ∨ y3 = 1 then oC (f_setClass (y1) (y2) (y3)) V else none).bind (fun v1 => some ((0:Int32), v1.2))
def f_L_act_314   (V : lwS) : Option (Int32 × lwS) := some (((-9):Int32), V)
def f_L_act_431  (x6 : Int32) (y0 : Nat) (y1 : Int32) (y2 : Int32) (y3 : Int32) (V : lwS) : Option (Int32 × lwS) := (stA V y0 y1 (y2 + y3)).bind (fun v1 => some (x6, v1))
def f_L_act_415  (x1 : Nat) (y0 : Int32) (V : lwS) : Option (Int32 × lwS) := (ldA V x1 (2:Int32)).bind (fun v1 => if (0:Int32) ≤ y0 then (f_L_act_431 (y0) (x1) ((2:Int32)) (v1) ((1:Int32)) V) else (f_L_act_431 (y0) (x1) ((2:Int32)) (v1) ((0:Int32)) V))
def f_L_act_402  (x1 : Nat) (x2 : Int32) (y1 : Int32) (y2 : Int32) (V : lwS) : Option (Int32 × lwS) := (f_L_low ((x2 >>> ((5:Int32) &&& 31))) ((6:Int32)) V).bind (fun v1 => (f_L_sheets (y1) (y2) ((v1.1 - (1:Int32))) v1.2).bind (fun v2 => f_L_act_415 (x1) (v2.1) v2.2))
def f_L_act_569  (x6 : Int32) (V : lwS) : Option (Int32 × lwS) := some (x6, V)
def f_L_act_565  (x6 : Int32) (y1 : Int32) (y2 : Int32) (y3 : Int32) (y4 : Int32) (y5 : Int32) (V : lwS) : Option (Int32 × lwS) := (f_L_declares (y1) (y2) (y3) (y4) (y5) V).bind (fun v1 => f_L_act_569 (x6) v1.2)
def f_L_act_514  (x2 : Int32) (x6 : Int32) (y0 : Nat) (y1 : Int32) (y2 : Int32) (y3 : Int32) (V : lwS) : Option (Int32 × lwS) := (stA V y0 y1 (y2 ||| y3)).bind (fun v1 => (f_L_low ((x2 >>> ((5:Int32) &&& 31))) ((7:Int32)) v1).bind (fun v2 => (f_L_low ((x2 >>> ((8:Int32) &&& 31))) ((11:Int32)) v2.2).bind (fun v3 => (f_L_low ((x2 >>> ((9:Int32) &&& 31))) ((400:Int32)) v3.2).bind (fun v4 => (f_L_low ((x2 >>> ((11:Int32) &&& 31))) ((4:Int32)) v4.2).bind (fun v5 => if v5.1 = (0:Int32) then (f_L_act_565 (x6) (x6) (v2.1) (v3.1) ((v4.1 - (50:Int32))) ((1:Int32)) v5.2) else (f_L_act_565 (x6) (x6) (v2.1) (v3.1) ((v4.1 - (50:Int32))) ((0:Int32)) v5.2))))))
def f_L_act_477  (x1 : Nat) (x2 : Int32) (y0 : Int32) (V : lwS) : Option (Int32 × lwS) := if y0 < (0:Int32) then (f_L_act_569 (y0) V) else ((ldA V x1 (3:Int32)).bind (fun v1 => (stA V x1 (3:Int32) (v1 + (1:Int32))).bind (fun v2 => (ldA v2 x1 (7:Int32)).bind (fun v3 => (f_L_low ((x2 >>> ((5:Int32) &&& 31))) ((7:Int32)) v2).bind (fun v4 => if v4.1 = (6:Int32) then (f_L_act_514 (x2) (y0) (x1) ((7:Int32)) (v3) ((1:Int32)) v4.2) else (f_L_act_514 (x2) (y0) (x1) ((7:Int32)) (v3) ((0:Int32)) v4.2))))))
def f_L_act_450  (x1 : Nat) (x2 : Int32) (V : lwS) : Option (Int32 × lwS) := f_L_act_477 (x1) (x2) (((-9):Int32)) V
def f_L_act_667  (y1 : Int32) (y2 : Int32) (y3 : Int32) (y4 : Int32) (y5 : Int32) (V : lwS) : Option (Int32 × lwS) := (f_L_declares (y1) (y2) (y3) (y4) (y5) V).bind (fun v1 => some (v1.1, v1.2))
def f_L_act_618  (x2 : Int32) (y1 : Int32) (V : lwS) : Option (Int32 × lwS) := (f_L_low ((x2 >>> ((4:Int32) &&& 31))) ((17:Int32)) V).bind (fun v1 => (f_L_still (v1.1) v1.2).bind (fun v2 => (f_L_low ((x2 >>> ((6:Int32) &&& 31))) ((12:Int32)) v2.2).bind (fun v3 => (f_L_low ((x2 >>> ((7:Int32) &&& 31))) ((500:Int32)) v3.2).bind (fun v4 => (f_L_low ((x2 >>> ((10:Int32) &&& 31))) ((4:Int32)) v4.2).bind (fun v5 => if v5.1 = (0:Int32) then (f_L_act_667 (y1) (v2.1) (v3.1) ((v4.1 - (90:Int32))) ((1:Int32)) v5.2) else (f_L_act_667 (y1) (v2.1) (v3.1) ((v4.1 - (90:Int32))) ((0:Int32)) v5.2))))))
def f_L_act_595  (x2 : Int32) (x4 : Int32) (y0 : Nat) (y1 : Int32) (y2 : Int32) (y3 : Int32) (V : lwS) : Option (Int32 × lwS) := (stA V y0 y1 (y2 ||| y3)).bind (fun v1 => (f_L_low ((x2 >>> ((3:Int32) &&& 31))) ((2:Int32)) v1).bind (fun v2 => if v2.1 = (0:Int32) then (f_L_act_618 (x2) (x4) v2.2) else (f_L_act_618 (x2) (((100:Int32) + x4)) v2.2)))
def f_L_act_717  (x2 : Int32) (y1 : Int32) (V : lwS) : Option (Int32 × lwS) := (f_L_low ((x2 >>> ((4:Int32) &&& 31))) ((16:Int32)) V).bind (fun v1 => (f_L_still (v1.1) v1.2).bind (fun v2 => (f_L_low ((x2 >>> ((8:Int32) &&& 31))) ((5:Int32)) v2.2).bind (fun v3 => (f_L_low ((x2 >>> ((10:Int32) &&& 31))) ((9:Int32)) v3.2).bind (fun v4 => (f_L_low ((x2 >>> ((7:Int32) &&& 31))) ((200:Int32)) v4.2).bind (fun v5 => (f_L_varies (y1) (v2.1) (((11:Int32) + v3.1)) ((v4.1 - (1:Int32))) (v5.1) v5.2).bind (fun v6 => some (v6.1, v6.2)))))))
def f_L_act_694  (x2 : Int32) (x4 : Int32) (y0 : Nat) (y1 : Int32) (y2 : Int32) (y3 : Int32) (V : lwS) : Option (Int32 × lwS) := (stA V y0 y1 (y2 ||| y3)).bind (fun v1 => (f_L_low ((x2 >>> ((3:Int32) &&& 31))) ((2:Int32)) v1).bind (fun v2 => if v2.1 = (0:Int32) then (f_L_act_717 (x2) (x4) v2.2) else (f_L_act_717 (x2) (((100:Int32) + x4)) v2.2)))
def f_L_act (x1 : Nat) (x2 : Int32) (x3 : Int32) (V : lwS) : Option (Int32 × lwS) := (ldA V x1 (0:Int32)).bind (fun v1 => (f_L_low (x2) ((v1 + (1:Int32))) V).bind (fun v2 => (f_L_low ((x2 >>> ((9:Int32) &&& 31))) ((29:Int32)) v2.2).bind (fun v3 => (dv v3.1 (28:Int32)).bind (fun v4 => (ldA v3.2 x1 (0:Int32)).bind (fun v5 => (f_L_low ((x2 >>> ((4:Int32) &&& 31))) (v5) v3.2).bind (fun v6 => if x3 = (0:Int32) then ((f_L_low (x2) ((3:Int32)) v6.2).bind (fun v7 => if v7.1 = (0:Int32) then (f_L_act_134 (x1) ((7:Int32)) v7.2) else ((f_L_low ((x2 >>> ((2:Int32) &&& 31))) ((4:Int32)) v7.2).bind (fun v8 => f_L_act_134 (x1) (v8.1) v8.2)))) else (if x3 = (1:Int32) then ((f_L_low ((x2 >>> ((8:Int32) &&& 31))) ((2:Int32)) v6.2).bind (fun v9 => (f_L_puts ((v2.1 - v4)) (v6.1) (v9.1) v9.2).bind (fun v10 => some (v10.1, v10.2)))) else (if x3 = (2:Int32) then ((f_L_low ((x2 >>> ((8:Int32) &&& 31))) ((2:Int32)) v6.2).bind (fun v11 => (f_L_puts ((v2.1 - v4)) (v6.1) (v11.1) v11.2).bind (fun v12 => some (v12.1, v12.2)))) else (if x3 = (3:Int32) then ((f_L_low ((x2 >>> ((8:Int32) &&& 31))) ((2:Int32)) v6.2).bind (fun v13 => (f_L_tops ((v2.1 - v4)) (v6.1) (v13.1) v13.2).bind (fun v14 => some (v14.1, v14.2)))) else (if x3 = (4:Int32) then ((f_L_low ((x2 >>> ((6:Int32) &&& 31))) ((3:Int32)) v6.2).bind (fun v15 => if v15.1 = (0:Int32) then ((ldA v15.2 x1 (7:Int32)).bind (fun v16 => if v16 = (0:Int32) then ((f_L_takes ((v2.1 - v4)) v15.2).bind (fun v17 => f_L_act_201 (v17.1) v17.2)) else (f_L_act_199 v15.2))) else (f_L_act_199 v15.2))) else (if x3 = (5:Int32) then ((f_L_low ((x2 >>> ((6:Int32) &&& 31))) ((2:Int32)) v6.2).bind (fun v18 => if v18.1 = (0:Int32) then ((ldA v18.2 x1 (8:Int32)).bind (fun v19 => if v19 = (0:Int32) then ((f_L_shadows ((v2.1 - v4)) v18.2).bind (fun v20 => f_L_act_231 (x1) (v20.1) v20.2)) else (f_L_act_229 (x1) v18.2))) else (f_L_act_229 (x1) v18.2))) else (if x3 = (6:Int32) then (if (v2.1 - v4) < (0:Int32) then (f_L_act_266 v6.2) else ((ldA v6.2 x1 (0:Int32)).bind (fun v21 => if (v2.1 - v4) < v21 then ((f_L_low ((x2 >>> ((5:Int32) &&& 31))) ((3:Int32)) v6.2).bind (fun v22 => (f_L_low ((x2 >>> ((7:Int32) &&& 31))) ((2:Int32)) v22.2).bind (fun v23 => if v23.1 = (0:Int32) then (f_L_act_295 ((v2.1 - v4)) (v22.1) ((1:Int32)) v23.2) else (f_L_act_295 ((v2.1 - v4)) (v22.1) ((0:Int32)) v23.2)))) else (f_L_act_266 v6.2)))) else (if x3 = (7:Int32) then (if (v2.1 - v4) < (0:Int32) then (f_L_act_314 v6.2) else ((ldA v6.2 x1 (0:Int32)).bind (fun v24 => if (v2.1 - v4) < v24 then ((f_L_low ((x2 >>> ((5:Int32) &&& 31))) ((2:Int32)) v6.2).bind (fun v25 => (f_L_low ((x2 >>> ((6:Int32) &&& 31))) ((4:Int32)) v25.2).bind (fun v26 => (oC (f_setAttribute ((v2.1 - v4)) (v25.1) ((v26.1 - (1:Int32)))) v26.2).bind (fun v27 => (f_L_low ((x2 >>> ((8:Int32) &&& 31))) ((3:Int32)) v27.2).bind (fun v28 => (oC (f_setPart ((v2.1 - v4)) ((v28.1 - (1:Int32)))) v28.2).bind (fun v29 => some ((0:Int32), v29.2))))))) else (f_L_act_314 v6.2)))) else (if x3 = (8:Int32) then ((f_L_selects (x1) (x2) v6.2).bind (fun v30 => some (v30.1, v30.2))) else (if x3 = (9:Int32) then ((ldA v6.2 x1 (2:Int32)).bind (fun v31 => if v31 = (6:Int32) then (f_L_act_415 (x1) (((-9):Int32)) v6.2) else ((f_L_low (x2) ((4:Int32)) v6.2).bind (fun v32 => (f_L_low ((x2 >>> ((2:Int32) &&& 31))) ((2:Int32)) v32.2).bind (fun v33 => if v33.1 = (0:Int32) then (f_L_act_402 (x1) (x2) (v32.1) (((-1):Int32)) v33.2) else (f_L_act_402 (x1) (x2) (v32.1) (v6.1) v33.2)))))) else (if x3 = (10:Int32) then ((ldA v6.2 x1 (3:Int32)).bind (fun v34 => if v34 = (12:Int32) then (f_L_act_450 (x1) (x2) v6.2) else ((ldA v6.2 x1 (2:Int32)).bind (fun v35 => if v35 = (0:Int32) then (f_L_act_450 (x1) (x2) v6.2) else ((ldA v6.2 x1 (2:Int32)).bind (fun v36 => (f_L_low (x2) (v36) v6.2).bind (fun v37 => (ldA v37.2 x1 (1:Int32)).bind (fun v38 => (f_L_low ((x2 >>> ((3:Int32) &&& 31))) ((v38 + (1:Int32))) v37.2).bind (fun v39 => (f_L_rules (v37.1) (v39.1) v39.2).bind (fun v40 => f_L_act_477 (x1) (x2) (v40.1) v40.2)))))))))) else (if x3 = (11:Int32) then ((ldA v6.2 x1 (3:Int32)).bind (fun v41 => if v41 = (12:Int32) then (f_L_act_450 (x1) (x2) v6.2) else ((ldA v6.2 x1 (2:Int32)).bind (fun v42 => if v42 = (0:Int32) then (f_L_act_450 (x1) (x2) v6.2) else ((ldA v6.2 x1 (2:Int32)).bind (fun v43 => (f_L_low (x2) (v43) v6.2).bind (fun v44 => (ldA v44.2 x1 (1:Int32)).bind (fun v45 => (f_L_low ((x2 >>> ((3:Int32) &&& 31))) ((v45 + (1:Int32))) v44.2).bind (fun v46 => (f_L_rules (v44.1) (v46.1) v46.2).bind (fun v47 => f_L_act_477 (x1) (x2) (v47.1) v47.2)))))))))) else (if x3 = (12:Int32) then ((ldA v6.2 x1 (7:Int32)).bind (fun v48 => (f_L_low ((x2 >>> ((4:Int32) &&& 31))) ((17:Int32)) v6.2).bind (fun v49 => if v49.1 = (6:Int32) then (f_L_act_595 (x2) ((v2.1 - v4)) (x1) ((7:Int32)) (v48) ((1:Int32)) v49.2) else (f_L_act_595 (x2) ((v2.1 - v4)) (x1) ((7:Int32)) (v48) ((0:Int32)) v49.2)))) else (if x3 = (13:Int32) then ((ldA v6.2 x1 (7:Int32)).bind (fun v50 => (f_L_low ((x2 >>> ((4:Int32) &&& 31))) ((16:Int32)) v6.2).bind (fun v51 => if v51.1 = (6:Int32) then (f_L_act_694 (x2) ((v2.1 - v4)) (x1) ((7:Int32)) (v50) ((1:Int32)) v51.2) else (f_L_act_694 (x2) ((v2.1 - v4)) (x1) ((7:Int32)) (v50) ((0:Int32)) v51.2)))) else (if x3 = (14:Int32) then ((f_L_low ((x2 >>> ((4:Int32) &&& 31))) ((7:Int32)) v6.2).bind (fun v52 => (f_L_low ((x2 >>> ((7:Int32) &&& 31))) ((900:Int32)) v52.2).bind (fun v53 => (f_L_whens ((v2.1 - v4)) ((v52.1 - (1:Int32))) (v53.1) v53.2).bind (fun v54 => some (v54.1, v54.2))))) else ((ldA v6.2 x1 (2:Int32)).bind (fun v55 => if v55 ≤ (0:Int32) then (f_L_act_824 (x2) v6.2) else ((ldA v6.2 x1 (2:Int32)).bind (fun v56 => (f_L_low (x2) (v56) v6.2).bind (fun v57 => (f_L_low ((x2 >>> ((4:Int32) &&& 31))) ((4:Int32)) v57.2).bind (fun v58 => if v58.1 ≤ (0:Int32) then (f_L_act_820 (x2) (v57.1) ((0:Int32)) v58.2) else (f_L_act_820 (x2) (v57.1) ((1:Int32)) v58.2)))))))))))))))))))))))))))
set_option maxRecDepth 20000 in
set_option maxHeartbeats 4000000 in
theorem N_L_act_824 {p : Program} {l : Launch} {e : Env} {s : State} {m : MethodId} {args : Array Value} {below : List Frame} {meth : Method} {c : Code} {D : cD} {b : Nat × Nat}   {x2 : Int32} {V : lwS} {H : Heap} {locs : List Loc} {cells slots : Nat} {ls : Array Slot} {q : Int32 × lwS} (X : lwX p s m args meth c cL_act 7 (some .int) D b) (hl9 : l.stackTraces = false) (hI : lwI D b V H) (hS : va_S (cReg (lwO b)) s.heap H locs) (hBc : cells + (1 + 0) ≤ 16) (hBs : slots + (6 + 0) ≤ 151)  (hl : lv_has ls 7 [(0, cv (lwO b) (some 1)), (2, .int x2)]) (h : f_L_act_824  x2 V = some q) : W p l e (rA 10 16 151 187) s m args below meth c H locs cells slots (MQ below (lwQ D b q.2 (some (.int q.1))) args s 16 151 (cReg (lwO b))) (F0 m 824 ls []) := by
  have hx := X.1.1
  have hb := X.1.2.1
  have hown := X.1.2.2.2.1
  have hts := X.1.2.2.2.2.1
  have h : ((f_L_low ((x2 >>> ((3:Int32) &&& 31))) ((1500:Int32)) V).bind (fun v1 => (oC (f_setWidth (v1.1)) v1.2).bind (fun v2 => some (v2.1, v2.2)))) = some q := h
  refine c_aload_n hx hb dL_act_824 rfl (lv_at hl 0 rfl) ?_
  refine lv_iload_n hx hb dL_act_825 rfl (lv_at hl 1 rfl) ?_
  refine lv_iconst (v := (3:Int32)) hx hb dL_act_826 (by decide) ?_
  refine lv_ishr hx hb dL_act_827 ?_
  refine lv_sipush (v := (1500:Int32)) hx hb dL_act_828 (by decide) ?_
  obtain ⟨v1, hv1, h⟩ := ob h
  refine l_after (l_runS X (K_L_low l hl9 D b V ((x2 >>> ((3:Int32) &&& 31))) ((1500:Int32)) (v := v1.1) (V' := v1.2) hv1) ⟨w_624, ww_L_low⟩ hy_L_low rfl ⟨(Nat.le_of_ble_eq_true rfl), (Nat.le_of_ble_eq_true rfl)⟩ hI hS hl.1 (Nat.le_of_ble_eq_true rfl) dL_act_831 rfl ⟨by omega, by omega⟩) hS (fun H locs hI hS => ?_)
  refine W.eq (g2 := F0 m 834 ls [.int v1.1, cv (lwO b) (some 1)]) rfl ?_
  obtain ⟨v2, hv2, h⟩ := ob h
  refine l_cls (V := v1.2) (V' := v2.2) (f := f_X11_setWidth 1 (v1.1)) X hI hS (fun S q hq => K_X11_setWidth l hl9 D (lwF b (v1.2).2.2) S 1 (v1.1) hq) (D_setWidth hv2).2 (D_setWidth hv2).1 ⟨w_1365, ww_X11_setWidth⟩ rfl hy_X11_setWidth rfl ⟨(Nat.le_of_ble_eq_true rfl), (Nat.le_of_ble_eq_true rfl)⟩ hl.1 (Nat.le_of_ble_eq_true rfl) dL_act_834 rfl ⟨by omega, by omega⟩ (fun u H locs hu hI hS => ?_)
  subst hu
  refine W.eq (g2 := F0 m 837 ls [.int v2.1]) rfl ?_
  obtain rfl := sj h
  exact l_ri X hI hS (by omega) (by omega) dL_act_837
set_option maxRecDepth 20000 in
set_option maxHeartbeats 4000000 in
theorem N_L_act_820 {p : Program} {l : Launch} {e : Env} {s : State} {m : MethodId} {args : Array Value} {below : List Frame} {meth : Method} {c : Code} {D : cD} {b : Nat × Nat}   {x2 : Int32} {y1 : Int32} {y2 : Int32} {V : lwS} {H : Heap} {locs : List Loc} {cells slots : Nat} {ls : Array Slot} {q : Int32 × lwS} (X : lwX p s m args meth c cL_act 7 (some .int) D b) (hl9 : l.stackTraces = false) (hI : lwI D b V H) (hS : va_S (cReg (lwO b)) s.heap H locs) (hBc : cells + (2 + 0) ≤ 16) (hBs : slots + (12 + 0) ≤ 151)  (hl : lv_has ls 7 [(0, cv (lwO b) (some 1)), (2, .int x2)]) (h : f_L_act_820  x2 y1 y2 V = some q) : W p l e (rA 10 16 151 187) s m args below meth c H locs cells slots (MQ below (lwQ D b q.2 (some (.int q.1))) args s 16 151 (cReg (lwO b))) (F0 m 820 ls [.int y2, .int y1, cv (lwO b) (some 1)]) := by
  have hx := X.1.1
  have hb := X.1.2.1
  have hown := X.1.2.2.2.1
  have hts := X.1.2.2.2.2.1
  have h : ((if y2 = 0 ∨ y2 = 1 then oC (f_turn (y1) (y2)) V else none).bind (fun v1 => f_L_act_824 (x2) v1.2)) = some q := h
  obtain ⟨v1, hv1, h⟩ := ob h
  obtain ⟨hzv1, hv1⟩ := ck hv1
  refine l_cls (V := V) (V' := v1.2) (f := f_X11_turn 1 (y1) (y2)) X hI hS (fun S q hq => K_X11_turn l hl9 D (lwF b (V).2.2) S 1 (y1) (y2) hq) (D_turn hzv1 hv1).2 (D_turn hzv1 hv1).1 ⟨w_1361, ww_X11_turn⟩ rfl hy_X11_turn rfl ⟨(Nat.le_of_ble_eq_true rfl), (Nat.le_of_ble_eq_true rfl)⟩ hl.1 (Nat.le_of_ble_eq_true rfl) dL_act_820 rfl ⟨by omega, by omega⟩ (fun u H locs hu hI hS => ?_)
  refine W.eq (g2 := F0 m 823 ls [.int u]) rfl ?_
  refine lv_pop hx hb dL_act_823 rfl ?_
  exact N_L_act_824 X hl9 hI hS (by omega) (by omega) (lv_sub hl [0, 1] rfl) h
set_option maxRecDepth 20000 in
set_option maxHeartbeats 4000000 in
theorem N_L_act_134 {p : Program} {l : Launch} {e : Env} {s : State} {m : MethodId} {args : Array Value} {below : List Frame} {meth : Method} {c : Code} {D : cD} {b : Nat × Nat}   {y1 : Nat} {y2 : Int32} {V : lwS} {H : Heap} {locs : List Loc} {cells slots : Nat} {ls : Array Slot} {q : Int32 × lwS} (X : lwX p s m args meth c cL_act 7 (some .int) D b) (hl9 : l.stackTraces = false) (hI : lwI D b V H) (hS : va_S (cReg (lwO b)) s.heap H locs) (hBc : cells + (13 + 0) ≤ 16) (hBs : slots + (151 + 0) ≤ 151)  (hl : lv_has ls 7 []) (h : f_L_act_134  y1 y2 V = some q) : W p l e (rA 10 16 151 187) s m args below meth c H locs cells slots (MQ below (lwQ D b q.2 (some (.int q.1))) args s 16 151 (cReg (lwO b))) (F0 m 134 ls [.int y2, .ref y1, cv (lwO b) (some 1)]) := by
  have hx := X.1.1
  have hb := X.1.2.1
  have hown := X.1.2.2.2.1
  have hts := X.1.2.2.2.2.1
  have h : ((f_L_make (y1) (y2) V).bind (fun v1 => some (v1.1, v1.2))) = some q := h
  obtain ⟨v1, hv1, h⟩ := ob h
  refine l_after (l_runS X (K_L_make l hl9 D b V (y1) (y2) (v := v1.1) (V' := v1.2) hv1) ⟨w_628, ww_L_make⟩ hy_L_make rfl ⟨(Nat.le_of_ble_eq_true rfl), (Nat.le_of_ble_eq_true rfl)⟩ hI hS hl.1 (Nat.le_of_ble_eq_true rfl) dL_act_134 rfl ⟨by omega, by omega⟩) hS (fun H locs hI hS => ?_)
  refine W.eq (g2 := F0 m 137 ls [.int v1.1]) rfl ?_
  obtain rfl := sj h
  exact l_ri X hI hS (by omega) (by omega) dL_act_137
set_option maxRecDepth 20000 in
set_option maxHeartbeats 4000000 in
theorem N_L_act_201 {p : Program} {l : Launch} {e : Env} {s : State} {m : MethodId} {args : Array Value} {below : List Frame} {meth : Method} {c : Code} {D : cD} {b : Nat × Nat}   {y0 : Int32} {V : lwS} {H : Heap} {locs : List Loc} {cells slots : Nat} {ls : Array Slot} {q : Int32 × lwS} (X : lwX p s m args meth c cL_act 7 (some .int) D b) (hl9 : l.stackTraces = false) (hI : lwI D b V H) (hS : va_S (cReg (lwO b)) s.heap H locs) (hBc : cells + (0 + 0) ≤ 16) (hBs : slots + (0 + 0) ≤ 151)  (hl : lv_has ls 7 []) (h : f_L_act_201  y0 V = some q) : W p l e (rA 10 16 151 187) s m args below meth c H locs cells slots (MQ below (lwQ D b q.2 (some (.int q.1))) args s 16 151 (cReg (lwO b))) (F0 m 201 ls [.int y0]) := by
  have hx := X.1.1
  have hb := X.1.2.1
  have hown := X.1.2.2.2.1
  have hts := X.1.2.2.2.2.1
  have h : (some (y0, V)) = some q := h
  obtain rfl := sj h
  exact l_ri X hI hS (by omega) (by omega) dL_act_201
set_option maxRecDepth 20000 in
set_option maxHeartbeats 4000000 in
theorem N_L_act_199 {p : Program} {l : Launch} {e : Env} {s : State} {m : MethodId} {args : Array Value} {below : List Frame} {meth : Method} {c : Code} {D : cD} {b : Nat × Nat}    {V : lwS} {H : Heap} {locs : List Loc} {cells slots : Nat} {ls : Array Slot} {q : Int32 × lwS} (X : lwX p s m args meth c cL_act 7 (some .int) D b) (hl9 : l.stackTraces = false) (hI : lwI D b V H) (hS : va_S (cReg (lwO b)) s.heap H locs) (hBc : cells + (0 + 0) ≤ 16) (hBs : slots + (0 + 0) ≤ 151)  (hl : lv_has ls 7 []) (h : f_L_act_199   V = some q) : W p l e (rA 10 16 151 187) s m args below meth c H locs cells slots (MQ below (lwQ D b q.2 (some (.int q.1))) args s 16 151 (cReg (lwO b))) (F0 m 199 ls []) := by
  have hx := X.1.1
  have hb := X.1.2.1
  have hown := X.1.2.2.2.1
  have hts := X.1.2.2.2.2.1
  have h : (f_L_act_201 (((-9):Int32)) V) = some q := h
  refine lv_bipush (v := ((-9):Int32)) hx hb dL_act_199 (by decide) ?_
  exact N_L_act_201 X hl9 hI hS (by omega) (by omega) (lv_sub hl [] rfl) h
set_option maxRecDepth 20000 in
set_option maxHeartbeats 4000000 in
theorem N_L_act_248 {p : Program} {l : Launch} {e : Env} {s : State} {m : MethodId} {args : Array Value} {below : List Frame} {meth : Method} {c : Code} {D : cD} {b : Nat × Nat}   {x6 : Int32} {y0 : Nat} {y1 : Int32} {y2 : Int32} {y3 : Int32} {V : lwS} {H : Heap} {locs : List Loc} {cells slots : Nat} {ls : Array Slot} {q : Int32 × lwS} (X : lwX p s m args meth c cL_act 7 (some .int) D b) (hl9 : l.stackTraces = false) (hI : lwI D b V H) (hS : va_S (cReg (lwO b)) s.heap H locs) (hBc : cells + (0 + 0) ≤ 16) (hBs : slots + (0 + 0) ≤ 151)  (hl : lv_has ls 7 [(6, .int x6)]) (h : f_L_act_248  x6 y0 y1 y2 y3 V = some q) : W p l e (rA 10 16 151 187) s m args below meth c H locs cells slots (MQ below (lwQ D b q.2 (some (.int q.1))) args s 16 151 (cReg (lwO b))) (F0 m 248 ls [.int y3, .int y2, .int y1, .ref y0]) := by
  have hx := X.1.1
  have hb := X.1.2.1
  have hown := X.1.2.2.2.1
  have hts := X.1.2.2.2.2.1
  have h : ((stA V y0 y1 (y2 + y3)).bind (fun v1 => some (x6, v1))) = some q := h
  refine lv_iadd hx hb dL_act_248 ?_
  obtain ⟨v1, hv1, h⟩ := ob h
  refine l_ast X hI hS hv1 dL_act_249 (fun H locs hI hS => ?_)
  refine lv_iload hx hb dL_act_250 (lv_at hl 0 rfl) ?_
  obtain rfl := sj h
  exact l_ri X hI hS (by omega) (by omega) dL_act_252
set_option maxRecDepth 20000 in
set_option maxHeartbeats 4000000 in
theorem N_L_act_231 {p : Program} {l : Launch} {e : Env} {s : State} {m : MethodId} {args : Array Value} {below : List Frame} {meth : Method} {c : Code} {D : cD} {b : Nat × Nat}   {x1 : Nat} {y0 : Int32} {V : lwS} {H : Heap} {locs : List Loc} {cells slots : Nat} {ls : Array Slot} {q : Int32 × lwS} (X : lwX p s m args meth c cL_act 7 (some .int) D b) (hl9 : l.stackTraces = false) (hI : lwI D b V H) (hS : va_S (cReg (lwO b)) s.heap H locs) (hBc : cells + (0 + 0) ≤ 16) (hBs : slots + (0 + 0) ≤ 151)  (hl : lv_has ls 7 [(1, .ref x1)]) (h : f_L_act_231  x1 y0 V = some q) : W p l e (rA 10 16 151 187) s m args below meth c H locs cells slots (MQ below (lwQ D b q.2 (some (.int q.1))) args s 16 151 (cReg (lwO b))) (F0 m 231 ls [.int y0]) := by
  have hx := X.1.1
  have hb := X.1.2.1
  have hown := X.1.2.2.2.1
  have hts := X.1.2.2.2.2.1
  have h : ((ldA V x1 (8:Int32)).bind (fun v1 => if y0 = (0:Int32) then (f_L_act_248 (y0) (x1) ((8:Int32)) (v1) ((1:Int32)) V) else (f_L_act_248 (y0) (x1) ((8:Int32)) (v1) ((0:Int32)) V))) = some q := h
  refine c_istore hx hb dL_act_231 hl (Nat.le_of_ble_eq_true rfl) (lvKa rfl lvK0) rfl (fun ls (hl : lv_has ls 7 [(6, .int y0), (1, .ref x1)]) => ?_)
  refine lv_aload_n hx hb dL_act_233 rfl (lv_at hl 1 rfl) ?_
  refine lv_bipush (v := (8:Int32)) hx hb dL_act_234 (by decide) ?_
  refine lv_dup2_11 hx hb dL_act_236 rfl rfl ?_
  obtain ⟨v1, hv1, h⟩ := ob h
  refine l_ald X hI hv1 dL_act_237 ?_
  refine lv_iload hx hb dL_act_238 (lv_at hl 0 rfl) ?_
  refine lv_if_ne (tgt := 247) hx hb dL_act_240 rfl (fun hc => ?_) (fun hc => ?_)
  · have h := ine hc h
    refine lv_iconst (v := (0:Int32)) hx hb dL_act_247 (by decide) ?_
    exact N_L_act_248 X hl9 hI hS (by omega) (by omega) (lv_sub hl [0] rfl) h
  · have h := ip hc h
    refine lv_iconst (v := (1:Int32)) hx hb dL_act_243 (by decide) ?_
    refine lv_goto (tgt := 248) hx hb dL_act_244 rfl ?_
    exact N_L_act_248 X hl9 hI hS (by omega) (by omega) (lv_sub hl [0] rfl) h
set_option maxRecDepth 20000 in
set_option maxHeartbeats 4000000 in
theorem N_L_act_229 {p : Program} {l : Launch} {e : Env} {s : State} {m : MethodId} {args : Array Value} {below : List Frame} {meth : Method} {c : Code} {D : cD} {b : Nat × Nat}   {x1 : Nat} {V : lwS} {H : Heap} {locs : List Loc} {cells slots : Nat} {ls : Array Slot} {q : Int32 × lwS} (X : lwX p s m args meth c cL_act 7 (some .int) D b) (hl9 : l.stackTraces = false) (hI : lwI D b V H) (hS : va_S (cReg (lwO b)) s.heap H locs) (hBc : cells + (0 + 0) ≤ 16) (hBs : slots + (0 + 0) ≤ 151)  (hl : lv_has ls 7 [(1, .ref x1)]) (h : f_L_act_229  x1 V = some q) : W p l e (rA 10 16 151 187) s m args below meth c H locs cells slots (MQ below (lwQ D b q.2 (some (.int q.1))) args s 16 151 (cReg (lwO b))) (F0 m 229 ls []) := by
  have hx := X.1.1
  have hb := X.1.2.1
  have hown := X.1.2.2.2.1
  have hts := X.1.2.2.2.2.1
  have h : (f_L_act_231 (x1) (((-9):Int32)) V) = some q := h
  refine lv_bipush (v := ((-9):Int32)) hx hb dL_act_229 (by decide) ?_
  exact N_L_act_231 X hl9 hI hS (by omega) (by omega) (lv_sub hl [0] rfl) h
set_option maxRecDepth 20000 in
set_option maxHeartbeats 4000000 in
theorem N_L_act_266 {p : Program} {l : Launch} {e : Env} {s : State} {m : MethodId} {args : Array Value} {below : List Frame} {meth : Method} {c : Code} {D : cD} {b : Nat × Nat}    {V : lwS} {H : Heap} {locs : List Loc} {cells slots : Nat} {ls : Array Slot} {q : Int32 × lwS} (X : lwX p s m args meth c cL_act 7 (some .int) D b) (hl9 : l.stackTraces = false) (hI : lwI D b V H) (hS : va_S (cReg (lwO b)) s.heap H locs) (hBc : cells + (0 + 0) ≤ 16) (hBs : slots + (0 + 0) ≤ 151)  (hl : lv_has ls 7 []) (h : f_L_act_266   V = some q) : W p l e (rA 10 16 151 187) s m args below meth c H locs cells slots (MQ below (lwQ D b q.2 (some (.int q.1))) args s 16 151 (cReg (lwO b))) (F0 m 266 ls []) := by
  have hx := X.1.1
  have hb := X.1.2.1
  have hown := X.1.2.2.2.1
  have hts := X.1.2.2.2.2.1
  have h : (some (((-9):Int32), V)) = some q := h
  refine lv_bipush (v := ((-9):Int32)) hx hb dL_act_266 (by decide) ?_
  obtain rfl := sj h
  exact l_ri X hI hS (by omega) (by omega) dL_act_268
set_option maxRecDepth 20000 in
set_option maxHeartbeats 4000000 in
theorem N_L_act_295 {p : Program} {l : Launch} {e : Env} {s : State} {m : MethodId} {args : Array Value} {below : List Frame} {meth : Method} {c : Code} {D : cD} {b : Nat × Nat}   {y1 : Int32} {y2 : Int32} {y3 : Int32} {V : lwS} {H : Heap} {locs : List Loc} {cells slots : Nat} {ls : Array Slot} {q : Int32 × lwS} (X : lwX p s m args meth c cL_act 7 (some .int) D b) (hl9 : l.stackTraces = false) (hI : lwI D b V H) (hS : va_S (cReg (lwO b)) s.heap H locs) (hBc : cells + (2 + 0) ≤ 16) (hBs : slots + (12 + 0) ≤ 151)  (hl : lv_has ls 7 []) (h : f_L_act_295  y1 y2 y3 V = some q) : W p l e (rA 10 16 151 187) s m args below meth c H locs cells slots (MQ below (lwQ D b q.2 (some (.int q.1))) args s 16 151 (cReg (lwO b))) (F0 m 295 ls [.int y3, .int y2, .int y1, cv (lwO b) (some 1)]) := by
  have hx := X.1.1
  have hb := X.1.2.1
  have hown := X.1.2.2.2.1
  have hts := X.1.2.2.2.2.1
  have h : ((if y3 = 0 ∨ y3 = 1 then oC (f_setClass (y1) (y2) (y3)) V else none).bind (fun v1 => some ((0:Int32), v1.2))) = some q := h
  obtain ⟨v1, hv1, h⟩ := ob h
  obtain ⟨hzv1, hv1⟩ := ck hv1
  refine l_cls (V := V) (V' := v1.2) (f := f_X11_setClass 1 (y1) (y2) (y3)) X hI hS (fun S q hq => K_X11_setClass l hl9 D (lwF b (V).2.2) S 1 (y1) (y2) (y3) hq) (D_setClass hzv1 hv1).2 (D_setClass hzv1 hv1).1 ⟨w_1214, ww_X11_setClass⟩ rfl hy_X11_setClass rfl ⟨(Nat.le_of_ble_eq_true rfl), (Nat.le_of_ble_eq_true rfl)⟩ hl.1 (Nat.le_of_ble_eq_true rfl) dL_act_295 rfl ⟨by omega, by omega⟩ (fun u H locs hu hI hS => ?_)
  refine W.eq (g2 := F0 m 298 ls [.int u]) rfl ?_
  refine lv_pop hx hb dL_act_298 rfl ?_
  refine lv_iconst (v := (0:Int32)) hx hb dL_act_299 (by decide) ?_
  obtain rfl := sj h
  exact l_ri X hI hS (by omega) (by omega) dL_act_300
set_option maxRecDepth 20000 in
set_option maxHeartbeats 4000000 in
theorem N_L_act_314 {p : Program} {l : Launch} {e : Env} {s : State} {m : MethodId} {args : Array Value} {below : List Frame} {meth : Method} {c : Code} {D : cD} {b : Nat × Nat}    {V : lwS} {H : Heap} {locs : List Loc} {cells slots : Nat} {ls : Array Slot} {q : Int32 × lwS} (X : lwX p s m args meth c cL_act 7 (some .int) D b) (hl9 : l.stackTraces = false) (hI : lwI D b V H) (hS : va_S (cReg (lwO b)) s.heap H locs) (hBc : cells + (0 + 0) ≤ 16) (hBs : slots + (0 + 0) ≤ 151)  (hl : lv_has ls 7 []) (h : f_L_act_314   V = some q) : W p l e (rA 10 16 151 187) s m args below meth c H locs cells slots (MQ below (lwQ D b q.2 (some (.int q.1))) args s 16 151 (cReg (lwO b))) (F0 m 314 ls []) := by
  have hx := X.1.1
  have hb := X.1.2.1
  have hown := X.1.2.2.2.1
  have hts := X.1.2.2.2.2.1
  have h : (some (((-9):Int32), V)) = some q := h
  refine lv_bipush (v := ((-9):Int32)) hx hb dL_act_314 (by decide) ?_
  obtain rfl := sj h
  exact l_ri X hI hS (by omega) (by omega) dL_act_316
set_option maxRecDepth 20000 in
set_option maxHeartbeats 4000000 in
theorem N_L_act_431 {p : Program} {l : Launch} {e : Env} {s : State} {m : MethodId} {args : Array Value} {below : List Frame} {meth : Method} {c : Code} {D : cD} {b : Nat × Nat}   {x6 : Int32} {y0 : Nat} {y1 : Int32} {y2 : Int32} {y3 : Int32} {V : lwS} {H : Heap} {locs : List Loc} {cells slots : Nat} {ls : Array Slot} {q : Int32 × lwS} (X : lwX p s m args meth c cL_act 7 (some .int) D b) (hl9 : l.stackTraces = false) (hI : lwI D b V H) (hS : va_S (cReg (lwO b)) s.heap H locs) (hBc : cells + (0 + 0) ≤ 16) (hBs : slots + (0 + 0) ≤ 151)  (hl : lv_has ls 7 [(6, .int x6)]) (h : f_L_act_431  x6 y0 y1 y2 y3 V = some q) : W p l e (rA 10 16 151 187) s m args below meth c H locs cells slots (MQ below (lwQ D b q.2 (some (.int q.1))) args s 16 151 (cReg (lwO b))) (F0 m 431 ls [.int y3, .int y2, .int y1, .ref y0]) := by
  have hx := X.1.1
  have hb := X.1.2.1
  have hown := X.1.2.2.2.1
  have hts := X.1.2.2.2.2.1
  have h : ((stA V y0 y1 (y2 + y3)).bind (fun v1 => some (x6, v1))) = some q := h
  refine lv_iadd hx hb dL_act_431 ?_
  obtain ⟨v1, hv1, h⟩ := ob h
  refine l_ast X hI hS hv1 dL_act_432 (fun H locs hI hS => ?_)
  refine lv_iload hx hb dL_act_433 (lv_at hl 0 rfl) ?_
  obtain rfl := sj h
  exact l_ri X hI hS (by omega) (by omega) dL_act_435
set_option maxRecDepth 20000 in
set_option maxHeartbeats 4000000 in
theorem N_L_act_415 {p : Program} {l : Launch} {e : Env} {s : State} {m : MethodId} {args : Array Value} {below : List Frame} {meth : Method} {c : Code} {D : cD} {b : Nat × Nat}   {x1 : Nat} {y0 : Int32} {V : lwS} {H : Heap} {locs : List Loc} {cells slots : Nat} {ls : Array Slot} {q : Int32 × lwS} (X : lwX p s m args meth c cL_act 7 (some .int) D b) (hl9 : l.stackTraces = false) (hI : lwI D b V H) (hS : va_S (cReg (lwO b)) s.heap H locs) (hBc : cells + (0 + 0) ≤ 16) (hBs : slots + (0 + 0) ≤ 151)  (hl : lv_has ls 7 [(1, .ref x1)]) (h : f_L_act_415  x1 y0 V = some q) : W p l e (rA 10 16 151 187) s m args below meth c H locs cells slots (MQ below (lwQ D b q.2 (some (.int q.1))) args s 16 151 (cReg (lwO b))) (F0 m 415 ls [.int y0]) := by
  have hx := X.1.1
  have hb := X.1.2.1
  have hown := X.1.2.2.2.1
  have hts := X.1.2.2.2.2.1
  have h : ((ldA V x1 (2:Int32)).bind (fun v1 => if (0:Int32) ≤ y0 then (f_L_act_431 (y0) (x1) ((2:Int32)) (v1) ((1:Int32)) V) else (f_L_act_431 (y0) (x1) ((2:Int32)) (v1) ((0:Int32)) V))) = some q := h
  refine c_istore hx hb dL_act_415 hl (Nat.le_of_ble_eq_true rfl) (lvKa rfl lvK0) rfl (fun ls (hl : lv_has ls 7 [(6, .int y0), (1, .ref x1)]) => ?_)
  refine lv_aload_n hx hb dL_act_417 rfl (lv_at hl 1 rfl) ?_
  refine lv_iconst (v := (2:Int32)) hx hb dL_act_418 (by decide) ?_
  refine lv_dup2_11 hx hb dL_act_419 rfl rfl ?_
  obtain ⟨v1, hv1, h⟩ := ob h
  refine l_ald X hI hv1 dL_act_420 ?_
  refine lv_iload hx hb dL_act_421 (lv_at hl 0 rfl) ?_
  refine lv_if_ge (tgt := 430) hx hb dL_act_423 rfl (fun hc => ?_) (fun hc => ?_)
  · have h := ip hc h
    refine lv_iconst (v := (1:Int32)) hx hb dL_act_430 (by decide) ?_
    exact N_L_act_431 X hl9 hI hS (by omega) (by omega) (lv_sub hl [0] rfl) h
  · have h := ine hc h
    refine lv_iconst (v := (0:Int32)) hx hb dL_act_426 (by decide) ?_
    refine lv_goto (tgt := 431) hx hb dL_act_427 rfl ?_
    exact N_L_act_431 X hl9 hI hS (by omega) (by omega) (lv_sub hl [0] rfl) h
set_option maxRecDepth 20000 in
set_option maxHeartbeats 4000000 in
theorem N_L_act_402 {p : Program} {l : Launch} {e : Env} {s : State} {m : MethodId} {args : Array Value} {below : List Frame} {meth : Method} {c : Code} {D : cD} {b : Nat × Nat}   {x1 : Nat} {x2 : Int32} {y1 : Int32} {y2 : Int32} {V : lwS} {H : Heap} {locs : List Loc} {cells slots : Nat} {ls : Array Slot} {q : Int32 × lwS} (X : lwX p s m args meth c cL_act 7 (some .int) D b) (hl9 : l.stackTraces = false) (hI : lwI D b V H) (hS : va_S (cReg (lwO b)) s.heap H locs) (hBc : cells + (4 + 0) ≤ 16) (hBs : slots + (23 + 0) ≤ 151)  (hl : lv_has ls 7 [(1, .ref x1), (2, .int x2)]) (h : f_L_act_402  x1 x2 y1 y2 V = some q) : W p l e (rA 10 16 151 187) s m args below meth c H locs cells slots (MQ below (lwQ D b q.2 (some (.int q.1))) args s 16 151 (cReg (lwO b))) (F0 m 402 ls [.int y2, .int y1, cv (lwO b) (some 1)]) := by
  have hx := X.1.1
  have hb := X.1.2.1
  have hown := X.1.2.2.2.1
  have hts := X.1.2.2.2.2.1
  have h : ((f_L_low ((x2 >>> ((5:Int32) &&& 31))) ((6:Int32)) V).bind (fun v1 => (f_L_sheets (y1) (y2) ((v1.1 - (1:Int32))) v1.2).bind (fun v2 => f_L_act_415 (x1) (v2.1) v2.2))) = some q := h
  refine lv_iload_n hx hb dL_act_402 rfl (lv_at hl 1 rfl) ?_
  refine lv_iconst (v := (5:Int32)) hx hb dL_act_403 (by decide) ?_
  refine lv_ishr hx hb dL_act_404 ?_
  refine lv_bipush (v := (6:Int32)) hx hb dL_act_405 (by decide) ?_
  obtain ⟨v1, hv1, h⟩ := ob h
  refine l_after (l_runS X (K_L_low l hl9 D b V ((x2 >>> ((5:Int32) &&& 31))) ((6:Int32)) (v := v1.1) (V' := v1.2) hv1) ⟨w_624, ww_L_low⟩ hy_L_low rfl ⟨(Nat.le_of_ble_eq_true rfl), (Nat.le_of_ble_eq_true rfl)⟩ hI hS hl.1 (Nat.le_of_ble_eq_true rfl) dL_act_407 rfl ⟨by omega, by omega⟩) hS (fun H locs hI hS => ?_)
  refine W.eq (g2 := F0 m 410 ls [.int v1.1, .int y2, .int y1, cv (lwO b) (some 1)]) rfl ?_
  refine lv_iconst (v := (1:Int32)) hx hb dL_act_410 (by decide) ?_
  refine lv_isub hx hb dL_act_411 ?_
  obtain ⟨v2, hv2, h⟩ := ob h
  refine l_after (l_runW X (K_L_sheets l hl9 D b v1.2 (y1) (y2) ((v1.1 - (1:Int32))) (v := v2.1) (V' := v2.2) hv2) ⟨w_1242, ww_L_sheets⟩ hy_L_sheets rfl ⟨(Nat.le_of_ble_eq_true rfl), (Nat.le_of_ble_eq_true rfl)⟩ hI hS hl.1 (Nat.le_of_ble_eq_true rfl) dL_act_412 rfl ⟨by omega, by omega⟩) hS (fun H locs hI hS => ?_)
  refine W.eq (g2 := F0 m 415 ls [.int v2.1]) rfl ?_
  exact N_L_act_415 X hl9 hI hS (by omega) (by omega) (lv_sub hl [0] rfl) h
set_option maxRecDepth 20000 in
set_option maxHeartbeats 4000000 in
theorem N_L_act_569 {p : Program} {l : Launch} {e : Env} {s : State} {m : MethodId} {args : Array Value} {below : List Frame} {meth : Method} {c : Code} {D : cD} {b : Nat × Nat}   {x6 : Int32} {V : lwS} {H : Heap} {locs : List Loc} {cells slots : Nat} {ls : Array Slot} {q : Int32 × lwS} (X : lwX p s m args meth c cL_act 7 (some .int) D b) (hl9 : l.stackTraces = false) (hI : lwI D b V H) (hS : va_S (cReg (lwO b)) s.heap H locs) (hBc : cells + (0 + 0) ≤ 16) (hBs : slots + (0 + 0) ≤ 151)  (hl : lv_has ls 7 [(6, .int x6)]) (h : f_L_act_569  x6 V = some q) : W p l e (rA 10 16 151 187) s m args below meth c H locs cells slots (MQ below (lwQ D b q.2 (some (.int q.1))) args s 16 151 (cReg (lwO b))) (F0 m 569 ls []) := by
  have hx := X.1.1
  have hb := X.1.2.1
  have hown := X.1.2.2.2.1
  have hts := X.1.2.2.2.2.1
  have h : (some (x6, V)) = some q := h
  refine lv_iload hx hb dL_act_569 (lv_at hl 0 rfl) ?_
  obtain rfl := sj h
  exact l_ri X hI hS (by omega) (by omega) dL_act_571
set_option maxRecDepth 20000 in
set_option maxHeartbeats 4000000 in
theorem N_L_act_565 {p : Program} {l : Launch} {e : Env} {s : State} {m : MethodId} {args : Array Value} {below : List Frame} {meth : Method} {c : Code} {D : cD} {b : Nat × Nat}   {x6 : Int32} {y1 : Int32} {y2 : Int32} {y3 : Int32} {y4 : Int32} {y5 : Int32} {V : lwS} {H : Heap} {locs : List Loc} {cells slots : Nat} {ls : Array Slot} {q : Int32 × lwS} (X : lwX p s m args meth c cL_act 7 (some .int) D b) (hl9 : l.stackTraces = false) (hI : lwI D b V H) (hS : va_S (cReg (lwO b)) s.heap H locs) (hBc : cells + (2 + 0) ≤ 16) (hBs : slots + (12 + 0) ≤ 151)  (hl : lv_has ls 7 [(6, .int x6)]) (h : f_L_act_565  x6 y1 y2 y3 y4 y5 V = some q) : W p l e (rA 10 16 151 187) s m args below meth c H locs cells slots (MQ below (lwQ D b q.2 (some (.int q.1))) args s 16 151 (cReg (lwO b))) (F0 m 565 ls [.int y5, .int y4, .int y3, .int y2, .int y1, cv (lwO b) (some 1)]) := by
  have hx := X.1.1
  have hb := X.1.2.1
  have hown := X.1.2.2.2.1
  have hts := X.1.2.2.2.2.1
  have h : ((f_L_declares (y1) (y2) (y3) (y4) (y5) V).bind (fun v1 => f_L_act_569 (x6) v1.2)) = some q := h
  obtain ⟨v1, hv1, h⟩ := ob h
  refine l_after (l_runW X (K_L_declares l hl9 D b V (y1) (y2) (y3) (y4) (y5) (v := v1.1) (V' := v1.2) hv1) ⟨w_1300, ww_L_declares⟩ hy_L_declares rfl ⟨(Nat.le_of_ble_eq_true rfl), (Nat.le_of_ble_eq_true rfl)⟩ hI hS hl.1 (Nat.le_of_ble_eq_true rfl) dL_act_565 rfl ⟨by omega, by omega⟩) hS (fun H locs hI hS => ?_)
  refine W.eq (g2 := F0 m 568 ls [.int v1.1]) rfl ?_
  refine lv_pop hx hb dL_act_568 rfl ?_
  exact N_L_act_569 X hl9 hI hS (by omega) (by omega) (lv_sub hl [0] rfl) h
set_option maxRecDepth 20000 in
set_option maxHeartbeats 4000000 in
theorem N_L_act_514 {p : Program} {l : Launch} {e : Env} {s : State} {m : MethodId} {args : Array Value} {below : List Frame} {meth : Method} {c : Code} {D : cD} {b : Nat × Nat}   {x2 : Int32} {x6 : Int32} {y0 : Nat} {y1 : Int32} {y2 : Int32} {y3 : Int32} {V : lwS} {H : Heap} {locs : List Loc} {cells slots : Nat} {ls : Array Slot} {q : Int32 × lwS} (X : lwX p s m args meth c cL_act 7 (some .int) D b) (hl9 : l.stackTraces = false) (hI : lwI D b V H) (hS : va_S (cReg (lwO b)) s.heap H locs) (hBc : cells + (2 + 0) ≤ 16) (hBs : slots + (12 + 0) ≤ 151)  (hl : lv_has ls 7 [(0, cv (lwO b) (some 1)), (2, .int x2), (6, .int x6)]) (h : f_L_act_514  x2 x6 y0 y1 y2 y3 V = some q) : W p l e (rA 10 16 151 187) s m args below meth c H locs cells slots (MQ below (lwQ D b q.2 (some (.int q.1))) args s 16 151 (cReg (lwO b))) (F0 m 514 ls [.int y3, .int y2, .int y1, .ref y0]) := by
  have hx := X.1.1
  have hb := X.1.2.1
  have hown := X.1.2.2.2.1
  have hts := X.1.2.2.2.2.1
  have h : ((stA V y0 y1 (y2 ||| y3)).bind (fun v1 => (f_L_low ((x2 >>> ((5:Int32) &&& 31))) ((7:Int32)) v1).bind (fun v2 => (f_L_low ((x2 >>> ((8:Int32) &&& 31))) ((11:Int32)) v2.2).bind (fun v3 => (f_L_low ((x2 >>> ((9:Int32) &&& 31))) ((400:Int32)) v3.2).bind (fun v4 => (f_L_low ((x2 >>> ((11:Int32) &&& 31))) ((4:Int32)) v4.2).bind (fun v5 => if v5.1 = (0:Int32) then (f_L_act_565 (x6) (x6) (v2.1) (v3.1) ((v4.1 - (50:Int32))) ((1:Int32)) v5.2) else (f_L_act_565 (x6) (x6) (v2.1) (v3.1) ((v4.1 - (50:Int32))) ((0:Int32)) v5.2))))))) = some q := h
  refine lv_ior hx hb dL_act_514 ?_
  obtain ⟨v1, hv1, h⟩ := ob h
  refine l_ast X hI hS hv1 dL_act_515 (fun H locs hI hS => ?_)
  refine c_aload_n hx hb dL_act_516 rfl (lv_at hl 0 rfl) ?_
  refine lv_iload hx hb dL_act_517 (lv_at hl 2 rfl) ?_
  refine lv_iload_n hx hb dL_act_519 rfl (lv_at hl 1 rfl) ?_
  refine lv_iconst (v := (5:Int32)) hx hb dL_act_520 (by decide) ?_
  refine lv_ishr hx hb dL_act_521 ?_
  refine lv_bipush (v := (7:Int32)) hx hb dL_act_522 (by decide) ?_
  obtain ⟨v2, hv2, h⟩ := ob h
  refine l_after (l_runS X (K_L_low l hl9 D b v1 ((x2 >>> ((5:Int32) &&& 31))) ((7:Int32)) (v := v2.1) (V' := v2.2) hv2) ⟨w_624, ww_L_low⟩ hy_L_low rfl ⟨(Nat.le_of_ble_eq_true rfl), (Nat.le_of_ble_eq_true rfl)⟩ hI hS hl.1 (Nat.le_of_ble_eq_true rfl) dL_act_524 rfl ⟨by omega, by omega⟩) hS (fun H locs hI hS => ?_)
  refine W.eq (g2 := F0 m 527 ls [.int v2.1, .int x6, cv (lwO b) (some 1)]) rfl ?_
  refine lv_iload_n hx hb dL_act_527 rfl (lv_at hl 1 rfl) ?_
  refine lv_bipush (v := (8:Int32)) hx hb dL_act_528 (by decide) ?_
  refine lv_ishr hx hb dL_act_530 ?_
  refine lv_bipush (v := (11:Int32)) hx hb dL_act_531 (by decide) ?_
  obtain ⟨v3, hv3, h⟩ := ob h
  refine l_after (l_runS X (K_L_low l hl9 D b v2.2 ((x2 >>> ((8:Int32) &&& 31))) ((11:Int32)) (v := v3.1) (V' := v3.2) hv3) ⟨w_624, ww_L_low⟩ hy_L_low rfl ⟨(Nat.le_of_ble_eq_true rfl), (Nat.le_of_ble_eq_true rfl)⟩ hI hS hl.1 (Nat.le_of_ble_eq_true rfl) dL_act_533 rfl ⟨by omega, by omega⟩) hS (fun H locs hI hS => ?_)
  refine W.eq (g2 := F0 m 536 ls [.int v3.1, .int v2.1, .int x6, cv (lwO b) (some 1)]) rfl ?_
  refine lv_iload_n hx hb dL_act_536 rfl (lv_at hl 1 rfl) ?_
  refine lv_bipush (v := (9:Int32)) hx hb dL_act_537 (by decide) ?_
  refine lv_ishr hx hb dL_act_539 ?_
  refine lv_sipush (v := (400:Int32)) hx hb dL_act_540 (by decide) ?_
  obtain ⟨v4, hv4, h⟩ := ob h
  refine l_after (l_runS X (K_L_low l hl9 D b v3.2 ((x2 >>> ((9:Int32) &&& 31))) ((400:Int32)) (v := v4.1) (V' := v4.2) hv4) ⟨w_624, ww_L_low⟩ hy_L_low rfl ⟨(Nat.le_of_ble_eq_true rfl), (Nat.le_of_ble_eq_true rfl)⟩ hI hS hl.1 (Nat.le_of_ble_eq_true rfl) dL_act_543 rfl ⟨by omega, by omega⟩) hS (fun H locs hI hS => ?_)
  refine W.eq (g2 := F0 m 546 ls [.int v4.1, .int v3.1, .int v2.1, .int x6, cv (lwO b) (some 1)]) rfl ?_
  refine lv_bipush (v := (50:Int32)) hx hb dL_act_546 (by decide) ?_
  refine lv_isub hx hb dL_act_548 ?_
  refine lv_iload_n hx hb dL_act_549 rfl (lv_at hl 1 rfl) ?_
  refine lv_bipush (v := (11:Int32)) hx hb dL_act_550 (by decide) ?_
  refine lv_ishr hx hb dL_act_552 ?_
  refine lv_iconst (v := (4:Int32)) hx hb dL_act_553 (by decide) ?_
  obtain ⟨v5, hv5, h⟩ := ob h
  refine l_after (l_runS5 X (K_L_low l hl9 D b v4.2 ((x2 >>> ((11:Int32) &&& 31))) ((4:Int32)) (v := v5.1) (V' := v5.2) hv5) ⟨w_624, ww_L_low⟩ hy_L_low rfl ⟨(Nat.le_of_ble_eq_true rfl), (Nat.le_of_ble_eq_true rfl)⟩ hI hS hl.1 (Nat.le_of_ble_eq_true rfl) dL_act_554 rfl ⟨by omega, by omega⟩) hS (fun H locs hI hS => ?_)
  refine W.eq (g2 := F0 m 557 ls [.int v5.1, .int (v4.1 - (50:Int32)), .int v3.1, .int v2.1, .int x6, cv (lwO b) (some 1)]) rfl ?_
  refine lv_if_ne (tgt := 564) hx hb dL_act_557 rfl (fun hc => ?_) (fun hc => ?_)
  · have h := ine hc h
    refine lv_iconst (v := (0:Int32)) hx hb dL_act_564 (by decide) ?_
    exact N_L_act_565 X hl9 hI hS (by omega) (by omega) (lv_sub hl [2] rfl) h
  · have h := ip hc h
    refine lv_iconst (v := (1:Int32)) hx hb dL_act_560 (by decide) ?_
    refine lv_goto (tgt := 565) hx hb dL_act_561 rfl ?_
    exact N_L_act_565 X hl9 hI hS (by omega) (by omega) (lv_sub hl [2] rfl) h
set_option maxRecDepth 20000 in
set_option maxHeartbeats 4000000 in
theorem N_L_act_477 {p : Program} {l : Launch} {e : Env} {s : State} {m : MethodId} {args : Array Value} {below : List Frame} {meth : Method} {c : Code} {D : cD} {b : Nat × Nat}   {x1 : Nat} {x2 : Int32} {y0 : Int32} {V : lwS} {H : Heap} {locs : List Loc} {cells slots : Nat} {ls : Array Slot} {q : Int32 × lwS} (X : lwX p s m args meth c cL_act 7 (some .int) D b) (hl9 : l.stackTraces = false) (hI : lwI D b V H) (hS : va_S (cReg (lwO b)) s.heap H locs) (hBc : cells + (2 + 0) ≤ 16) (hBs : slots + (12 + 0) ≤ 151)  (hl : lv_has ls 7 [(0, cv (lwO b) (some 1)), (1, .ref x1), (2, .int x2)]) (h : f_L_act_477  x1 x2 y0 V = some q) : W p l e (rA 10 16 151 187) s m args below meth c H locs cells slots (MQ below (lwQ D b q.2 (some (.int q.1))) args s 16 151 (cReg (lwO b))) (F0 m 477 ls [.int y0]) := by
  have hx := X.1.1
  have hb := X.1.2.1
  have hown := X.1.2.2.2.1
  have hts := X.1.2.2.2.2.1
  have h : (if y0 < (0:Int32) then (f_L_act_569 (y0) V) else ((ldA V x1 (3:Int32)).bind (fun v1 => (stA V x1 (3:Int32) (v1 + (1:Int32))).bind (fun v2 => (ldA v2 x1 (7:Int32)).bind (fun v3 => (f_L_low ((x2 >>> ((5:Int32) &&& 31))) ((7:Int32)) v2).bind (fun v4 => if v4.1 = (6:Int32) then (f_L_act_514 (x2) (y0) (x1) ((7:Int32)) (v3) ((1:Int32)) v4.2) else (f_L_act_514 (x2) (y0) (x1) ((7:Int32)) (v3) ((0:Int32)) v4.2))))))) = some q := h
  refine c_istore hx hb dL_act_477 hl (Nat.le_of_ble_eq_true rfl) (lvKa rfl (lvKa rfl (lvKa rfl lvK0))) rfl (fun ls (hl : lv_has ls 7 [(6, .int y0), (0, cv (lwO b) (some 1)), (1, .ref x1), (2, .int x2)]) => ?_)
  refine lv_iload hx hb dL_act_479 (lv_at hl 0 rfl) ?_
  refine lv_if_lt (tgt := 569) hx hb dL_act_481 rfl (fun hc => ?_) (fun hc => ?_)
  · have h := ip hc h
    exact N_L_act_569 X hl9 hI hS (by omega) (by omega) (lv_sub hl [0] rfl) h
  · have h := ine hc h
    refine lv_aload_n hx hb dL_act_484 rfl (lv_at hl 2 rfl) ?_
    refine lv_iconst (v := (3:Int32)) hx hb dL_act_485 (by decide) ?_
    refine lv_dup2_11 hx hb dL_act_486 rfl rfl ?_
    obtain ⟨v1, hv1, h⟩ := ob h
    refine l_ald X hI hv1 dL_act_487 ?_
    refine lv_iconst (v := (1:Int32)) hx hb dL_act_488 (by decide) ?_
    refine lv_iadd hx hb dL_act_489 ?_
    obtain ⟨v2, hv2, h⟩ := ob h
    refine l_ast X hI hS hv2 dL_act_490 (fun H locs hI hS => ?_)
    refine lv_aload_n hx hb dL_act_491 rfl (lv_at hl 2 rfl) ?_
    refine lv_bipush (v := (7:Int32)) hx hb dL_act_492 (by decide) ?_
    refine lv_dup2_11 hx hb dL_act_494 rfl rfl ?_
    obtain ⟨v3, hv3, h⟩ := ob h
    refine l_ald X hI hv3 dL_act_495 ?_
    refine lv_iload_n hx hb dL_act_496 rfl (lv_at hl 3 rfl) ?_
    refine lv_iconst (v := (5:Int32)) hx hb dL_act_497 (by decide) ?_
    refine lv_ishr hx hb dL_act_498 ?_
    refine lv_bipush (v := (7:Int32)) hx hb dL_act_499 (by decide) ?_
    obtain ⟨v4, hv4, h⟩ := ob h
    refine l_after (l_runS X (K_L_low l hl9 D b v2 ((x2 >>> ((5:Int32) &&& 31))) ((7:Int32)) (v := v4.1) (V' := v4.2) hv4) ⟨w_624, ww_L_low⟩ hy_L_low rfl ⟨(Nat.le_of_ble_eq_true rfl), (Nat.le_of_ble_eq_true rfl)⟩ hI hS hl.1 (Nat.le_of_ble_eq_true rfl) dL_act_501 rfl ⟨by omega, by omega⟩) hS (fun H locs hI hS => ?_)
    refine W.eq (g2 := F0 m 504 ls [.int v4.1, .int v3, .int (7:Int32), .ref x1]) rfl ?_
    refine lv_bipush (v := (6:Int32)) hx hb dL_act_504 (by decide) ?_
    refine lv_icmp_ne (tgt := 513) hx hb dL_act_506 rfl (fun hc => ?_) (fun hc => ?_)
    · have h := ine hc h
      refine lv_iconst (v := (0:Int32)) hx hb dL_act_513 (by decide) ?_
      exact N_L_act_514 X hl9 hI hS (by omega) (by omega) (lv_sub hl [1, 3, 0] rfl) h
    · have h := ip hc h
      refine lv_iconst (v := (1:Int32)) hx hb dL_act_509 (by decide) ?_
      refine lv_goto (tgt := 514) hx hb dL_act_510 rfl ?_
      exact N_L_act_514 X hl9 hI hS (by omega) (by omega) (lv_sub hl [1, 3, 0] rfl) h
set_option maxRecDepth 20000 in
set_option maxHeartbeats 4000000 in
theorem N_L_act_450 {p : Program} {l : Launch} {e : Env} {s : State} {m : MethodId} {args : Array Value} {below : List Frame} {meth : Method} {c : Code} {D : cD} {b : Nat × Nat}   {x1 : Nat} {x2 : Int32} {V : lwS} {H : Heap} {locs : List Loc} {cells slots : Nat} {ls : Array Slot} {q : Int32 × lwS} (X : lwX p s m args meth c cL_act 7 (some .int) D b) (hl9 : l.stackTraces = false) (hI : lwI D b V H) (hS : va_S (cReg (lwO b)) s.heap H locs) (hBc : cells + (2 + 0) ≤ 16) (hBs : slots + (12 + 0) ≤ 151)  (hl : lv_has ls 7 [(0, cv (lwO b) (some 1)), (1, .ref x1), (2, .int x2)]) (h : f_L_act_450  x1 x2 V = some q) : W p l e (rA 10 16 151 187) s m args below meth c H locs cells slots (MQ below (lwQ D b q.2 (some (.int q.1))) args s 16 151 (cReg (lwO b))) (F0 m 450 ls []) := by
  have hx := X.1.1
  have hb := X.1.2.1
  have hown := X.1.2.2.2.1
  have hts := X.1.2.2.2.2.1
  have h : (f_L_act_477 (x1) (x2) (((-9):Int32)) V) = some q := h
  refine lv_bipush (v := ((-9):Int32)) hx hb dL_act_450 (by decide) ?_
  refine lv_goto (tgt := 477) hx hb dL_act_452 rfl ?_
  exact N_L_act_477 X hl9 hI hS (by omega) (by omega) (lv_sub hl [0, 1, 2] rfl) h
set_option maxRecDepth 20000 in
set_option maxHeartbeats 4000000 in
theorem N_L_act_667 {p : Program} {l : Launch} {e : Env} {s : State} {m : MethodId} {args : Array Value} {below : List Frame} {meth : Method} {c : Code} {D : cD} {b : Nat × Nat}   {y1 : Int32} {y2 : Int32} {y3 : Int32} {y4 : Int32} {y5 : Int32} {V : lwS} {H : Heap} {locs : List Loc} {cells slots : Nat} {ls : Array Slot} {q : Int32 × lwS} (X : lwX p s m args meth c cL_act 7 (some .int) D b) (hl9 : l.stackTraces = false) (hI : lwI D b V H) (hS : va_S (cReg (lwO b)) s.heap H locs) (hBc : cells + (2 + 0) ≤ 16) (hBs : slots + (12 + 0) ≤ 151)  (hl : lv_has ls 7 []) (h : f_L_act_667  y1 y2 y3 y4 y5 V = some q) : W p l e (rA 10 16 151 187) s m args below meth c H locs cells slots (MQ below (lwQ D b q.2 (some (.int q.1))) args s 16 151 (cReg (lwO b))) (F0 m 667 ls [.int y5, .int y4, .int y3, .int y2, .int y1, cv (lwO b) (some 1)]) := by
  have hx := X.1.1
  have hb := X.1.2.1
  have hown := X.1.2.2.2.1
  have hts := X.1.2.2.2.2.1
  have h : ((f_L_declares (y1) (y2) (y3) (y4) (y5) V).bind (fun v1 => some (v1.1, v1.2))) = some q := h
  obtain ⟨v1, hv1, h⟩ := ob h
  refine l_after (l_runW X (K_L_declares l hl9 D b V (y1) (y2) (y3) (y4) (y5) (v := v1.1) (V' := v1.2) hv1) ⟨w_1300, ww_L_declares⟩ hy_L_declares rfl ⟨(Nat.le_of_ble_eq_true rfl), (Nat.le_of_ble_eq_true rfl)⟩ hI hS hl.1 (Nat.le_of_ble_eq_true rfl) dL_act_667 rfl ⟨by omega, by omega⟩) hS (fun H locs hI hS => ?_)
  refine W.eq (g2 := F0 m 670 ls [.int v1.1]) rfl ?_
  obtain rfl := sj h
  exact l_ri X hI hS (by omega) (by omega) dL_act_670
set_option maxRecDepth 20000 in
set_option maxHeartbeats 4000000 in
theorem N_L_act_618 {p : Program} {l : Launch} {e : Env} {s : State} {m : MethodId} {args : Array Value} {below : List Frame} {meth : Method} {c : Code} {D : cD} {b : Nat × Nat}   {x2 : Int32} {y1 : Int32} {V : lwS} {H : Heap} {locs : List Loc} {cells slots : Nat} {ls : Array Slot} {q : Int32 × lwS} (X : lwX p s m args meth c cL_act 7 (some .int) D b) (hl9 : l.stackTraces = false) (hI : lwI D b V H) (hS : va_S (cReg (lwO b)) s.heap H locs) (hBc : cells + (2 + 0) ≤ 16) (hBs : slots + (12 + 0) ≤ 151)  (hl : lv_has ls 7 [(2, .int x2)]) (h : f_L_act_618  x2 y1 V = some q) : W p l e (rA 10 16 151 187) s m args below meth c H locs cells slots (MQ below (lwQ D b q.2 (some (.int q.1))) args s 16 151 (cReg (lwO b))) (F0 m 618 ls [.int y1, cv (lwO b) (some 1)]) := by
  have hx := X.1.1
  have hb := X.1.2.1
  have hown := X.1.2.2.2.1
  have hts := X.1.2.2.2.2.1
  have h : ((f_L_low ((x2 >>> ((4:Int32) &&& 31))) ((17:Int32)) V).bind (fun v1 => (f_L_still (v1.1) v1.2).bind (fun v2 => (f_L_low ((x2 >>> ((6:Int32) &&& 31))) ((12:Int32)) v2.2).bind (fun v3 => (f_L_low ((x2 >>> ((7:Int32) &&& 31))) ((500:Int32)) v3.2).bind (fun v4 => (f_L_low ((x2 >>> ((10:Int32) &&& 31))) ((4:Int32)) v4.2).bind (fun v5 => if v5.1 = (0:Int32) then (f_L_act_667 (y1) (v2.1) (v3.1) ((v4.1 - (90:Int32))) ((1:Int32)) v5.2) else (f_L_act_667 (y1) (v2.1) (v3.1) ((v4.1 - (90:Int32))) ((0:Int32)) v5.2))))))) = some q := h
  refine lv_iload_n hx hb dL_act_618 rfl (lv_at hl 0 rfl) ?_
  refine lv_iconst (v := (4:Int32)) hx hb dL_act_619 (by decide) ?_
  refine lv_ishr hx hb dL_act_620 ?_
  refine lv_bipush (v := (17:Int32)) hx hb dL_act_621 (by decide) ?_
  obtain ⟨v1, hv1, h⟩ := ob h
  refine l_after (l_runS X (K_L_low l hl9 D b V ((x2 >>> ((4:Int32) &&& 31))) ((17:Int32)) (v := v1.1) (V' := v1.2) hv1) ⟨w_624, ww_L_low⟩ hy_L_low rfl ⟨(Nat.le_of_ble_eq_true rfl), (Nat.le_of_ble_eq_true rfl)⟩ hI hS hl.1 (Nat.le_of_ble_eq_true rfl) dL_act_623 rfl ⟨by omega, by omega⟩) hS (fun H locs hI hS => ?_)
  refine W.eq (g2 := F0 m 626 ls [.int v1.1, .int y1, cv (lwO b) (some 1)]) rfl ?_
  obtain ⟨v2, hv2, h⟩ := ob h
  refine l_after (l_runS X (K_L_still l hl9 D b v1.2 (v1.1) (v := v2.1) (V' := v2.2) hv2) ⟨w_1340, ww_L_still⟩ hy_L_still rfl ⟨(Nat.le_of_ble_eq_true rfl), (Nat.le_of_ble_eq_true rfl)⟩ hI hS hl.1 (Nat.le_of_ble_eq_true rfl) dL_act_626 rfl ⟨by omega, by omega⟩) hS (fun H locs hI hS => ?_)
  refine W.eq (g2 := F0 m 629 ls [.int v2.1, .int y1, cv (lwO b) (some 1)]) rfl ?_
  refine lv_iload_n hx hb dL_act_629 rfl (lv_at hl 0 rfl) ?_
  refine lv_bipush (v := (6:Int32)) hx hb dL_act_630 (by decide) ?_
  refine lv_ishr hx hb dL_act_632 ?_
  refine lv_bipush (v := (12:Int32)) hx hb dL_act_633 (by decide) ?_
  obtain ⟨v3, hv3, h⟩ := ob h
  refine l_after (l_runS X (K_L_low l hl9 D b v2.2 ((x2 >>> ((6:Int32) &&& 31))) ((12:Int32)) (v := v3.1) (V' := v3.2) hv3) ⟨w_624, ww_L_low⟩ hy_L_low rfl ⟨(Nat.le_of_ble_eq_true rfl), (Nat.le_of_ble_eq_true rfl)⟩ hI hS hl.1 (Nat.le_of_ble_eq_true rfl) dL_act_635 rfl ⟨by omega, by omega⟩) hS (fun H locs hI hS => ?_)
  refine W.eq (g2 := F0 m 638 ls [.int v3.1, .int v2.1, .int y1, cv (lwO b) (some 1)]) rfl ?_
  refine lv_iload_n hx hb dL_act_638 rfl (lv_at hl 0 rfl) ?_
  refine lv_bipush (v := (7:Int32)) hx hb dL_act_639 (by decide) ?_
  refine lv_ishr hx hb dL_act_641 ?_
  refine lv_sipush (v := (500:Int32)) hx hb dL_act_642 (by decide) ?_
  obtain ⟨v4, hv4, h⟩ := ob h
  refine l_after (l_runS X (K_L_low l hl9 D b v3.2 ((x2 >>> ((7:Int32) &&& 31))) ((500:Int32)) (v := v4.1) (V' := v4.2) hv4) ⟨w_624, ww_L_low⟩ hy_L_low rfl ⟨(Nat.le_of_ble_eq_true rfl), (Nat.le_of_ble_eq_true rfl)⟩ hI hS hl.1 (Nat.le_of_ble_eq_true rfl) dL_act_645 rfl ⟨by omega, by omega⟩) hS (fun H locs hI hS => ?_)
  refine W.eq (g2 := F0 m 648 ls [.int v4.1, .int v3.1, .int v2.1, .int y1, cv (lwO b) (some 1)]) rfl ?_
  refine lv_bipush (v := (90:Int32)) hx hb dL_act_648 (by decide) ?_
  refine lv_isub hx hb dL_act_650 ?_
  refine lv_iload_n hx hb dL_act_651 rfl (lv_at hl 0 rfl) ?_
  refine lv_bipush (v := (10:Int32)) hx hb dL_act_652 (by decide) ?_
  refine lv_ishr hx hb dL_act_654 ?_
  refine lv_iconst (v := (4:Int32)) hx hb dL_act_655 (by decide) ?_
  obtain ⟨v5, hv5, h⟩ := ob h
  refine l_after (l_runS5 X (K_L_low l hl9 D b v4.2 ((x2 >>> ((10:Int32) &&& 31))) ((4:Int32)) (v := v5.1) (V' := v5.2) hv5) ⟨w_624, ww_L_low⟩ hy_L_low rfl ⟨(Nat.le_of_ble_eq_true rfl), (Nat.le_of_ble_eq_true rfl)⟩ hI hS hl.1 (Nat.le_of_ble_eq_true rfl) dL_act_656 rfl ⟨by omega, by omega⟩) hS (fun H locs hI hS => ?_)
  refine W.eq (g2 := F0 m 659 ls [.int v5.1, .int (v4.1 - (90:Int32)), .int v3.1, .int v2.1, .int y1, cv (lwO b) (some 1)]) rfl ?_
  refine lv_if_ne (tgt := 666) hx hb dL_act_659 rfl (fun hc => ?_) (fun hc => ?_)
  · have h := ine hc h
    refine lv_iconst (v := (0:Int32)) hx hb dL_act_666 (by decide) ?_
    exact N_L_act_667 X hl9 hI hS (by omega) (by omega) (lv_sub hl [] rfl) h
  · have h := ip hc h
    refine lv_iconst (v := (1:Int32)) hx hb dL_act_662 (by decide) ?_
    refine lv_goto (tgt := 667) hx hb dL_act_663 rfl ?_
    exact N_L_act_667 X hl9 hI hS (by omega) (by omega) (lv_sub hl [] rfl) h
set_option maxRecDepth 20000 in
set_option maxHeartbeats 4000000 in
theorem N_L_act_595 {p : Program} {l : Launch} {e : Env} {s : State} {m : MethodId} {args : Array Value} {below : List Frame} {meth : Method} {c : Code} {D : cD} {b : Nat × Nat}   {x2 : Int32} {x4 : Int32} {y0 : Nat} {y1 : Int32} {y2 : Int32} {y3 : Int32} {V : lwS} {H : Heap} {locs : List Loc} {cells slots : Nat} {ls : Array Slot} {q : Int32 × lwS} (X : lwX p s m args meth c cL_act 7 (some .int) D b) (hl9 : l.stackTraces = false) (hI : lwI D b V H) (hS : va_S (cReg (lwO b)) s.heap H locs) (hBc : cells + (2 + 0) ≤ 16) (hBs : slots + (12 + 0) ≤ 151)  (hl : lv_has ls 7 [(0, cv (lwO b) (some 1)), (2, .int x2), (4, .int x4)]) (h : f_L_act_595  x2 x4 y0 y1 y2 y3 V = some q) : W p l e (rA 10 16 151 187) s m args below meth c H locs cells slots (MQ below (lwQ D b q.2 (some (.int q.1))) args s 16 151 (cReg (lwO b))) (F0 m 595 ls [.int y3, .int y2, .int y1, .ref y0]) := by
  have hx := X.1.1
  have hb := X.1.2.1
  have hown := X.1.2.2.2.1
  have hts := X.1.2.2.2.2.1
  have h : ((stA V y0 y1 (y2 ||| y3)).bind (fun v1 => (f_L_low ((x2 >>> ((3:Int32) &&& 31))) ((2:Int32)) v1).bind (fun v2 => if v2.1 = (0:Int32) then (f_L_act_618 (x2) (x4) v2.2) else (f_L_act_618 (x2) (((100:Int32) + x4)) v2.2)))) = some q := h
  refine lv_ior hx hb dL_act_595 ?_
  obtain ⟨v1, hv1, h⟩ := ob h
  refine l_ast X hI hS hv1 dL_act_596 (fun H locs hI hS => ?_)
  refine c_aload_n hx hb dL_act_597 rfl (lv_at hl 0 rfl) ?_
  refine lv_iload_n hx hb dL_act_598 rfl (lv_at hl 1 rfl) ?_
  refine lv_iconst (v := (3:Int32)) hx hb dL_act_599 (by decide) ?_
  refine lv_ishr hx hb dL_act_600 ?_
  refine lv_iconst (v := (2:Int32)) hx hb dL_act_601 (by decide) ?_
  obtain ⟨v2, hv2, h⟩ := ob h
  refine l_after (l_runS X (K_L_low l hl9 D b v1 ((x2 >>> ((3:Int32) &&& 31))) ((2:Int32)) (v := v2.1) (V' := v2.2) hv2) ⟨w_624, ww_L_low⟩ hy_L_low rfl ⟨(Nat.le_of_ble_eq_true rfl), (Nat.le_of_ble_eq_true rfl)⟩ hI hS hl.1 (Nat.le_of_ble_eq_true rfl) dL_act_602 rfl ⟨by omega, by omega⟩) hS (fun H locs hI hS => ?_)
  refine W.eq (g2 := F0 m 605 ls [.int v2.1, cv (lwO b) (some 1)]) rfl ?_
  refine lv_if_ne (tgt := 613) hx hb dL_act_605 rfl (fun hc => ?_) (fun hc => ?_)
  · have h := ine hc h
    refine lv_bipush (v := (100:Int32)) hx hb dL_act_613 (by decide) ?_
    refine lv_iload hx hb dL_act_615 (lv_at hl 2 rfl) ?_
    refine lv_iadd hx hb dL_act_617 ?_
    exact N_L_act_618 X hl9 hI hS (by omega) (by omega) (lv_sub hl [1] rfl) h
  · have h := ip hc h
    refine lv_iload hx hb dL_act_608 (lv_at hl 2 rfl) ?_
    refine lv_goto (tgt := 618) hx hb dL_act_610 rfl ?_
    exact N_L_act_618 X hl9 hI hS (by omega) (by omega) (lv_sub hl [1] rfl) h
set_option maxRecDepth 20000 in
set_option maxHeartbeats 4000000 in
theorem N_L_act_717 {p : Program} {l : Launch} {e : Env} {s : State} {m : MethodId} {args : Array Value} {below : List Frame} {meth : Method} {c : Code} {D : cD} {b : Nat × Nat}   {x2 : Int32} {y1 : Int32} {V : lwS} {H : Heap} {locs : List Loc} {cells slots : Nat} {ls : Array Slot} {q : Int32 × lwS} (X : lwX p s m args meth c cL_act 7 (some .int) D b) (hl9 : l.stackTraces = false) (hI : lwI D b V H) (hS : va_S (cReg (lwO b)) s.heap H locs) (hBc : cells + (2 + 0) ≤ 16) (hBs : slots + (12 + 0) ≤ 151)  (hl : lv_has ls 7 [(2, .int x2)]) (h : f_L_act_717  x2 y1 V = some q) : W p l e (rA 10 16 151 187) s m args below meth c H locs cells slots (MQ below (lwQ D b q.2 (some (.int q.1))) args s 16 151 (cReg (lwO b))) (F0 m 717 ls [.int y1, cv (lwO b) (some 1)]) := by
  have hx := X.1.1
  have hb := X.1.2.1
  have hown := X.1.2.2.2.1
  have hts := X.1.2.2.2.2.1
  have h : ((f_L_low ((x2 >>> ((4:Int32) &&& 31))) ((16:Int32)) V).bind (fun v1 => (f_L_still (v1.1) v1.2).bind (fun v2 => (f_L_low ((x2 >>> ((8:Int32) &&& 31))) ((5:Int32)) v2.2).bind (fun v3 => (f_L_low ((x2 >>> ((10:Int32) &&& 31))) ((9:Int32)) v3.2).bind (fun v4 => (f_L_low ((x2 >>> ((7:Int32) &&& 31))) ((200:Int32)) v4.2).bind (fun v5 => (f_L_varies (y1) (v2.1) (((11:Int32) + v3.1)) ((v4.1 - (1:Int32))) (v5.1) v5.2).bind (fun v6 => some (v6.1, v6.2)))))))) = some q := h
  refine lv_iload_n hx hb dL_act_717 rfl (lv_at hl 0 rfl) ?_
  refine lv_iconst (v := (4:Int32)) hx hb dL_act_718 (by decide) ?_
  refine lv_ishr hx hb dL_act_719 ?_
  refine lv_bipush (v := (16:Int32)) hx hb dL_act_720 (by decide) ?_
  obtain ⟨v1, hv1, h⟩ := ob h
  refine l_after (l_runS X (K_L_low l hl9 D b V ((x2 >>> ((4:Int32) &&& 31))) ((16:Int32)) (v := v1.1) (V' := v1.2) hv1) ⟨w_624, ww_L_low⟩ hy_L_low rfl ⟨(Nat.le_of_ble_eq_true rfl), (Nat.le_of_ble_eq_true rfl)⟩ hI hS hl.1 (Nat.le_of_ble_eq_true rfl) dL_act_722 rfl ⟨by omega, by omega⟩) hS (fun H locs hI hS => ?_)
  refine W.eq (g2 := F0 m 725 ls [.int v1.1, .int y1, cv (lwO b) (some 1)]) rfl ?_
  obtain ⟨v2, hv2, h⟩ := ob h
  refine l_after (l_runS X (K_L_still l hl9 D b v1.2 (v1.1) (v := v2.1) (V' := v2.2) hv2) ⟨w_1340, ww_L_still⟩ hy_L_still rfl ⟨(Nat.le_of_ble_eq_true rfl), (Nat.le_of_ble_eq_true rfl)⟩ hI hS hl.1 (Nat.le_of_ble_eq_true rfl) dL_act_725 rfl ⟨by omega, by omega⟩) hS (fun H locs hI hS => ?_)
  refine W.eq (g2 := F0 m 728 ls [.int v2.1, .int y1, cv (lwO b) (some 1)]) rfl ?_
  refine lv_bipush (v := (11:Int32)) hx hb dL_act_728 (by decide) ?_
  refine lv_iload_n hx hb dL_act_730 rfl (lv_at hl 0 rfl) ?_
  refine lv_bipush (v := (8:Int32)) hx hb dL_act_731 (by decide) ?_
  refine lv_ishr hx hb dL_act_733 ?_
  refine lv_iconst (v := (5:Int32)) hx hb dL_act_734 (by decide) ?_
  obtain ⟨v3, hv3, h⟩ := ob h
  refine l_after (l_runS X (K_L_low l hl9 D b v2.2 ((x2 >>> ((8:Int32) &&& 31))) ((5:Int32)) (v := v3.1) (V' := v3.2) hv3) ⟨w_624, ww_L_low⟩ hy_L_low rfl ⟨(Nat.le_of_ble_eq_true rfl), (Nat.le_of_ble_eq_true rfl)⟩ hI hS hl.1 (Nat.le_of_ble_eq_true rfl) dL_act_735 rfl ⟨by omega, by omega⟩) hS (fun H locs hI hS => ?_)
  refine W.eq (g2 := F0 m 738 ls [.int v3.1, .int (11:Int32), .int v2.1, .int y1, cv (lwO b) (some 1)]) rfl ?_
  refine lv_iadd hx hb dL_act_738 ?_
  refine lv_iload_n hx hb dL_act_739 rfl (lv_at hl 0 rfl) ?_
  refine lv_bipush (v := (10:Int32)) hx hb dL_act_740 (by decide) ?_
  refine lv_ishr hx hb dL_act_742 ?_
  refine lv_bipush (v := (9:Int32)) hx hb dL_act_743 (by decide) ?_
  obtain ⟨v4, hv4, h⟩ := ob h
  refine l_after (l_runS X (K_L_low l hl9 D b v3.2 ((x2 >>> ((10:Int32) &&& 31))) ((9:Int32)) (v := v4.1) (V' := v4.2) hv4) ⟨w_624, ww_L_low⟩ hy_L_low rfl ⟨(Nat.le_of_ble_eq_true rfl), (Nat.le_of_ble_eq_true rfl)⟩ hI hS hl.1 (Nat.le_of_ble_eq_true rfl) dL_act_745 rfl ⟨by omega, by omega⟩) hS (fun H locs hI hS => ?_)
  refine W.eq (g2 := F0 m 748 ls [.int v4.1, .int ((11:Int32) + v3.1), .int v2.1, .int y1, cv (lwO b) (some 1)]) rfl ?_
  refine lv_iconst (v := (1:Int32)) hx hb dL_act_748 (by decide) ?_
  refine lv_isub hx hb dL_act_749 ?_
  refine lv_iload_n hx hb dL_act_750 rfl (lv_at hl 0 rfl) ?_
  refine lv_bipush (v := (7:Int32)) hx hb dL_act_751 (by decide) ?_
  refine lv_ishr hx hb dL_act_753 ?_
  refine lv_sipush (v := (200:Int32)) hx hb dL_act_754 (by decide) ?_
  obtain ⟨v5, hv5, h⟩ := ob h
  refine l_after (l_runS5 X (K_L_low l hl9 D b v4.2 ((x2 >>> ((7:Int32) &&& 31))) ((200:Int32)) (v := v5.1) (V' := v5.2) hv5) ⟨w_624, ww_L_low⟩ hy_L_low rfl ⟨(Nat.le_of_ble_eq_true rfl), (Nat.le_of_ble_eq_true rfl)⟩ hI hS hl.1 (Nat.le_of_ble_eq_true rfl) dL_act_757 rfl ⟨by omega, by omega⟩) hS (fun H locs hI hS => ?_)
  refine W.eq (g2 := F0 m 760 ls [.int v5.1, .int (v4.1 - (1:Int32)), .int ((11:Int32) + v3.1), .int v2.1, .int y1, cv (lwO b) (some 1)]) rfl ?_
  obtain ⟨v6, hv6, h⟩ := ob h
  refine l_after (l_runW X (K_L_varies l hl9 D b v5.2 (y1) (v2.1) (((11:Int32) + v3.1)) ((v4.1 - (1:Int32))) (v5.1) (v := v6.1) (V' := v6.2) hv6) ⟨w_1343, ww_L_varies⟩ hy_L_varies rfl ⟨(Nat.le_of_ble_eq_true rfl), (Nat.le_of_ble_eq_true rfl)⟩ hI hS hl.1 (Nat.le_of_ble_eq_true rfl) dL_act_760 rfl ⟨by omega, by omega⟩) hS (fun H locs hI hS => ?_)
  refine W.eq (g2 := F0 m 763 ls [.int v6.1]) rfl ?_
  obtain rfl := sj h
  exact l_ri X hI hS (by omega) (by omega) dL_act_763
set_option maxRecDepth 20000 in
set_option maxHeartbeats 4000000 in
theorem N_L_act_694 {p : Program} {l : Launch} {e : Env} {s : State} {m : MethodId} {args : Array Value} {below : List Frame} {meth : Method} {c : Code} {D : cD} {b : Nat × Nat}   {x2 : Int32} {x4 : Int32} {y0 : Nat} {y1 : Int32} {y2 : Int32} {y3 : Int32} {V : lwS} {H : Heap} {locs : List Loc} {cells slots : Nat} {ls : Array Slot} {q : Int32 × lwS} (X : lwX p s m args meth c cL_act 7 (some .int) D b) (hl9 : l.stackTraces = false) (hI : lwI D b V H) (hS : va_S (cReg (lwO b)) s.heap H locs) (hBc : cells + (2 + 0) ≤ 16) (hBs : slots + (12 + 0) ≤ 151)  (hl : lv_has ls 7 [(0, cv (lwO b) (some 1)), (2, .int x2), (4, .int x4)]) (h : f_L_act_694  x2 x4 y0 y1 y2 y3 V = some q) : W p l e (rA 10 16 151 187) s m args below meth c H locs cells slots (MQ below (lwQ D b q.2 (some (.int q.1))) args s 16 151 (cReg (lwO b))) (F0 m 694 ls [.int y3, .int y2, .int y1, .ref y0]) := by
  have hx := X.1.1
  have hb := X.1.2.1
  have hown := X.1.2.2.2.1
  have hts := X.1.2.2.2.2.1
  have h : ((stA V y0 y1 (y2 ||| y3)).bind (fun v1 => (f_L_low ((x2 >>> ((3:Int32) &&& 31))) ((2:Int32)) v1).bind (fun v2 => if v2.1 = (0:Int32) then (f_L_act_717 (x2) (x4) v2.2) else (f_L_act_717 (x2) (((100:Int32) + x4)) v2.2)))) = some q := h
  refine lv_ior hx hb dL_act_694 ?_
  obtain ⟨v1, hv1, h⟩ := ob h
  refine l_ast X hI hS hv1 dL_act_695 (fun H locs hI hS => ?_)
  refine c_aload_n hx hb dL_act_696 rfl (lv_at hl 0 rfl) ?_
  refine lv_iload_n hx hb dL_act_697 rfl (lv_at hl 1 rfl) ?_
  refine lv_iconst (v := (3:Int32)) hx hb dL_act_698 (by decide) ?_
  refine lv_ishr hx hb dL_act_699 ?_
  refine lv_iconst (v := (2:Int32)) hx hb dL_act_700 (by decide) ?_
  obtain ⟨v2, hv2, h⟩ := ob h
  refine l_after (l_runS X (K_L_low l hl9 D b v1 ((x2 >>> ((3:Int32) &&& 31))) ((2:Int32)) (v := v2.1) (V' := v2.2) hv2) ⟨w_624, ww_L_low⟩ hy_L_low rfl ⟨(Nat.le_of_ble_eq_true rfl), (Nat.le_of_ble_eq_true rfl)⟩ hI hS hl.1 (Nat.le_of_ble_eq_true rfl) dL_act_701 rfl ⟨by omega, by omega⟩) hS (fun H locs hI hS => ?_)
  refine W.eq (g2 := F0 m 704 ls [.int v2.1, cv (lwO b) (some 1)]) rfl ?_
  refine lv_if_ne (tgt := 712) hx hb dL_act_704 rfl (fun hc => ?_) (fun hc => ?_)
  · have h := ine hc h
    refine lv_bipush (v := (100:Int32)) hx hb dL_act_712 (by decide) ?_
    refine lv_iload hx hb dL_act_714 (lv_at hl 2 rfl) ?_
    refine lv_iadd hx hb dL_act_716 ?_
    exact N_L_act_717 X hl9 hI hS (by omega) (by omega) (lv_sub hl [1] rfl) h
  · have h := ip hc h
    refine lv_iload hx hb dL_act_707 (lv_at hl 2 rfl) ?_
    refine lv_goto (tgt := 717) hx hb dL_act_709 rfl ?_
    exact N_L_act_717 X hl9 hI hS (by omega) (by omega) (lv_sub hl [1] rfl) h
set_option maxRecDepth 20000 in
set_option maxHeartbeats 4000000 in
theorem K_L_act (l : Launch) (hl9 : l.stackTraces = false) (D : cD) (b : Nat × Nat) (V : lwS) (x1 : Nat) (x2 : Int32) (x3 : Int32) {v : Int32} {V' : lwS} (h : f_L_act x1 x2 x3 V = some (v, V')) : Met l yL_act (Cond.code yL_act cL_act 7 (some .int) :: BG) (rA 10 16 151 187) (lwPc D b V [cv (lwO b) (some 1), .ref x1, .int x2, .int x3]) (lwQ D b V' (some (.int v))) 16 151 (cReg (lwO b)) := by
  refine Met.ofW (cc := cL_act) (maxL := 7) (ret := (some .int)) (by decide) rfl ?_
  intro p e s m args below meth c s₁ B hml hv
  obtain ⟨rfl, hI, hK, hZ, hN⟩ := hv
  have X : lwX p s m [cv (lwO b) (some 1), .ref x1, .int x2, .int x3].toArray meth c cL_act 7 (some .int) D b := lwX_of B hml hK hZ hN rfl
  have hx := X.1.1
  have hb := X.1.2.1
  have hown := X.1.2.2.2.1
  have hts := X.1.2.2.2.2.1
  have hl := lv_entry [cv (lwO b) (some 1), .ref x1, .int x2, .int x3] (n := 7) (by simp only [lgs_r, lgs_i, lgs_l, lgs_0, lgs_x, List.length]; exact Nat.le_of_ble_eq_true rfl)
  rw [lg_entry_eq]
  generalize (lg_sl [cv (lwO b) (some 1), .ref x1, .int x2, .int x3] ++ List.replicate (7 - (lg_sl [cv (lwO b) (some 1), .ref x1, .int x2, .int x3]).length) Slot.unset).toArray = ls at hl ⊢
  simp only [lv_args_r, lv_args_i, lv_args_l, lv_args_0, lv_args_x] at hl
  have hl : lv_has ls 7 [(0, cv (lwO b) (some 1)), (1, .ref x1), (2, .int x2), (3, .int x3)] := hl
  have hS : va_S (cReg (lwO b)) s.heap s.heap [] := va_S.rf
  show W p l e (rA 10 16 151 187) s m [cv (lwO b) (some 1), .ref x1, .int x2, .int x3].toArray below meth c s.heap [] 0 0 (MQ below (lwQ D b V' (some (.int v))) [cv (lwO b) (some 1), .ref x1, .int x2, .int x3].toArray s 16 151 (cReg (lwO b))) (F0 m 0 ls [])
  have h : ((ldA V x1 (0:Int32)).bind (fun v1 => (f_L_low (x2) ((v1 + (1:Int32))) V).bind (fun v2 => (f_L_low ((x2 >>> ((9:Int32) &&& 31))) ((29:Int32)) v2.2).bind (fun v3 => (dv v3.1 (28:Int32)).bind (fun v4 => (ldA v3.2 x1 (0:Int32)).bind (fun v5 => (f_L_low ((x2 >>> ((4:Int32) &&& 31))) (v5) v3.2).bind (fun v6 => if x3 = (0:Int32) then ((f_L_low (x2) ((3:Int32)) v6.2).bind (fun v7 => if v7.1 = (0:Int32) then (f_L_act_134 (x1) ((7:Int32)) v7.2) else ((f_L_low ((x2 >>> ((2:Int32) &&& 31))) ((4:Int32)) v7.2).bind (fun v8 => f_L_act_134 (x1) (v8.1) v8.2)))) else (if x3 = (1:Int32) then ((f_L_low ((x2 >>> ((8:Int32) &&& 31))) ((2:Int32)) v6.2).bind (fun v9 => (f_L_puts ((v2.1 - v4)) (v6.1) (v9.1) v9.2).bind (fun v10 => some (v10.1, v10.2)))) else (if x3 = (2:Int32) then ((f_L_low ((x2 >>> ((8:Int32) &&& 31))) ((2:Int32)) v6.2).bind (fun v11 => (f_L_puts ((v2.1 - v4)) (v6.1) (v11.1) v11.2).bind (fun v12 => some (v12.1, v12.2)))) else (if x3 = (3:Int32) then ((f_L_low ((x2 >>> ((8:Int32) &&& 31))) ((2:Int32)) v6.2).bind (fun v13 => (f_L_tops ((v2.1 - v4)) (v6.1) (v13.1) v13.2).bind (fun v14 => some (v14.1, v14.2)))) else (if x3 = (4:Int32) then ((f_L_low ((x2 >>> ((6:Int32) &&& 31))) ((3:Int32)) v6.2).bind (fun v15 => if v15.1 = (0:Int32) then ((ldA v15.2 x1 (7:Int32)).bind (fun v16 => if v16 = (0:Int32) then ((f_L_takes ((v2.1 - v4)) v15.2).bind (fun v17 => f_L_act_201 (v17.1) v17.2)) else (f_L_act_199 v15.2))) else (f_L_act_199 v15.2))) else (if x3 = (5:Int32) then ((f_L_low ((x2 >>> ((6:Int32) &&& 31))) ((2:Int32)) v6.2).bind (fun v18 => if v18.1 = (0:Int32) then ((ldA v18.2 x1 (8:Int32)).bind (fun v19 => if v19 = (0:Int32) then ((f_L_shadows ((v2.1 - v4)) v18.2).bind (fun v20 => f_L_act_231 (x1) (v20.1) v20.2)) else (f_L_act_229 (x1) v18.2))) else (f_L_act_229 (x1) v18.2))) else (if x3 = (6:Int32) then (if (v2.1 - v4) < (0:Int32) then (f_L_act_266 v6.2) else ((ldA v6.2 x1 (0:Int32)).bind (fun v21 => if (v2.1 - v4) < v21 then ((f_L_low ((x2 >>> ((5:Int32) &&& 31))) ((3:Int32)) v6.2).bind (fun v22 => (f_L_low ((x2 >>> ((7:Int32) &&& 31))) ((2:Int32)) v22.2).bind (fun v23 => if v23.1 = (0:Int32) then (f_L_act_295 ((v2.1 - v4)) (v22.1) ((1:Int32)) v23.2) else (f_L_act_295 ((v2.1 - v4)) (v22.1) ((0:Int32)) v23.2)))) else (f_L_act_266 v6.2)))) else (if x3 = (7:Int32) then (if (v2.1 - v4) < (0:Int32) then (f_L_act_314 v6.2) else ((ldA v6.2 x1 (0:Int32)).bind (fun v24 => if (v2.1 - v4) < v24 then ((f_L_low ((x2 >>> ((5:Int32) &&& 31))) ((2:Int32)) v6.2).bind (fun v25 => (f_L_low ((x2 >>> ((6:Int32) &&& 31))) ((4:Int32)) v25.2).bind (fun v26 => (oC (f_setAttribute ((v2.1 - v4)) (v25.1) ((v26.1 - (1:Int32)))) v26.2).bind (fun v27 => (f_L_low ((x2 >>> ((8:Int32) &&& 31))) ((3:Int32)) v27.2).bind (fun v28 => (oC (f_setPart ((v2.1 - v4)) ((v28.1 - (1:Int32)))) v28.2).bind (fun v29 => some ((0:Int32), v29.2))))))) else (f_L_act_314 v6.2)))) else (if x3 = (8:Int32) then ((f_L_selects (x1) (x2) v6.2).bind (fun v30 => some (v30.1, v30.2))) else (if x3 = (9:Int32) then ((ldA v6.2 x1 (2:Int32)).bind (fun v31 => if v31 = (6:Int32) then (f_L_act_415 (x1) (((-9):Int32)) v6.2) else ((f_L_low (x2) ((4:Int32)) v6.2).bind (fun v32 => (f_L_low ((x2 >>> ((2:Int32) &&& 31))) ((2:Int32)) v32.2).bind (fun v33 => if v33.1 = (0:Int32) then (f_L_act_402 (x1) (x2) (v32.1) (((-1):Int32)) v33.2) else (f_L_act_402 (x1) (x2) (v32.1) (v6.1) v33.2)))))) else (if x3 = (10:Int32) then ((ldA v6.2 x1 (3:Int32)).bind (fun v34 => if v34 = (12:Int32) then (f_L_act_450 (x1) (x2) v6.2) else ((ldA v6.2 x1 (2:Int32)).bind (fun v35 => if v35 = (0:Int32) then (f_L_act_450 (x1) (x2) v6.2) else ((ldA v6.2 x1 (2:Int32)).bind (fun v36 => (f_L_low (x2) (v36) v6.2).bind (fun v37 => (ldA v37.2 x1 (1:Int32)).bind (fun v38 => (f_L_low ((x2 >>> ((3:Int32) &&& 31))) ((v38 + (1:Int32))) v37.2).bind (fun v39 => (f_L_rules (v37.1) (v39.1) v39.2).bind (fun v40 => f_L_act_477 (x1) (x2) (v40.1) v40.2)))))))))) else (if x3 = (11:Int32) then ((ldA v6.2 x1 (3:Int32)).bind (fun v41 => if v41 = (12:Int32) then (f_L_act_450 (x1) (x2) v6.2) else ((ldA v6.2 x1 (2:Int32)).bind (fun v42 => if v42 = (0:Int32) then (f_L_act_450 (x1) (x2) v6.2) else ((ldA v6.2 x1 (2:Int32)).bind (fun v43 => (f_L_low (x2) (v43) v6.2).bind (fun v44 => (ldA v44.2 x1 (1:Int32)).bind (fun v45 => (f_L_low ((x2 >>> ((3:Int32) &&& 31))) ((v45 + (1:Int32))) v44.2).bind (fun v46 => (f_L_rules (v44.1) (v46.1) v46.2).bind (fun v47 => f_L_act_477 (x1) (x2) (v47.1) v47.2)))))))))) else (if x3 = (12:Int32) then ((ldA v6.2 x1 (7:Int32)).bind (fun v48 => (f_L_low ((x2 >>> ((4:Int32) &&& 31))) ((17:Int32)) v6.2).bind (fun v49 => if v49.1 = (6:Int32) then (f_L_act_595 (x2) ((v2.1 - v4)) (x1) ((7:Int32)) (v48) ((1:Int32)) v49.2) else (f_L_act_595 (x2) ((v2.1 - v4)) (x1) ((7:Int32)) (v48) ((0:Int32)) v49.2)))) else (if x3 = (13:Int32) then ((ldA v6.2 x1 (7:Int32)).bind (fun v50 => (f_L_low ((x2 >>> ((4:Int32) &&& 31))) ((16:Int32)) v6.2).bind (fun v51 => if v51.1 = (6:Int32) then (f_L_act_694 (x2) ((v2.1 - v4)) (x1) ((7:Int32)) (v50) ((1:Int32)) v51.2) else (f_L_act_694 (x2) ((v2.1 - v4)) (x1) ((7:Int32)) (v50) ((0:Int32)) v51.2)))) else (if x3 = (14:Int32) then ((f_L_low ((x2 >>> ((4:Int32) &&& 31))) ((7:Int32)) v6.2).bind (fun v52 => (f_L_low ((x2 >>> ((7:Int32) &&& 31))) ((900:Int32)) v52.2).bind (fun v53 => (f_L_whens ((v2.1 - v4)) ((v52.1 - (1:Int32))) (v53.1) v53.2).bind (fun v54 => some (v54.1, v54.2))))) else ((ldA v6.2 x1 (2:Int32)).bind (fun v55 => if v55 ≤ (0:Int32) then (f_L_act_824 (x2) v6.2) else ((ldA v6.2 x1 (2:Int32)).bind (fun v56 => (f_L_low (x2) (v56) v6.2).bind (fun v57 => (f_L_low ((x2 >>> ((4:Int32) &&& 31))) ((4:Int32)) v57.2).bind (fun v58 => if v58.1 ≤ (0:Int32) then (f_L_act_820 (x2) (v57.1) ((0:Int32)) v58.2) else (f_L_act_820 (x2) (v57.1) ((1:Int32)) v58.2)))))))))))))))))))))))))))) = some (v, V') := h
  refine lv_iload_n hx hb dL_act_0 rfl (lv_at hl 2 rfl) ?_
  refine lv_aload_n hx hb dL_act_1 rfl (lv_at hl 1 rfl) ?_
  refine lv_iconst (v := (0:Int32)) hx hb dL_act_2 (by decide) ?_
  obtain ⟨v1, hv1, h⟩ := ob h
  refine l_ald X hI hv1 dL_act_3 ?_
  refine lv_iconst (v := (1:Int32)) hx hb dL_act_4 (by decide) ?_
  refine lv_iadd hx hb dL_act_5 ?_
  obtain ⟨v2, hv2, h⟩ := ob h
  refine l_after (l_runS X (K_L_low l hl9 D b V (x2) ((v1 + (1:Int32))) (v := v2.1) (V' := v2.2) hv2) ⟨w_624, ww_L_low⟩ hy_L_low rfl ⟨(Nat.le_of_ble_eq_true rfl), (Nat.le_of_ble_eq_true rfl)⟩ hI hS hl.1 (Nat.le_of_ble_eq_true rfl) dL_act_6 rfl ⟨by omega, by omega⟩) hS (fun H locs hI hS => ?_)
  refine W.eq (g2 := F0 m 9 ls [.int v2.1]) rfl ?_
  refine lv_iload_n hx hb dL_act_9 rfl (lv_at hl 2 rfl) ?_
  refine lv_bipush (v := (9:Int32)) hx hb dL_act_10 (by decide) ?_
  refine lv_ishr hx hb dL_act_12 ?_
  refine lv_bipush (v := (29:Int32)) hx hb dL_act_13 (by decide) ?_
  obtain ⟨v3, hv3, h⟩ := ob h
  refine l_after (l_runS X (K_L_low l hl9 D b v2.2 ((x2 >>> ((9:Int32) &&& 31))) ((29:Int32)) (v := v3.1) (V' := v3.2) hv3) ⟨w_624, ww_L_low⟩ hy_L_low rfl ⟨(Nat.le_of_ble_eq_true rfl), (Nat.le_of_ble_eq_true rfl)⟩ hI hS hl.1 (Nat.le_of_ble_eq_true rfl) dL_act_15 rfl ⟨by omega, by omega⟩) hS (fun H locs hI hS => ?_)
  refine W.eq (g2 := F0 m 18 ls [.int v3.1, .int v2.1]) rfl ?_
  refine lv_bipush (v := (28:Int32)) hx hb dL_act_18 (by decide) ?_
  obtain ⟨v4, hv4, h⟩ := ob h
  obtain ⟨hnv4, hev4⟩ := dv_spec hv4
  refine lv_idiv hx hb dL_act_20 hnv4 ?_
  rw [hev4]
  refine lv_isub hx hb dL_act_21 ?_
  refine c_istore hx hb dL_act_22 hl (Nat.le_of_ble_eq_true rfl) (lvKa rfl (lvKa rfl (lvKa rfl (lvKi lvK0)))) rfl (fun ls (hl : lv_has ls 7 [(4, .int (v2.1 - v4)), (0, cv (lwO b) (some 1)), (1, .ref x1), (2, .int x2), (3, .int x3)]) => ?_)
  refine lv_iload_n hx hb dL_act_24 rfl (lv_at hl 3 rfl) ?_
  refine lv_iconst (v := (4:Int32)) hx hb dL_act_25 (by decide) ?_
  refine lv_ishr hx hb dL_act_26 ?_
  refine lv_aload_n hx hb dL_act_27 rfl (lv_at hl 2 rfl) ?_
  refine lv_iconst (v := (0:Int32)) hx hb dL_act_28 (by decide) ?_
  obtain ⟨v5, hv5, h⟩ := ob h
  refine l_ald X hI hv5 dL_act_29 ?_
  obtain ⟨v6, hv6, h⟩ := ob h
  refine l_after (l_runS X (K_L_low l hl9 D b v3.2 ((x2 >>> ((4:Int32) &&& 31))) (v5) (v := v6.1) (V' := v6.2) hv6) ⟨w_624, ww_L_low⟩ hy_L_low rfl ⟨(Nat.le_of_ble_eq_true rfl), (Nat.le_of_ble_eq_true rfl)⟩ hI hS hl.1 (Nat.le_of_ble_eq_true rfl) dL_act_30 rfl ⟨by omega, by omega⟩) hS (fun H locs hI hS => ?_)
  refine W.eq (g2 := F0 m 33 ls [.int v6.1]) rfl ?_
  refine c_istore hx hb dL_act_33 hl (Nat.le_of_ble_eq_true rfl) (lvKi (lvKa rfl (lvKa rfl (lvKa rfl (lvKa rfl lvK0))))) rfl (fun ls (hl : lv_has ls 7 [(5, .int v6.1), (4, .int (v2.1 - v4)), (0, cv (lwO b) (some 1)), (1, .ref x1), (2, .int x2), (3, .int x3)]) => ?_)
  refine lv_iload_n hx hb dL_act_35 rfl (lv_at hl 5 rfl) ?_
  by_cases hc0 : x3 = (0:Int32)
  · have h := ip hc0 h
    refine lv_tableIn (tgt := 112) (off := 76) hx hb dL_act_36 (by rw [hc0]; decide) (by rw [hc0]; decide) (by rw [hc0]; rfl) rfl ?_
    refine c_aload_n hx hb dL_act_112 rfl (lv_at hl 2 rfl) ?_
    refine lv_aload_n hx hb dL_act_113 rfl (lv_at hl 3 rfl) ?_
    refine lv_iload_n hx hb dL_act_114 rfl (lv_at hl 4 rfl) ?_
    refine lv_iconst (v := (3:Int32)) hx hb dL_act_115 (by decide) ?_
    obtain ⟨v7, hv7, h⟩ := ob h
    refine l_after (l_runS X (K_L_low l hl9 D b v6.2 (x2) ((3:Int32)) (v := v7.1) (V' := v7.2) hv7) ⟨w_624, ww_L_low⟩ hy_L_low rfl ⟨(Nat.le_of_ble_eq_true rfl), (Nat.le_of_ble_eq_true rfl)⟩ hI hS hl.1 (Nat.le_of_ble_eq_true rfl) dL_act_116 rfl ⟨by omega, by omega⟩) hS (fun H locs hI hS => ?_)
    refine W.eq (g2 := F0 m 119 ls [.int v7.1, .ref x1, cv (lwO b) (some 1)]) rfl ?_
    refine lv_if_ne (tgt := 127) hx hb dL_act_119 rfl (fun hc => ?_) (fun hc => ?_)
    · have h := ine hc h
      refine lv_iload_n hx hb dL_act_127 rfl (lv_at hl 4 rfl) ?_
      refine lv_iconst (v := (2:Int32)) hx hb dL_act_128 (by decide) ?_
      refine lv_ishr hx hb dL_act_129 ?_
      refine lv_iconst (v := (4:Int32)) hx hb dL_act_130 (by decide) ?_
      obtain ⟨v8, hv8, h⟩ := ob h
      refine l_after (l_runS X (K_L_low l hl9 D b v7.2 ((x2 >>> ((2:Int32) &&& 31))) ((4:Int32)) (v := v8.1) (V' := v8.2) hv8) ⟨w_624, ww_L_low⟩ hy_L_low rfl ⟨(Nat.le_of_ble_eq_true rfl), (Nat.le_of_ble_eq_true rfl)⟩ hI hS hl.1 (Nat.le_of_ble_eq_true rfl) dL_act_131 rfl ⟨by omega, by omega⟩) hS (fun H locs hI hS => ?_)
      refine W.eq (g2 := F0 m 134 ls [.int v8.1, .ref x1, cv (lwO b) (some 1)]) rfl ?_
      exact N_L_act_134 X hl9 hI hS (by omega) (by omega) (lv_sub hl [] rfl) h
    · have h := ip hc h
      refine lv_bipush (v := (7:Int32)) hx hb dL_act_122 (by decide) ?_
      refine lv_goto (tgt := 134) hx hb dL_act_124 rfl ?_
      exact N_L_act_134 X hl9 hI hS (by omega) (by omega) (lv_sub hl [] rfl) h
  · have h := ine hc0 h
    by_cases hc1 : x3 = (1:Int32)
    · have h := ip hc1 h
      refine lv_tableIn (tgt := 138) (off := 102) hx hb dL_act_36 (by rw [hc1]; decide) (by rw [hc1]; decide) (by rw [hc1]; rfl) rfl ?_
      refine c_aload_n hx hb dL_act_138 rfl (lv_at hl 2 rfl) ?_
      refine lv_iload hx hb dL_act_139 (lv_at hl 1 rfl) ?_
      refine lv_iload hx hb dL_act_141 (lv_at hl 0 rfl) ?_
      refine lv_iload_n hx hb dL_act_143 rfl (lv_at hl 4 rfl) ?_
      refine lv_bipush (v := (8:Int32)) hx hb dL_act_144 (by decide) ?_
      refine lv_ishr hx hb dL_act_146 ?_
      refine lv_iconst (v := (2:Int32)) hx hb dL_act_147 (by decide) ?_
      obtain ⟨v9, hv9, h⟩ := ob h
      refine l_after (l_runS X (K_L_low l hl9 D b v6.2 ((x2 >>> ((8:Int32) &&& 31))) ((2:Int32)) (v := v9.1) (V' := v9.2) hv9) ⟨w_624, ww_L_low⟩ hy_L_low rfl ⟨(Nat.le_of_ble_eq_true rfl), (Nat.le_of_ble_eq_true rfl)⟩ hI hS hl.1 (Nat.le_of_ble_eq_true rfl) dL_act_148 rfl ⟨by omega, by omega⟩) hS (fun H locs hI hS => ?_)
      refine W.eq (g2 := F0 m 151 ls [.int v9.1, .int v6.1, .int (v2.1 - v4), cv (lwO b) (some 1)]) rfl ?_
      obtain ⟨v10, hv10, h⟩ := ob h
      refine l_after (l_runW X (K_L_puts l hl9 D b v9.2 ((v2.1 - v4)) (v6.1) (v9.1) (v := v10.1) (V' := v10.2) hv10) ⟨w_726, ww_L_puts⟩ hy_L_puts rfl ⟨(Nat.le_of_ble_eq_true rfl), (Nat.le_of_ble_eq_true rfl)⟩ hI hS hl.1 (Nat.le_of_ble_eq_true rfl) dL_act_151 rfl ⟨by omega, by omega⟩) hS (fun H locs hI hS => ?_)
      refine W.eq (g2 := F0 m 154 ls [.int v10.1]) rfl ?_
      obtain ⟨rfl, rfl⟩ := Prod.mk.inj (sj h)
      exact l_ri X hI hS (by omega) (by omega) dL_act_154
    · have h := ine hc1 h
      by_cases hc2 : x3 = (2:Int32)
      · have h := ip hc2 h
        refine lv_tableIn (tgt := 138) (off := 102) hx hb dL_act_36 (by rw [hc2]; decide) (by rw [hc2]; decide) (by rw [hc2]; rfl) rfl ?_
        refine c_aload_n hx hb dL_act_138 rfl (lv_at hl 2 rfl) ?_
        refine lv_iload hx hb dL_act_139 (lv_at hl 1 rfl) ?_
        refine lv_iload hx hb dL_act_141 (lv_at hl 0 rfl) ?_
        refine lv_iload_n hx hb dL_act_143 rfl (lv_at hl 4 rfl) ?_
        refine lv_bipush (v := (8:Int32)) hx hb dL_act_144 (by decide) ?_
        refine lv_ishr hx hb dL_act_146 ?_
        refine lv_iconst (v := (2:Int32)) hx hb dL_act_147 (by decide) ?_
        obtain ⟨v11, hv11, h⟩ := ob h
        refine l_after (l_runS X (K_L_low l hl9 D b v6.2 ((x2 >>> ((8:Int32) &&& 31))) ((2:Int32)) (v := v11.1) (V' := v11.2) hv11) ⟨w_624, ww_L_low⟩ hy_L_low rfl ⟨(Nat.le_of_ble_eq_true rfl), (Nat.le_of_ble_eq_true rfl)⟩ hI hS hl.1 (Nat.le_of_ble_eq_true rfl) dL_act_148 rfl ⟨by omega, by omega⟩) hS (fun H locs hI hS => ?_)
        refine W.eq (g2 := F0 m 151 ls [.int v11.1, .int v6.1, .int (v2.1 - v4), cv (lwO b) (some 1)]) rfl ?_
        obtain ⟨v12, hv12, h⟩ := ob h
        refine l_after (l_runW X (K_L_puts l hl9 D b v11.2 ((v2.1 - v4)) (v6.1) (v11.1) (v := v12.1) (V' := v12.2) hv12) ⟨w_726, ww_L_puts⟩ hy_L_puts rfl ⟨(Nat.le_of_ble_eq_true rfl), (Nat.le_of_ble_eq_true rfl)⟩ hI hS hl.1 (Nat.le_of_ble_eq_true rfl) dL_act_151 rfl ⟨by omega, by omega⟩) hS (fun H locs hI hS => ?_)
        refine W.eq (g2 := F0 m 154 ls [.int v12.1]) rfl ?_
        obtain ⟨rfl, rfl⟩ := Prod.mk.inj (sj h)
        exact l_ri X hI hS (by omega) (by omega) dL_act_154
      · have h := ine hc2 h
        by_cases hc3 : x3 = (3:Int32)
        · have h := ip hc3 h
          refine lv_tableIn (tgt := 155) (off := 119) hx hb dL_act_36 (by rw [hc3]; decide) (by rw [hc3]; decide) (by rw [hc3]; rfl) rfl ?_
          refine c_aload_n hx hb dL_act_155 rfl (lv_at hl 2 rfl) ?_
          refine lv_iload hx hb dL_act_156 (lv_at hl 1 rfl) ?_
          refine lv_iload hx hb dL_act_158 (lv_at hl 0 rfl) ?_
          refine lv_iload_n hx hb dL_act_160 rfl (lv_at hl 4 rfl) ?_
          refine lv_bipush (v := (8:Int32)) hx hb dL_act_161 (by decide) ?_
          refine lv_ishr hx hb dL_act_163 ?_
          refine lv_iconst (v := (2:Int32)) hx hb dL_act_164 (by decide) ?_
          obtain ⟨v13, hv13, h⟩ := ob h
          refine l_after (l_runS X (K_L_low l hl9 D b v6.2 ((x2 >>> ((8:Int32) &&& 31))) ((2:Int32)) (v := v13.1) (V' := v13.2) hv13) ⟨w_624, ww_L_low⟩ hy_L_low rfl ⟨(Nat.le_of_ble_eq_true rfl), (Nat.le_of_ble_eq_true rfl)⟩ hI hS hl.1 (Nat.le_of_ble_eq_true rfl) dL_act_165 rfl ⟨by omega, by omega⟩) hS (fun H locs hI hS => ?_)
          refine W.eq (g2 := F0 m 168 ls [.int v13.1, .int v6.1, .int (v2.1 - v4), cv (lwO b) (some 1)]) rfl ?_
          obtain ⟨v14, hv14, h⟩ := ob h
          refine l_after (l_runW X (K_L_tops l hl9 D b v13.2 ((v2.1 - v4)) (v6.1) (v13.1) (v := v14.1) (V' := v14.2) hv14) ⟨w_1199, ww_L_tops⟩ hy_L_tops rfl ⟨(Nat.le_of_ble_eq_true rfl), (Nat.le_of_ble_eq_true rfl)⟩ hI hS hl.1 (Nat.le_of_ble_eq_true rfl) dL_act_168 rfl ⟨by omega, by omega⟩) hS (fun H locs hI hS => ?_)
          refine W.eq (g2 := F0 m 171 ls [.int v14.1]) rfl ?_
          obtain ⟨rfl, rfl⟩ := Prod.mk.inj (sj h)
          exact l_ri X hI hS (by omega) (by omega) dL_act_171
        · have h := ine hc3 h
          by_cases hc4 : x3 = (4:Int32)
          · have h := ip hc4 h
            refine lv_tableIn (tgt := 172) (off := 136) hx hb dL_act_36 (by rw [hc4]; decide) (by rw [hc4]; decide) (by rw [hc4]; rfl) rfl ?_
            refine lv_iload_n hx hb dL_act_172 rfl (lv_at hl 4 rfl) ?_
            refine lv_bipush (v := (6:Int32)) hx hb dL_act_173 (by decide) ?_
            refine lv_ishr hx hb dL_act_175 ?_
            refine lv_iconst (v := (3:Int32)) hx hb dL_act_176 (by decide) ?_
            obtain ⟨v15, hv15, h⟩ := ob h
            refine l_after (l_runS X (K_L_low l hl9 D b v6.2 ((x2 >>> ((6:Int32) &&& 31))) ((3:Int32)) (v := v15.1) (V' := v15.2) hv15) ⟨w_624, ww_L_low⟩ hy_L_low rfl ⟨(Nat.le_of_ble_eq_true rfl), (Nat.le_of_ble_eq_true rfl)⟩ hI hS hl.1 (Nat.le_of_ble_eq_true rfl) dL_act_177 rfl ⟨by omega, by omega⟩) hS (fun H locs hI hS => ?_)
            refine W.eq (g2 := F0 m 180 ls [.int v15.1]) rfl ?_
            refine lv_if_ne (tgt := 199) hx hb dL_act_180 rfl (fun hc => ?_) (fun hc => ?_)
            · have h := ine hc h
              exact N_L_act_199 X hl9 hI hS (by omega) (by omega) (lv_sub hl [] rfl) h
            · have h := ip hc h
              refine lv_aload_n hx hb dL_act_183 rfl (lv_at hl 3 rfl) ?_
              refine lv_bipush (v := (7:Int32)) hx hb dL_act_184 (by decide) ?_
              obtain ⟨v16, hv16, h⟩ := ob h
              refine l_ald X hI hv16 dL_act_186 ?_
              refine lv_if_ne (tgt := 199) hx hb dL_act_187 rfl (fun hc => ?_) (fun hc => ?_)
              · have h := ine hc h
                exact N_L_act_199 X hl9 hI hS (by omega) (by omega) (lv_sub hl [] rfl) h
              · have h := ip hc h
                refine c_aload_n hx hb dL_act_190 rfl (lv_at hl 2 rfl) ?_
                refine lv_iload hx hb dL_act_191 (lv_at hl 1 rfl) ?_
                obtain ⟨v17, hv17, h⟩ := ob h
                refine l_after (l_runW X (K_L_takes l hl9 D b v15.2 ((v2.1 - v4)) (v := v17.1) (V' := v17.2) hv17) ⟨w_838, ww_L_takes⟩ hy_L_takes rfl ⟨(Nat.le_of_ble_eq_true rfl), (Nat.le_of_ble_eq_true rfl)⟩ hI hS hl.1 (Nat.le_of_ble_eq_true rfl) dL_act_193 rfl ⟨by omega, by omega⟩) hS (fun H locs hI hS => ?_)
                refine W.eq (g2 := F0 m 196 ls [.int v17.1]) rfl ?_
                refine lv_goto (tgt := 201) hx hb dL_act_196 rfl ?_
                exact N_L_act_201 X hl9 hI hS (by omega) (by omega) (lv_sub hl [] rfl) h
          · have h := ine hc4 h
            by_cases hc5 : x3 = (5:Int32)
            · have h := ip hc5 h
              refine lv_tableIn (tgt := 202) (off := 166) hx hb dL_act_36 (by rw [hc5]; decide) (by rw [hc5]; decide) (by rw [hc5]; rfl) rfl ?_
              refine lv_iload_n hx hb dL_act_202 rfl (lv_at hl 4 rfl) ?_
              refine lv_bipush (v := (6:Int32)) hx hb dL_act_203 (by decide) ?_
              refine lv_ishr hx hb dL_act_205 ?_
              refine lv_iconst (v := (2:Int32)) hx hb dL_act_206 (by decide) ?_
              obtain ⟨v18, hv18, h⟩ := ob h
              refine l_after (l_runS X (K_L_low l hl9 D b v6.2 ((x2 >>> ((6:Int32) &&& 31))) ((2:Int32)) (v := v18.1) (V' := v18.2) hv18) ⟨w_624, ww_L_low⟩ hy_L_low rfl ⟨(Nat.le_of_ble_eq_true rfl), (Nat.le_of_ble_eq_true rfl)⟩ hI hS hl.1 (Nat.le_of_ble_eq_true rfl) dL_act_207 rfl ⟨by omega, by omega⟩) hS (fun H locs hI hS => ?_)
              refine W.eq (g2 := F0 m 210 ls [.int v18.1]) rfl ?_
              refine lv_if_ne (tgt := 229) hx hb dL_act_210 rfl (fun hc => ?_) (fun hc => ?_)
              · have h := ine hc h
                exact N_L_act_229 X hl9 hI hS (by omega) (by omega) (lv_sub hl [3] rfl) h
              · have h := ip hc h
                refine lv_aload_n hx hb dL_act_213 rfl (lv_at hl 3 rfl) ?_
                refine lv_bipush (v := (8:Int32)) hx hb dL_act_214 (by decide) ?_
                obtain ⟨v19, hv19, h⟩ := ob h
                refine l_ald X hI hv19 dL_act_216 ?_
                refine lv_if_ne (tgt := 229) hx hb dL_act_217 rfl (fun hc => ?_) (fun hc => ?_)
                · have h := ine hc h
                  exact N_L_act_229 X hl9 hI hS (by omega) (by omega) (lv_sub hl [3] rfl) h
                · have h := ip hc h
                  refine c_aload_n hx hb dL_act_220 rfl (lv_at hl 2 rfl) ?_
                  refine lv_iload hx hb dL_act_221 (lv_at hl 1 rfl) ?_
                  obtain ⟨v20, hv20, h⟩ := ob h
                  refine l_after (l_runW X (K_L_shadows l hl9 D b v18.2 ((v2.1 - v4)) (v := v20.1) (V' := v20.2) hv20) ⟨w_1206, ww_L_shadows⟩ hy_L_shadows rfl ⟨(Nat.le_of_ble_eq_true rfl), (Nat.le_of_ble_eq_true rfl)⟩ hI hS hl.1 (Nat.le_of_ble_eq_true rfl) dL_act_223 rfl ⟨by omega, by omega⟩) hS (fun H locs hI hS => ?_)
                  refine W.eq (g2 := F0 m 226 ls [.int v20.1]) rfl ?_
                  refine lv_goto (tgt := 231) hx hb dL_act_226 rfl ?_
                  exact N_L_act_231 X hl9 hI hS (by omega) (by omega) (lv_sub hl [3] rfl) h
            · have h := ine hc5 h
              by_cases hc6 : x3 = (6:Int32)
              · have h := ip hc6 h
                refine lv_tableIn (tgt := 253) (off := 217) hx hb dL_act_36 (by rw [hc6]; decide) (by rw [hc6]; decide) (by rw [hc6]; rfl) rfl ?_
                refine lv_iload hx hb dL_act_253 (lv_at hl 1 rfl) ?_
                refine lv_if_lt (tgt := 266) hx hb dL_act_255 rfl (fun hc => ?_) (fun hc => ?_)
                · have h := ip hc h
                  exact N_L_act_266 X hl9 hI hS (by omega) (by omega) (lv_sub hl [] rfl) h
                · have h := ine hc h
                  refine lv_iload hx hb dL_act_258 (lv_at hl 1 rfl) ?_
                  refine lv_aload_n hx hb dL_act_260 rfl (lv_at hl 3 rfl) ?_
                  refine lv_iconst (v := (0:Int32)) hx hb dL_act_261 (by decide) ?_
                  obtain ⟨v21, hv21, h⟩ := ob h
                  refine l_ald X hI hv21 dL_act_262 ?_
                  refine lv_icmp_lt (tgt := 269) hx hb dL_act_263 rfl (fun hc => ?_) (fun hc => ?_)
                  · have h := ip hc h
                    refine c_aload_n hx hb dL_act_269 rfl (lv_at hl 2 rfl) ?_
                    refine lv_iload hx hb dL_act_270 (lv_at hl 1 rfl) ?_
                    refine lv_iload_n hx hb dL_act_272 rfl (lv_at hl 4 rfl) ?_
                    refine lv_iconst (v := (5:Int32)) hx hb dL_act_273 (by decide) ?_
                    refine lv_ishr hx hb dL_act_274 ?_
                    refine lv_iconst (v := (3:Int32)) hx hb dL_act_275 (by decide) ?_
                    obtain ⟨v22, hv22, h⟩ := ob h
                    refine l_after (l_runS X (K_L_low l hl9 D b v6.2 ((x2 >>> ((5:Int32) &&& 31))) ((3:Int32)) (v := v22.1) (V' := v22.2) hv22) ⟨w_624, ww_L_low⟩ hy_L_low rfl ⟨(Nat.le_of_ble_eq_true rfl), (Nat.le_of_ble_eq_true rfl)⟩ hI hS hl.1 (Nat.le_of_ble_eq_true rfl) dL_act_276 rfl ⟨by omega, by omega⟩) hS (fun H locs hI hS => ?_)
                    refine W.eq (g2 := F0 m 279 ls [.int v22.1, .int (v2.1 - v4), cv (lwO b) (some 1)]) rfl ?_
                    refine lv_iload_n hx hb dL_act_279 rfl (lv_at hl 4 rfl) ?_
                    refine lv_bipush (v := (7:Int32)) hx hb dL_act_280 (by decide) ?_
                    refine lv_ishr hx hb dL_act_282 ?_
                    refine lv_iconst (v := (2:Int32)) hx hb dL_act_283 (by decide) ?_
                    obtain ⟨v23, hv23, h⟩ := ob h
                    refine l_after (l_runS X (K_L_low l hl9 D b v22.2 ((x2 >>> ((7:Int32) &&& 31))) ((2:Int32)) (v := v23.1) (V' := v23.2) hv23) ⟨w_624, ww_L_low⟩ hy_L_low rfl ⟨(Nat.le_of_ble_eq_true rfl), (Nat.le_of_ble_eq_true rfl)⟩ hI hS hl.1 (Nat.le_of_ble_eq_true rfl) dL_act_284 rfl ⟨by omega, by omega⟩) hS (fun H locs hI hS => ?_)
                    refine W.eq (g2 := F0 m 287 ls [.int v23.1, .int v22.1, .int (v2.1 - v4), cv (lwO b) (some 1)]) rfl ?_
                    refine lv_if_ne (tgt := 294) hx hb dL_act_287 rfl (fun hc => ?_) (fun hc => ?_)
                    · have h := ine hc h
                      refine lv_iconst (v := (0:Int32)) hx hb dL_act_294 (by decide) ?_
                      exact N_L_act_295 X hl9 hI hS (by omega) (by omega) (lv_sub hl [] rfl) h
                    · have h := ip hc h
                      refine lv_iconst (v := (1:Int32)) hx hb dL_act_290 (by decide) ?_
                      refine lv_goto (tgt := 295) hx hb dL_act_291 rfl ?_
                      exact N_L_act_295 X hl9 hI hS (by omega) (by omega) (lv_sub hl [] rfl) h
                  · have h := ine hc h
                    exact N_L_act_266 X hl9 hI hS (by omega) (by omega) (lv_sub hl [] rfl) h
              · have h := ine hc6 h
                by_cases hc7 : x3 = (7:Int32)
                · have h := ip hc7 h
                  refine lv_tableIn (tgt := 301) (off := 265) hx hb dL_act_36 (by rw [hc7]; decide) (by rw [hc7]; decide) (by rw [hc7]; rfl) rfl ?_
                  refine lv_iload hx hb dL_act_301 (lv_at hl 1 rfl) ?_
                  refine lv_if_lt (tgt := 314) hx hb dL_act_303 rfl (fun hc => ?_) (fun hc => ?_)
                  · have h := ip hc h
                    exact N_L_act_314 X hl9 hI hS (by omega) (by omega) (lv_sub hl [] rfl) h
                  · have h := ine hc h
                    refine lv_iload hx hb dL_act_306 (lv_at hl 1 rfl) ?_
                    refine lv_aload_n hx hb dL_act_308 rfl (lv_at hl 3 rfl) ?_
                    refine lv_iconst (v := (0:Int32)) hx hb dL_act_309 (by decide) ?_
                    obtain ⟨v24, hv24, h⟩ := ob h
                    refine l_ald X hI hv24 dL_act_310 ?_
                    refine lv_icmp_lt (tgt := 317) hx hb dL_act_311 rfl (fun hc => ?_) (fun hc => ?_)
                    · have h := ip hc h
                      refine c_aload_n hx hb dL_act_317 rfl (lv_at hl 2 rfl) ?_
                      refine lv_iload hx hb dL_act_318 (lv_at hl 1 rfl) ?_
                      refine lv_iload_n hx hb dL_act_320 rfl (lv_at hl 4 rfl) ?_
                      refine lv_iconst (v := (5:Int32)) hx hb dL_act_321 (by decide) ?_
                      refine lv_ishr hx hb dL_act_322 ?_
                      refine lv_iconst (v := (2:Int32)) hx hb dL_act_323 (by decide) ?_
                      obtain ⟨v25, hv25, h⟩ := ob h
                      refine l_after (l_runS X (K_L_low l hl9 D b v6.2 ((x2 >>> ((5:Int32) &&& 31))) ((2:Int32)) (v := v25.1) (V' := v25.2) hv25) ⟨w_624, ww_L_low⟩ hy_L_low rfl ⟨(Nat.le_of_ble_eq_true rfl), (Nat.le_of_ble_eq_true rfl)⟩ hI hS hl.1 (Nat.le_of_ble_eq_true rfl) dL_act_324 rfl ⟨by omega, by omega⟩) hS (fun H locs hI hS => ?_)
                      refine W.eq (g2 := F0 m 327 ls [.int v25.1, .int (v2.1 - v4), cv (lwO b) (some 1)]) rfl ?_
                      refine lv_iload_n hx hb dL_act_327 rfl (lv_at hl 4 rfl) ?_
                      refine lv_bipush (v := (6:Int32)) hx hb dL_act_328 (by decide) ?_
                      refine lv_ishr hx hb dL_act_330 ?_
                      refine lv_iconst (v := (4:Int32)) hx hb dL_act_331 (by decide) ?_
                      obtain ⟨v26, hv26, h⟩ := ob h
                      refine l_after (l_runS X (K_L_low l hl9 D b v25.2 ((x2 >>> ((6:Int32) &&& 31))) ((4:Int32)) (v := v26.1) (V' := v26.2) hv26) ⟨w_624, ww_L_low⟩ hy_L_low rfl ⟨(Nat.le_of_ble_eq_true rfl), (Nat.le_of_ble_eq_true rfl)⟩ hI hS hl.1 (Nat.le_of_ble_eq_true rfl) dL_act_332 rfl ⟨by omega, by omega⟩) hS (fun H locs hI hS => ?_)
                      refine W.eq (g2 := F0 m 335 ls [.int v26.1, .int v25.1, .int (v2.1 - v4), cv (lwO b) (some 1)]) rfl ?_
                      refine lv_iconst (v := (1:Int32)) hx hb dL_act_335 (by decide) ?_
                      refine lv_isub hx hb dL_act_336 ?_
                      obtain ⟨v27, hv27, h⟩ := ob h
                      refine l_cls (V := v26.2) (V' := v27.2) (f := f_X11_setAttribute 1 ((v2.1 - v4)) (v25.1) ((v26.1 - (1:Int32)))) X hI hS (fun S q hq => K_X11_setAttribute l hl9 D (lwF b (v26.2).2.2) S 1 ((v2.1 - v4)) (v25.1) ((v26.1 - (1:Int32))) hq) (D_setAttribute hv27).2 (D_setAttribute hv27).1 ⟨w_1218, ww_X11_setAttribute⟩ rfl hy_X11_setAttribute rfl ⟨(Nat.le_of_ble_eq_true rfl), (Nat.le_of_ble_eq_true rfl)⟩ hl.1 (Nat.le_of_ble_eq_true rfl) dL_act_337 rfl ⟨by omega, by omega⟩ (fun u H locs hu hI hS => ?_)
                      subst hu
                      refine W.eq (g2 := F0 m 340 ls [.int v27.1]) rfl ?_
                      refine lv_pop hx hb dL_act_340 rfl ?_
                      refine c_aload_n hx hb dL_act_341 rfl (lv_at hl 2 rfl) ?_
                      refine lv_iload hx hb dL_act_342 (lv_at hl 1 rfl) ?_
                      refine lv_iload_n hx hb dL_act_344 rfl (lv_at hl 4 rfl) ?_
                      refine lv_bipush (v := (8:Int32)) hx hb dL_act_345 (by decide) ?_
                      refine lv_ishr hx hb dL_act_347 ?_
                      refine lv_iconst (v := (3:Int32)) hx hb dL_act_348 (by decide) ?_
                      obtain ⟨v28, hv28, h⟩ := ob h
                      refine l_after (l_runS X (K_L_low l hl9 D b v27.2 ((x2 >>> ((8:Int32) &&& 31))) ((3:Int32)) (v := v28.1) (V' := v28.2) hv28) ⟨w_624, ww_L_low⟩ hy_L_low rfl ⟨(Nat.le_of_ble_eq_true rfl), (Nat.le_of_ble_eq_true rfl)⟩ hI hS hl.1 (Nat.le_of_ble_eq_true rfl) dL_act_349 rfl ⟨by omega, by omega⟩) hS (fun H locs hI hS => ?_)
                      refine W.eq (g2 := F0 m 352 ls [.int v28.1, .int (v2.1 - v4), cv (lwO b) (some 1)]) rfl ?_
                      refine lv_iconst (v := (1:Int32)) hx hb dL_act_352 (by decide) ?_
                      refine lv_isub hx hb dL_act_353 ?_
                      obtain ⟨v29, hv29, h⟩ := ob h
                      refine l_cls (V := v28.2) (V' := v29.2) (f := f_X11_setPart 1 ((v2.1 - v4)) ((v28.1 - (1:Int32)))) X hI hS (fun S q hq => K_X11_setPart l hl9 D (lwF b (v28.2).2.2) S 1 ((v2.1 - v4)) ((v28.1 - (1:Int32))) hq) (D_setPart hv29).2 (D_setPart hv29).1 ⟨w_1222, ww_X11_setPart⟩ rfl hy_X11_setPart rfl ⟨(Nat.le_of_ble_eq_true rfl), (Nat.le_of_ble_eq_true rfl)⟩ hl.1 (Nat.le_of_ble_eq_true rfl) dL_act_354 rfl ⟨by omega, by omega⟩ (fun u H locs hu hI hS => ?_)
                      subst hu
                      refine W.eq (g2 := F0 m 357 ls [.int v29.1]) rfl ?_
                      refine lv_pop hx hb dL_act_357 rfl ?_
                      refine lv_iconst (v := (0:Int32)) hx hb dL_act_358 (by decide) ?_
                      obtain ⟨rfl, rfl⟩ := Prod.mk.inj (sj h)
                      exact l_ri X hI hS (by omega) (by omega) dL_act_359
                    · have h := ine hc h
                      exact N_L_act_314 X hl9 hI hS (by omega) (by omega) (lv_sub hl [] rfl) h
                · have h := ine hc7 h
                  by_cases hc8 : x3 = (8:Int32)
                  · have h := ip hc8 h
                    refine lv_tableIn (tgt := 360) (off := 324) hx hb dL_act_36 (by rw [hc8]; decide) (by rw [hc8]; decide) (by rw [hc8]; rfl) rfl ?_
                    refine c_aload_n hx hb dL_act_360 rfl (lv_at hl 2 rfl) ?_
                    refine lv_aload_n hx hb dL_act_361 rfl (lv_at hl 3 rfl) ?_
                    refine lv_iload_n hx hb dL_act_362 rfl (lv_at hl 4 rfl) ?_
                    obtain ⟨v30, hv30, h⟩ := ob h
                    refine l_after (l_runS X (K_L_selects l hl9 D b v6.2 (x1) (x2) (v := v30.1) (V' := v30.2) hv30) ⟨w_1226, ww_L_selects⟩ hy_L_selects rfl ⟨(Nat.le_of_ble_eq_true rfl), (Nat.le_of_ble_eq_true rfl)⟩ hI hS hl.1 (Nat.le_of_ble_eq_true rfl) dL_act_363 rfl ⟨by omega, by omega⟩) hS (fun H locs hI hS => ?_)
                    refine W.eq (g2 := F0 m 366 ls [.int v30.1]) rfl ?_
                    obtain ⟨rfl, rfl⟩ := Prod.mk.inj (sj h)
                    exact l_ri X hI hS (by omega) (by omega) dL_act_366
                  · have h := ine hc8 h
                    by_cases hc9 : x3 = (9:Int32)
                    · have h := ip hc9 h
                      refine lv_tableIn (tgt := 367) (off := 331) hx hb dL_act_36 (by rw [hc9]; decide) (by rw [hc9]; decide) (by rw [hc9]; rfl) rfl ?_
                      refine lv_aload_n hx hb dL_act_367 rfl (lv_at hl 3 rfl) ?_
                      refine lv_iconst (v := (2:Int32)) hx hb dL_act_368 (by decide) ?_
                      obtain ⟨v31, hv31, h⟩ := ob h
                      refine l_ald X hI hv31 dL_act_369 ?_
                      refine lv_bipush (v := (6:Int32)) hx hb dL_act_370 (by decide) ?_
                      refine lv_icmp_ne (tgt := 380) hx hb dL_act_372 rfl (fun hc => ?_) (fun hc => ?_)
                      · have h := ine hc h
                        refine c_aload_n hx hb dL_act_380 rfl (lv_at hl 2 rfl) ?_
                        refine lv_iload_n hx hb dL_act_381 rfl (lv_at hl 4 rfl) ?_
                        refine lv_iconst (v := (4:Int32)) hx hb dL_act_382 (by decide) ?_
                        obtain ⟨v32, hv32, h⟩ := ob h
                        refine l_after (l_runS X (K_L_low l hl9 D b v6.2 (x2) ((4:Int32)) (v := v32.1) (V' := v32.2) hv32) ⟨w_624, ww_L_low⟩ hy_L_low rfl ⟨(Nat.le_of_ble_eq_true rfl), (Nat.le_of_ble_eq_true rfl)⟩ hI hS hl.1 (Nat.le_of_ble_eq_true rfl) dL_act_383 rfl ⟨by omega, by omega⟩) hS (fun H locs hI hS => ?_)
                        refine W.eq (g2 := F0 m 386 ls [.int v32.1, cv (lwO b) (some 1)]) rfl ?_
                        refine lv_iload_n hx hb dL_act_386 rfl (lv_at hl 4 rfl) ?_
                        refine lv_iconst (v := (2:Int32)) hx hb dL_act_387 (by decide) ?_
                        refine lv_ishr hx hb dL_act_388 ?_
                        refine lv_iconst (v := (2:Int32)) hx hb dL_act_389 (by decide) ?_
                        obtain ⟨v33, hv33, h⟩ := ob h
                        refine l_after (l_runS X (K_L_low l hl9 D b v32.2 ((x2 >>> ((2:Int32) &&& 31))) ((2:Int32)) (v := v33.1) (V' := v33.2) hv33) ⟨w_624, ww_L_low⟩ hy_L_low rfl ⟨(Nat.le_of_ble_eq_true rfl), (Nat.le_of_ble_eq_true rfl)⟩ hI hS hl.1 (Nat.le_of_ble_eq_true rfl) dL_act_390 rfl ⟨by omega, by omega⟩) hS (fun H locs hI hS => ?_)
                        refine W.eq (g2 := F0 m 393 ls [.int v33.1, .int v32.1, cv (lwO b) (some 1)]) rfl ?_
                        refine lv_if_ne (tgt := 400) hx hb dL_act_393 rfl (fun hc => ?_) (fun hc => ?_)
                        · have h := ine hc h
                          refine lv_iload hx hb dL_act_400 (lv_at hl 0 rfl) ?_
                          exact N_L_act_402 X hl9 hI hS (by omega) (by omega) (lv_sub hl [3, 4] rfl) h
                        · have h := ip hc h
                          refine lv_iconst (v := ((-1):Int32)) hx hb dL_act_396 (by decide) ?_
                          refine lv_goto (tgt := 402) hx hb dL_act_397 rfl ?_
                          exact N_L_act_402 X hl9 hI hS (by omega) (by omega) (lv_sub hl [3, 4] rfl) h
                      · have h := ip hc h
                        refine lv_bipush (v := ((-9):Int32)) hx hb dL_act_375 (by decide) ?_
                        refine lv_goto (tgt := 415) hx hb dL_act_377 rfl ?_
                        exact N_L_act_415 X hl9 hI hS (by omega) (by omega) (lv_sub hl [3] rfl) h
                    · have h := ine hc9 h
                      by_cases hc10 : x3 = (10:Int32)
                      · have h := ip hc10 h
                        refine lv_tableIn (tgt := 436) (off := 400) hx hb dL_act_36 (by rw [hc10]; decide) (by rw [hc10]; decide) (by rw [hc10]; rfl) rfl ?_
                        refine lv_aload_n hx hb dL_act_436 rfl (lv_at hl 3 rfl) ?_
                        refine lv_iconst (v := (3:Int32)) hx hb dL_act_437 (by decide) ?_
                        obtain ⟨v34, hv34, h⟩ := ob h
                        refine l_ald X hI hv34 dL_act_438 ?_
                        refine lv_bipush (v := (12:Int32)) hx hb dL_act_439 (by decide) ?_
                        refine lv_icmp_eq (tgt := 450) hx hb dL_act_441 rfl (fun hc => ?_) (fun hc => ?_)
                        · have h := ip hc h
                          exact N_L_act_450 X hl9 hI hS (by omega) (by omega) (lv_sub hl [2, 3, 4] rfl) h
                        · have h := ine hc h
                          refine lv_aload_n hx hb dL_act_444 rfl (lv_at hl 3 rfl) ?_
                          refine lv_iconst (v := (2:Int32)) hx hb dL_act_445 (by decide) ?_
                          obtain ⟨v35, hv35, h⟩ := ob h
                          refine l_ald X hI hv35 dL_act_446 ?_
                          refine lv_if_ne (tgt := 455) hx hb dL_act_447 rfl (fun hc => ?_) (fun hc => ?_)
                          · have h := ine hc h
                            refine c_aload_n hx hb dL_act_455 rfl (lv_at hl 2 rfl) ?_
                            refine lv_iload_n hx hb dL_act_456 rfl (lv_at hl 4 rfl) ?_
                            refine lv_aload_n hx hb dL_act_457 rfl (lv_at hl 3 rfl) ?_
                            refine lv_iconst (v := (2:Int32)) hx hb dL_act_458 (by decide) ?_
                            obtain ⟨v36, hv36, h⟩ := ob h
                            refine l_ald X hI hv36 dL_act_459 ?_
                            obtain ⟨v37, hv37, h⟩ := ob h
                            refine l_after (l_runS X (K_L_low l hl9 D b v6.2 (x2) (v36) (v := v37.1) (V' := v37.2) hv37) ⟨w_624, ww_L_low⟩ hy_L_low rfl ⟨(Nat.le_of_ble_eq_true rfl), (Nat.le_of_ble_eq_true rfl)⟩ hI hS hl.1 (Nat.le_of_ble_eq_true rfl) dL_act_460 rfl ⟨by omega, by omega⟩) hS (fun H locs hI hS => ?_)
                            refine W.eq (g2 := F0 m 463 ls [.int v37.1, cv (lwO b) (some 1)]) rfl ?_
                            refine lv_iload_n hx hb dL_act_463 rfl (lv_at hl 4 rfl) ?_
                            refine lv_iconst (v := (3:Int32)) hx hb dL_act_464 (by decide) ?_
                            refine lv_ishr hx hb dL_act_465 ?_
                            refine lv_aload_n hx hb dL_act_466 rfl (lv_at hl 3 rfl) ?_
                            refine lv_iconst (v := (1:Int32)) hx hb dL_act_467 (by decide) ?_
                            obtain ⟨v38, hv38, h⟩ := ob h
                            refine l_ald X hI hv38 dL_act_468 ?_
                            refine lv_iconst (v := (1:Int32)) hx hb dL_act_469 (by decide) ?_
                            refine lv_iadd hx hb dL_act_470 ?_
                            obtain ⟨v39, hv39, h⟩ := ob h
                            refine l_after (l_runS X (K_L_low l hl9 D b v37.2 ((x2 >>> ((3:Int32) &&& 31))) ((v38 + (1:Int32))) (v := v39.1) (V' := v39.2) hv39) ⟨w_624, ww_L_low⟩ hy_L_low rfl ⟨(Nat.le_of_ble_eq_true rfl), (Nat.le_of_ble_eq_true rfl)⟩ hI hS hl.1 (Nat.le_of_ble_eq_true rfl) dL_act_471 rfl ⟨by omega, by omega⟩) hS (fun H locs hI hS => ?_)
                            refine W.eq (g2 := F0 m 474 ls [.int v39.1, .int v37.1, cv (lwO b) (some 1)]) rfl ?_
                            obtain ⟨v40, hv40, h⟩ := ob h
                            refine l_after (l_runW X (K_L_rules l hl9 D b v39.2 (v37.1) (v39.1) (v := v40.1) (V' := v40.2) hv40) ⟨w_1280, ww_L_rules⟩ hy_L_rules rfl ⟨(Nat.le_of_ble_eq_true rfl), (Nat.le_of_ble_eq_true rfl)⟩ hI hS hl.1 (Nat.le_of_ble_eq_true rfl) dL_act_474 rfl ⟨by omega, by omega⟩) hS (fun H locs hI hS => ?_)
                            refine W.eq (g2 := F0 m 477 ls [.int v40.1]) rfl ?_
                            exact N_L_act_477 X hl9 hI hS (by omega) (by omega) (lv_sub hl [2, 3, 4] rfl) h
                          · have h := ip hc h
                            exact N_L_act_450 X hl9 hI hS (by omega) (by omega) (lv_sub hl [2, 3, 4] rfl) h
                      · have h := ine hc10 h
                        by_cases hc11 : x3 = (11:Int32)
                        · have h := ip hc11 h
                          refine lv_tableIn (tgt := 436) (off := 400) hx hb dL_act_36 (by rw [hc11]; decide) (by rw [hc11]; decide) (by rw [hc11]; rfl) rfl ?_
                          refine lv_aload_n hx hb dL_act_436 rfl (lv_at hl 3 rfl) ?_
                          refine lv_iconst (v := (3:Int32)) hx hb dL_act_437 (by decide) ?_
                          obtain ⟨v41, hv41, h⟩ := ob h
                          refine l_ald X hI hv41 dL_act_438 ?_
                          refine lv_bipush (v := (12:Int32)) hx hb dL_act_439 (by decide) ?_
                          refine lv_icmp_eq (tgt := 450) hx hb dL_act_441 rfl (fun hc => ?_) (fun hc => ?_)
                          · have h := ip hc h
                            exact N_L_act_450 X hl9 hI hS (by omega) (by omega) (lv_sub hl [2, 3, 4] rfl) h
                          · have h := ine hc h
                            refine lv_aload_n hx hb dL_act_444 rfl (lv_at hl 3 rfl) ?_
                            refine lv_iconst (v := (2:Int32)) hx hb dL_act_445 (by decide) ?_
                            obtain ⟨v42, hv42, h⟩ := ob h
                            refine l_ald X hI hv42 dL_act_446 ?_
                            refine lv_if_ne (tgt := 455) hx hb dL_act_447 rfl (fun hc => ?_) (fun hc => ?_)
                            · have h := ine hc h
                              refine c_aload_n hx hb dL_act_455 rfl (lv_at hl 2 rfl) ?_
                              refine lv_iload_n hx hb dL_act_456 rfl (lv_at hl 4 rfl) ?_
                              refine lv_aload_n hx hb dL_act_457 rfl (lv_at hl 3 rfl) ?_
                              refine lv_iconst (v := (2:Int32)) hx hb dL_act_458 (by decide) ?_
                              obtain ⟨v43, hv43, h⟩ := ob h
                              refine l_ald X hI hv43 dL_act_459 ?_
                              obtain ⟨v44, hv44, h⟩ := ob h
                              refine l_after (l_runS X (K_L_low l hl9 D b v6.2 (x2) (v43) (v := v44.1) (V' := v44.2) hv44) ⟨w_624, ww_L_low⟩ hy_L_low rfl ⟨(Nat.le_of_ble_eq_true rfl), (Nat.le_of_ble_eq_true rfl)⟩ hI hS hl.1 (Nat.le_of_ble_eq_true rfl) dL_act_460 rfl ⟨by omega, by omega⟩) hS (fun H locs hI hS => ?_)
                              refine W.eq (g2 := F0 m 463 ls [.int v44.1, cv (lwO b) (some 1)]) rfl ?_
                              refine lv_iload_n hx hb dL_act_463 rfl (lv_at hl 4 rfl) ?_
                              refine lv_iconst (v := (3:Int32)) hx hb dL_act_464 (by decide) ?_
                              refine lv_ishr hx hb dL_act_465 ?_
                              refine lv_aload_n hx hb dL_act_466 rfl (lv_at hl 3 rfl) ?_
                              refine lv_iconst (v := (1:Int32)) hx hb dL_act_467 (by decide) ?_
                              obtain ⟨v45, hv45, h⟩ := ob h
                              refine l_ald X hI hv45 dL_act_468 ?_
                              refine lv_iconst (v := (1:Int32)) hx hb dL_act_469 (by decide) ?_
                              refine lv_iadd hx hb dL_act_470 ?_
                              obtain ⟨v46, hv46, h⟩ := ob h
                              refine l_after (l_runS X (K_L_low l hl9 D b v44.2 ((x2 >>> ((3:Int32) &&& 31))) ((v45 + (1:Int32))) (v := v46.1) (V' := v46.2) hv46) ⟨w_624, ww_L_low⟩ hy_L_low rfl ⟨(Nat.le_of_ble_eq_true rfl), (Nat.le_of_ble_eq_true rfl)⟩ hI hS hl.1 (Nat.le_of_ble_eq_true rfl) dL_act_471 rfl ⟨by omega, by omega⟩) hS (fun H locs hI hS => ?_)
                              refine W.eq (g2 := F0 m 474 ls [.int v46.1, .int v44.1, cv (lwO b) (some 1)]) rfl ?_
                              obtain ⟨v47, hv47, h⟩ := ob h
                              refine l_after (l_runW X (K_L_rules l hl9 D b v46.2 (v44.1) (v46.1) (v := v47.1) (V' := v47.2) hv47) ⟨w_1280, ww_L_rules⟩ hy_L_rules rfl ⟨(Nat.le_of_ble_eq_true rfl), (Nat.le_of_ble_eq_true rfl)⟩ hI hS hl.1 (Nat.le_of_ble_eq_true rfl) dL_act_474 rfl ⟨by omega, by omega⟩) hS (fun H locs hI hS => ?_)
                              refine W.eq (g2 := F0 m 477 ls [.int v47.1]) rfl ?_
                              exact N_L_act_477 X hl9 hI hS (by omega) (by omega) (lv_sub hl [2, 3, 4] rfl) h
                            · have h := ip hc h
                              exact N_L_act_450 X hl9 hI hS (by omega) (by omega) (lv_sub hl [2, 3, 4] rfl) h
                        · have h := ine hc11 h
                          by_cases hc12 : x3 = (12:Int32)
                          · have h := ip hc12 h
                            refine lv_tableIn (tgt := 572) (off := 536) hx hb dL_act_36 (by rw [hc12]; decide) (by rw [hc12]; decide) (by rw [hc12]; rfl) rfl ?_
                            refine lv_aload_n hx hb dL_act_572 rfl (lv_at hl 3 rfl) ?_
                            refine lv_bipush (v := (7:Int32)) hx hb dL_act_573 (by decide) ?_
                            refine lv_dup2_11 hx hb dL_act_575 rfl rfl ?_
                            obtain ⟨v48, hv48, h⟩ := ob h
                            refine l_ald X hI hv48 dL_act_576 ?_
                            refine lv_iload_n hx hb dL_act_577 rfl (lv_at hl 4 rfl) ?_
                            refine lv_iconst (v := (4:Int32)) hx hb dL_act_578 (by decide) ?_
                            refine lv_ishr hx hb dL_act_579 ?_
                            refine lv_bipush (v := (17:Int32)) hx hb dL_act_580 (by decide) ?_
                            obtain ⟨v49, hv49, h⟩ := ob h
                            refine l_after (l_runS X (K_L_low l hl9 D b v6.2 ((x2 >>> ((4:Int32) &&& 31))) ((17:Int32)) (v := v49.1) (V' := v49.2) hv49) ⟨w_624, ww_L_low⟩ hy_L_low rfl ⟨(Nat.le_of_ble_eq_true rfl), (Nat.le_of_ble_eq_true rfl)⟩ hI hS hl.1 (Nat.le_of_ble_eq_true rfl) dL_act_582 rfl ⟨by omega, by omega⟩) hS (fun H locs hI hS => ?_)
                            refine W.eq (g2 := F0 m 585 ls [.int v49.1, .int v48, .int (7:Int32), .ref x1]) rfl ?_
                            refine lv_bipush (v := (6:Int32)) hx hb dL_act_585 (by decide) ?_
                            refine lv_icmp_ne (tgt := 594) hx hb dL_act_587 rfl (fun hc => ?_) (fun hc => ?_)
                            · have h := ine hc h
                              refine lv_iconst (v := (0:Int32)) hx hb dL_act_594 (by decide) ?_
                              exact N_L_act_595 X hl9 hI hS (by omega) (by omega) (lv_sub hl [2, 4, 1] rfl) h
                            · have h := ip hc h
                              refine lv_iconst (v := (1:Int32)) hx hb dL_act_590 (by decide) ?_
                              refine lv_goto (tgt := 595) hx hb dL_act_591 rfl ?_
                              exact N_L_act_595 X hl9 hI hS (by omega) (by omega) (lv_sub hl [2, 4, 1] rfl) h
                          · have h := ine hc12 h
                            by_cases hc13 : x3 = (13:Int32)
                            · have h := ip hc13 h
                              refine lv_tableIn (tgt := 671) (off := 635) hx hb dL_act_36 (by rw [hc13]; decide) (by rw [hc13]; decide) (by rw [hc13]; rfl) rfl ?_
                              refine lv_aload_n hx hb dL_act_671 rfl (lv_at hl 3 rfl) ?_
                              refine lv_bipush (v := (7:Int32)) hx hb dL_act_672 (by decide) ?_
                              refine lv_dup2_11 hx hb dL_act_674 rfl rfl ?_
                              obtain ⟨v50, hv50, h⟩ := ob h
                              refine l_ald X hI hv50 dL_act_675 ?_
                              refine lv_iload_n hx hb dL_act_676 rfl (lv_at hl 4 rfl) ?_
                              refine lv_iconst (v := (4:Int32)) hx hb dL_act_677 (by decide) ?_
                              refine lv_ishr hx hb dL_act_678 ?_
                              refine lv_bipush (v := (16:Int32)) hx hb dL_act_679 (by decide) ?_
                              obtain ⟨v51, hv51, h⟩ := ob h
                              refine l_after (l_runS X (K_L_low l hl9 D b v6.2 ((x2 >>> ((4:Int32) &&& 31))) ((16:Int32)) (v := v51.1) (V' := v51.2) hv51) ⟨w_624, ww_L_low⟩ hy_L_low rfl ⟨(Nat.le_of_ble_eq_true rfl), (Nat.le_of_ble_eq_true rfl)⟩ hI hS hl.1 (Nat.le_of_ble_eq_true rfl) dL_act_681 rfl ⟨by omega, by omega⟩) hS (fun H locs hI hS => ?_)
                              refine W.eq (g2 := F0 m 684 ls [.int v51.1, .int v50, .int (7:Int32), .ref x1]) rfl ?_
                              refine lv_bipush (v := (6:Int32)) hx hb dL_act_684 (by decide) ?_
                              refine lv_icmp_ne (tgt := 693) hx hb dL_act_686 rfl (fun hc => ?_) (fun hc => ?_)
                              · have h := ine hc h
                                refine lv_iconst (v := (0:Int32)) hx hb dL_act_693 (by decide) ?_
                                exact N_L_act_694 X hl9 hI hS (by omega) (by omega) (lv_sub hl [2, 4, 1] rfl) h
                              · have h := ip hc h
                                refine lv_iconst (v := (1:Int32)) hx hb dL_act_689 (by decide) ?_
                                refine lv_goto (tgt := 694) hx hb dL_act_690 rfl ?_
                                exact N_L_act_694 X hl9 hI hS (by omega) (by omega) (lv_sub hl [2, 4, 1] rfl) h
                            · have h := ine hc13 h
                              by_cases hc14 : x3 = (14:Int32)
                              · have h := ip hc14 h
                                refine lv_tableIn (tgt := 764) (off := 728) hx hb dL_act_36 (by rw [hc14]; decide) (by rw [hc14]; decide) (by rw [hc14]; rfl) rfl ?_
                                refine c_aload_n hx hb dL_act_764 rfl (lv_at hl 2 rfl) ?_
                                refine lv_iload hx hb dL_act_765 (lv_at hl 1 rfl) ?_
                                refine lv_iload_n hx hb dL_act_767 rfl (lv_at hl 4 rfl) ?_
                                refine lv_iconst (v := (4:Int32)) hx hb dL_act_768 (by decide) ?_
                                refine lv_ishr hx hb dL_act_769 ?_
                                refine lv_bipush (v := (7:Int32)) hx hb dL_act_770 (by decide) ?_
                                obtain ⟨v52, hv52, h⟩ := ob h
                                refine l_after (l_runS X (K_L_low l hl9 D b v6.2 ((x2 >>> ((4:Int32) &&& 31))) ((7:Int32)) (v := v52.1) (V' := v52.2) hv52) ⟨w_624, ww_L_low⟩ hy_L_low rfl ⟨(Nat.le_of_ble_eq_true rfl), (Nat.le_of_ble_eq_true rfl)⟩ hI hS hl.1 (Nat.le_of_ble_eq_true rfl) dL_act_772 rfl ⟨by omega, by omega⟩) hS (fun H locs hI hS => ?_)
                                refine W.eq (g2 := F0 m 775 ls [.int v52.1, .int (v2.1 - v4), cv (lwO b) (some 1)]) rfl ?_
                                refine lv_iconst (v := (1:Int32)) hx hb dL_act_775 (by decide) ?_
                                refine lv_isub hx hb dL_act_776 ?_
                                refine lv_iload_n hx hb dL_act_777 rfl (lv_at hl 4 rfl) ?_
                                refine lv_bipush (v := (7:Int32)) hx hb dL_act_778 (by decide) ?_
                                refine lv_ishr hx hb dL_act_780 ?_
                                refine lv_sipush (v := (900:Int32)) hx hb dL_act_781 (by decide) ?_
                                obtain ⟨v53, hv53, h⟩ := ob h
                                refine l_after (l_runS X (K_L_low l hl9 D b v52.2 ((x2 >>> ((7:Int32) &&& 31))) ((900:Int32)) (v := v53.1) (V' := v53.2) hv53) ⟨w_624, ww_L_low⟩ hy_L_low rfl ⟨(Nat.le_of_ble_eq_true rfl), (Nat.le_of_ble_eq_true rfl)⟩ hI hS hl.1 (Nat.le_of_ble_eq_true rfl) dL_act_784 rfl ⟨by omega, by omega⟩) hS (fun H locs hI hS => ?_)
                                refine W.eq (g2 := F0 m 787 ls [.int v53.1, .int (v52.1 - (1:Int32)), .int (v2.1 - v4), cv (lwO b) (some 1)]) rfl ?_
                                obtain ⟨v54, hv54, h⟩ := ob h
                                refine l_after (l_runW X (K_L_whens l hl9 D b v53.2 ((v2.1 - v4)) ((v52.1 - (1:Int32))) (v53.1) (v := v54.1) (V' := v54.2) hv54) ⟨w_1354, ww_L_whens⟩ hy_L_whens rfl ⟨(Nat.le_of_ble_eq_true rfl), (Nat.le_of_ble_eq_true rfl)⟩ hI hS hl.1 (Nat.le_of_ble_eq_true rfl) dL_act_787 rfl ⟨by omega, by omega⟩) hS (fun H locs hI hS => ?_)
                                refine W.eq (g2 := F0 m 790 ls [.int v54.1]) rfl ?_
                                obtain ⟨rfl, rfl⟩ := Prod.mk.inj (sj h)
                                exact l_ri X hI hS (by omega) (by omega) dL_act_790
                              · have h := ine hc14 h
                                refine lv_tableOut (tgt := 791) hx hb dL_act_36 (sw_out (lo := 0) (hi := 14) (fun k h1 h2 => by
                                  have h3 : k = 0 ∨ k = 1 ∨ k = 2 ∨ k = 3 ∨ k = 4 ∨ k = 5 ∨ k = 6 ∨ k = 7 ∨ k = 8 ∨ k = 9 ∨ k = 10 ∨ k = 11 ∨ k = 12 ∨ k = 13 ∨ k = 14 := by omega
                                  rcases h3 with rfl | rfl | rfl | rfl | rfl | rfl | rfl | rfl | rfl | rfl | rfl | rfl | rfl | rfl | rfl
                                  · exact hc0
                                  · exact hc1
                                  · exact hc2
                                  · exact hc3
                                  · exact hc4
                                  · exact hc5
                                  · exact hc6
                                  · exact hc7
                                  · exact hc8
                                  · exact hc9
                                  · exact hc10
                                  · exact hc11
                                  · exact hc12
                                  · exact hc13
                                  · exact hc14)) rfl ?_
                                refine lv_aload_n hx hb dL_act_791 rfl (lv_at hl 3 rfl) ?_
                                refine lv_iconst (v := (2:Int32)) hx hb dL_act_792 (by decide) ?_
                                obtain ⟨v55, hv55, h⟩ := ob h
                                refine l_ald X hI hv55 dL_act_793 ?_
                                refine lv_if_le (tgt := 824) hx hb dL_act_794 rfl (fun hc => ?_) (fun hc => ?_)
                                · have h := ip hc h
                                  exact N_L_act_824 X hl9 hI hS (by omega) (by omega) (lv_sub hl [2, 4] rfl) h
                                · have h := ine hc h
                                  refine c_aload_n hx hb dL_act_797 rfl (lv_at hl 2 rfl) ?_
                                  refine lv_iload_n hx hb dL_act_798 rfl (lv_at hl 4 rfl) ?_
                                  refine lv_aload_n hx hb dL_act_799 rfl (lv_at hl 3 rfl) ?_
                                  refine lv_iconst (v := (2:Int32)) hx hb dL_act_800 (by decide) ?_
                                  obtain ⟨v56, hv56, h⟩ := ob h
                                  refine l_ald X hI hv56 dL_act_801 ?_
                                  obtain ⟨v57, hv57, h⟩ := ob h
                                  refine l_after (l_runS X (K_L_low l hl9 D b v6.2 (x2) (v56) (v := v57.1) (V' := v57.2) hv57) ⟨w_624, ww_L_low⟩ hy_L_low rfl ⟨(Nat.le_of_ble_eq_true rfl), (Nat.le_of_ble_eq_true rfl)⟩ hI hS hl.1 (Nat.le_of_ble_eq_true rfl) dL_act_802 rfl ⟨by omega, by omega⟩) hS (fun H locs hI hS => ?_)
                                  refine W.eq (g2 := F0 m 805 ls [.int v57.1, cv (lwO b) (some 1)]) rfl ?_
                                  refine lv_iload_n hx hb dL_act_805 rfl (lv_at hl 4 rfl) ?_
                                  refine lv_iconst (v := (4:Int32)) hx hb dL_act_806 (by decide) ?_
                                  refine lv_ishr hx hb dL_act_807 ?_
                                  refine lv_iconst (v := (4:Int32)) hx hb dL_act_808 (by decide) ?_
                                  obtain ⟨v58, hv58, h⟩ := ob h
                                  refine l_after (l_runS X (K_L_low l hl9 D b v57.2 ((x2 >>> ((4:Int32) &&& 31))) ((4:Int32)) (v := v58.1) (V' := v58.2) hv58) ⟨w_624, ww_L_low⟩ hy_L_low rfl ⟨(Nat.le_of_ble_eq_true rfl), (Nat.le_of_ble_eq_true rfl)⟩ hI hS hl.1 (Nat.le_of_ble_eq_true rfl) dL_act_809 rfl ⟨by omega, by omega⟩) hS (fun H locs hI hS => ?_)
                                  refine W.eq (g2 := F0 m 812 ls [.int v58.1, .int v57.1, cv (lwO b) (some 1)]) rfl ?_
                                  refine lv_if_le (tgt := 819) hx hb dL_act_812 rfl (fun hc => ?_) (fun hc => ?_)
                                  · have h := ip hc h
                                    refine lv_iconst (v := (0:Int32)) hx hb dL_act_819 (by decide) ?_
                                    exact N_L_act_820 X hl9 hI hS (by omega) (by omega) (lv_sub hl [2, 4] rfl) h
                                  · have h := ine hc h
                                    refine lv_iconst (v := (1:Int32)) hx hb dL_act_815 (by decide) ?_
                                    refine lv_goto (tgt := 820) hx hb dL_act_816 rfl ?_
                                    exact N_L_act_820 X hl9 hI hS (by omega) (by omega) (lv_sub hl [2, 4] rfl) h
theorem ww_L_act : Cond.static yL_act ∈ BG ∧ Cond.initialized (yL_act).cls ∈ BG ∧ Cond.code yL_act cL_act 7 (some .int) ∈ BG := ⟨w_1197, w_55, w_1198⟩
theorem hy_L_act : (yL_act).cls ≠ "java/lang/invoke/MethodHandle" ∧ (yL_act).cls ≠ "java/lang/invoke/VarHandle" ∧ (parseMethodDescriptor (yL_act).desc).map (fun d => d.parameters.length) = some 4 := ⟨by decide, by decide, by decide +kernel⟩
