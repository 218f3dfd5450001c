set_option maxRecDepth 100000 in
theorem w_169 : Cond.fieldLink "Cascadery$Cascade" 128 "Cascadery$Rule" "condition" "I" ∈ BG := bg_in 169 (by decide +kernel) (by decide +kernel)
set_option maxRecDepth 100000 in
theorem w_171 : Cond.fieldLink "Cascadery$Cascade" 131 "Cascadery$Rule" "limit" "I" ∈ BG := bg_in 171 (by decide +kernel) (by decide +kernel)
set_option maxRecDepth 100000 in
theorem w_98 : Cond.fieldLink "Cascadery$Cascade" 134 "Cascadery$Style" "size" "I" ∈ BG := bg_in 98 (by decide +kernel) (by decide +kernel)
set_option maxRecDepth 100000 in
theorem w_996 : Cond.code yX1_holds cX1_holds 3 (some .boolean) ∈ BG := bg_in 996 (by rfl) (by decide +kernel)
set_option maxRecDepth 100000 in
theorem w_995 : Cond.instanceMethod yX1_holds ∈ BG := bg_in 995 (by decide +kernel) (by decide +kernel)
set_option maxRecDepth 100000 in
theorem w_31 : Cond.selects "Cascadery$Cascade" yX1_holds yX1_holds ∈ BG := bg_in 31 (by decide +kernel) (by decide +kernel)
set_option maxRecDepth 100000 in
theorem w_228 : Cond.fieldLink "Cascadery$Cascade" 121 "Cascadery$Element" "number" "I" ∈ BG := bg_in 228 (by decide +kernel) (by decide +kernel)
set_option maxRecDepth 100000 in
theorem w_993 : Cond.methodLink "Cascadery$Cascade" 124 yX1_holds ∈ BG := bg_in 993 (by decide +kernel) (by decide +kernel)
set_option maxRecDepth 100000 in
theorem w_1195 : Cond.code yX1_hindrance cX1_hindrance 4 (some .int) ∈ BG := bg_in 1195 (by rfl) (by decide +kernel)
set_option maxRecDepth 100000 in
theorem w_1194 : Cond.instanceMethod yX1_hindrance ∈ BG := bg_in 1194 (by decide +kernel) (by decide +kernel)
set_option maxRecDepth 100000 in
theorem w_51 : Cond.selects "Cascadery$Cascade" yX1_hindrance yX1_hindrance ∈ BG := bg_in 51 (by decide +kernel) (by decide +kernel)
set_option maxRecDepth 100000 in
theorem w_161 : Cond.fieldLink "Cascadery$Cascade" 139 "Cascadery$Rule" "number" "I" ∈ BG := bg_in 161 (by decide +kernel) (by decide +kernel)
set_option maxRecDepth 100000 in
theorem w_992 : Cond.code yX1_applying cX1_applying 6 (some .long) ∈ BG := bg_in 992 (by rfl) (by decide +kernel)
set_option maxRecDepth 100000 in
theorem w_991 : Cond.instanceMethod yX1_applying ∈ BG := bg_in 991 (by decide +kernel) (by decide +kernel)
set_option maxRecDepth 100000 in
theorem w_30 : Cond.selects "Cascadery$Cascade" yX1_applying yX1_applying ∈ BG := bg_in 30 (by decide +kernel) (by decide +kernel)
set_option maxRecDepth 100000 in
theorem w_173 : Cond.fieldLink "Cascadery$Rule" 45 "Cascadery$Rule" "declared" "I" ∈ BG := bg_in 173 (by decide +kernel) (by decide +kernel)
set_option maxRecDepth 100000 in
theorem w_1004 : Cond.code yX6_declares cX6_declares 2 (some .boolean) ∈ BG := bg_in 1004 (by rfl) (by decide +kernel)
set_option maxRecDepth 100000 in
theorem w_1002 : Cond.instanceMethod yX6_declares ∈ BG := bg_in 1002 (by decide +kernel) (by decide +kernel)
set_option maxRecDepth 100000 in
theorem w_1003 : Cond.selects "Cascadery$Rule" yX6_declares yX6_declares ∈ BG := bg_in 1003 (by decide +kernel) (by decide +kernel)
set_option maxRecDepth 100000 in
theorem w_1259 : Cond.fieldLink "Cascadery$Cascade" 172 "Cascadery$Sheet" "number" "I" ∈ BG := bg_in 1259 (by decide +kernel) (by decide +kernel)
set_option maxRecDepth 100000 in
theorem w_422 : Cond.fieldLink "Cascadery$Cascade" 169 "Cascadery$Selector" "weight" "I" ∈ BG := bg_in 422 (by decide +kernel) (by decide +kernel)
set_option maxRecDepth 100000 in
theorem w_1265 : Cond.fieldLink "Cascadery$Cascade" 166 "Cascadery$Sheet" "layer" "I" ∈ BG := bg_in 1265 (by decide +kernel) (by decide +kernel)
set_option maxRecDepth 100000 in
theorem w_167 : Cond.fieldLink "Cascadery$Cascade" 152 "Cascadery$Rule" "origin" "I" ∈ BG := bg_in 167 (by decide +kernel) (by decide +kernel)
set_option maxRecDepth 100000 in
theorem w_177 : Cond.fieldLink "Cascadery$Cascade" 163 "Cascadery$Rule" "important" "I" ∈ BG := bg_in 177 (by decide +kernel) (by decide +kernel)
set_option maxRecDepth 100000 in
theorem w_1008 : Cond.code yX1_precedence cX1_precedence 12 (some .int) ∈ BG := bg_in 1008 (by rfl) (by decide +kernel)
set_option maxRecDepth 100000 in
theorem w_1007 : Cond.instanceMethod yX1_precedence ∈ BG := bg_in 1007 (by decide +kernel) (by decide +kernel)
set_option maxRecDepth 100000 in
theorem w_33 : Cond.selects "Cascadery$Cascade" yX1_precedence yX1_precedence ∈ BG := bg_in 33 (by decide +kernel) (by decide +kernel)
set_option maxRecDepth 100000 in
theorem w_1005 : Cond.methodLink "Cascadery$Cascade" 159 yX1_precedence ∈ BG := bg_in 1005 (by decide +kernel) (by decide +kernel)
set_option maxRecDepth 100000 in
theorem w_1001 : Cond.methodLink "Cascadery$Cascade" 155 yX6_declares ∈ BG := bg_in 1001 (by decide +kernel) (by decide +kernel)
set_option maxRecDepth 100000 in
theorem w_1000 : Cond.code yX1_winner cX1_winner 9 (some (.object "Cascadery$Rule")) ∈ BG := bg_in 1000 (by rfl) (by decide +kernel)
set_option maxRecDepth 100000 in
theorem w_999 : Cond.instanceMethod yX1_winner ∈ BG := bg_in 999 (by decide +kernel) (by decide +kernel)
set_option maxRecDepth 100000 in
theorem w_32 : Cond.selects "Cascadery$Cascade" yX1_winner yX1_winner ∈ BG := bg_in 32 (by decide +kernel) (by decide +kernel)
set_option maxRecDepth 100000 in
theorem w_180 : Cond.fieldLink "Cascadery$Cascade" 148 "Cascadery$Rule" "units" "[I" ∈ BG := bg_in 180 (by decide +kernel) (by decide +kernel)
set_option maxRecDepth 100000 in
theorem w_997 : Cond.methodLink "Cascadery$Cascade" 144 yX1_winner ∈ BG := bg_in 997 (by decide +kernel) (by decide +kernel)
set_option maxRecDepth 100000 in
theorem w_989 : Cond.methodLink "Cascadery$Cascade" 140 yX1_applying ∈ BG := bg_in 989 (by decide +kernel) (by decide +kernel)
set_option maxRecDepth 100000 in
theorem w_988 : Cond.code yX1_gather cX1_gather 8 none ∈ BG := bg_in 988 (by rfl) (by decide +kernel)
set_option maxRecDepth 100000 in
theorem w_986 : Cond.instanceMethod yX1_gather ∈ BG := bg_in 986 (by decide +kernel) (by decide +kernel)
set_option maxRecDepth 100000 in
theorem w_987 : Cond.selects "Cascadery$Cascade" yX1_gather yX1_gather ∈ BG := bg_in 987 (by decide +kernel) (by decide +kernel)
set_option maxRecDepth 100000 in
theorem w_1192 : Cond.methodLink "Cascadery$Cascade" 173 yX1_hindrance ∈ BG := bg_in 1192 (by decide +kernel) (by decide +kernel)
set_option maxRecDepth 100000 in
theorem w_1191 : Cond.code yX1_reason cX1_reason 7 (some .int) ∈ BG := bg_in 1191 (by rfl) (by decide +kernel)
set_option maxRecDepth 100000 in
theorem w_1189 : Cond.instanceMethod yX1_reason ∈ BG := bg_in 1189 (by decide +kernel) (by decide +kernel)
set_option maxRecDepth 100000 in
theorem w_1190 : Cond.selects "Cascadery$Cascade" yX1_reason yX1_reason ∈ BG := bg_in 1190 (by decide +kernel) (by decide +kernel)
set_option maxRecDepth 100000 in
theorem w_366 : Cond.methodLink "Cascadery$Compound" 3 ⟨"java/lang/Object", "<init>", "()V"⟩ ∈ BG := bg_in 366 (by decide +kernel) (by decide +kernel)
set_option maxRecDepth 100000 in
theorem w_369 : Cond.fieldLink "Cascadery$Compound" 9 "Cascadery$Compound" "kinds" "[I" ∈ BG := bg_in 369 (by decide +kernel) (by decide +kernel)
set_option maxRecDepth 100000 in
theorem w_372 : Cond.fieldLink "Cascadery$Compound" 15 "Cascadery$Compound" "ones" "[I" ∈ BG := bg_in 372 (by decide +kernel) (by decide +kernel)
set_option maxRecDepth 100000 in
theorem w_375 : Cond.fieldLink "Cascadery$Compound" 18 "Cascadery$Compound" "twos" "[I" ∈ BG := bg_in 375 (by decide +kernel) (by decide +kernel)
set_option maxRecDepth 100000 in
theorem w_367 : Cond.fieldLink "Cascadery$Compound" 21 "Cascadery$Compound" "combinator" "I" ∈ BG := bg_in 367 (by decide +kernel) (by decide +kernel)
set_option maxRecDepth 100000 in
theorem w_365 : Cond.code yX2_init cX2_init 2 none ∈ BG := bg_in 365 (by rfl) (by decide +kernel)
set_option maxRecDepth 100000 in
theorem w_63 : Cond.initialized "Cascadery$Compound" ∈ BG := bg_in 63 (by decide +kernel) (by decide +kernel)
set_option maxRecDepth 100000 in
theorem w_364 : Cond.instanceMethod yX2_init ∈ BG := bg_in 364 (by decide +kernel) (by decide +kernel)
set_option maxRecDepth 100000 in
theorem w_92 : Cond.methodLink "Cascadery$Style" 3 ⟨"java/lang/Object", "<init>", "()V"⟩ ∈ BG := bg_in 92 (by decide +kernel) (by decide +kernel)
set_option maxRecDepth 100000 in
theorem w_93 : Cond.fieldLink "Cascadery$Style" 9 "Cascadery$Style" "values" "[I" ∈ BG := bg_in 93 (by decide +kernel) (by decide +kernel)
set_option maxRecDepth 100000 in
theorem w_103 : Cond.fieldLink "Cascadery$Style" 15 "Cascadery$Style" "begins" "[I" ∈ BG := bg_in 103 (by decide +kernel) (by decide +kernel)
set_option maxRecDepth 100000 in
theorem w_104 : Cond.fieldLink "Cascadery$Style" 18 "Cascadery$Style" "starts" "[I" ∈ BG := bg_in 104 (by decide +kernel) (by decide +kernel)
set_option maxRecDepth 100000 in
theorem w_105 : Cond.fieldLink "Cascadery$Style" 21 "Cascadery$Style" "lengths" "[I" ∈ BG := bg_in 105 (by decide +kernel) (by decide +kernel)
set_option maxRecDepth 100000 in
theorem w_91 : Cond.code yX9_init cX9_init 1 none ∈ BG := bg_in 91 (by rfl) (by decide +kernel)
set_option maxRecDepth 100000 in
theorem w_57 : Cond.initialized "Cascadery$Style" ∈ BG := bg_in 57 (by decide +kernel) (by decide +kernel)
set_option maxRecDepth 100000 in
theorem w_90 : Cond.instanceMethod yX9_init ∈ BG := bg_in 90 (by decide +kernel) (by decide +kernel)
set_option maxRecDepth 100000 in
theorem w_153 : Cond.methodLink "Cascadery$Element" 3 ⟨"java/lang/Object", "<init>", "()V"⟩ ∈ BG := bg_in 153 (by decide +kernel) (by decide +kernel)
set_option maxRecDepth 100000 in
theorem w_237 : Cond.fieldLink "Cascadery$Element" 9 "Cascadery$Element" "attribute0" "I" ∈ BG := bg_in 237 (by decide +kernel) (by decide +kernel)
set_option maxRecDepth 100000 in
theorem w_240 : Cond.fieldLink "Cascadery$Element" 15 "Cascadery$Element" "attribute1" "I" ∈ BG := bg_in 240 (by decide +kernel) (by decide +kernel)
set_option maxRecDepth 100000 in
theorem w_244 : Cond.fieldLink "Cascadery$Element" 18 "Cascadery$Element" "part" "I" ∈ BG := bg_in 244 (by decide +kernel) (by decide +kernel)
set_option maxRecDepth 100000 in
theorem w_267 : Cond.fieldLink "Cascadery$Element" 21 "Cascadery$Element" "place" "I" ∈ BG := bg_in 267 (by decide +kernel) (by decide +kernel)
set_option maxRecDepth 100000 in
theorem w_154 : Cond.classLink "Cascadery$Element" 24 "Cascadery$Rule" ∈ BG := bg_in 154 (by decide +kernel) (by decide +kernel)
set_option maxRecDepth 100000 in
theorem w_156 : Cond.methodLink "Cascadery$Element" 26 yX6_init ∈ BG := bg_in 156 (by decide +kernel) (by decide +kernel)
set_option maxRecDepth 100000 in
theorem w_277 : Cond.fieldLink "Cascadery$Element" 29 "Cascadery$Element" "own" "LCascadery$Rule;" ∈ BG := bg_in 277 (by decide +kernel) (by decide +kernel)
set_option maxRecDepth 100000 in
theorem w_222 : Cond.classLink "Cascadery$Element" 33 "Cascadery$Style" ∈ BG := bg_in 222 (by decide +kernel) (by decide +kernel)
set_option maxRecDepth 100000 in
theorem w_88 : Cond.instantiable "Cascadery$Style" 14 ∈ BG := bg_in 88 (by decide +kernel) (by decide +kernel)
theorem cn_1 : Cond.methodLinkNest "Cascadery$Element" 35 yX9_init "Cascadery" ∈ cNest := List.mem_of_getElem? (i := 1) rfl
set_option maxRecDepth 100000 in
theorem w_281 : Cond.fieldLink "Cascadery$Element" 36 "Cascadery$Element" "kept" "LCascadery$Style;" ∈ BG := bg_in 281 (by decide +kernel) (by decide +kernel)
set_option maxRecDepth 100000 in
theorem w_224 : Cond.fieldLink "Cascadery$Element" 40 "Cascadery$Element" "number" "I" ∈ BG := bg_in 224 (by decide +kernel) (by decide +kernel)
set_option maxRecDepth 100000 in
theorem w_229 : Cond.fieldLink "Cascadery$Element" 43 "Cascadery$Element" "kind" "I" ∈ BG := bg_in 229 (by decide +kernel) (by decide +kernel)
set_option maxRecDepth 100000 in
theorem w_152 : Cond.code yX3_init cX3_init 3 none ∈ BG := bg_in 152 (by rfl) (by decide +kernel)
set_option maxRecDepth 100000 in
theorem w_59 : Cond.initialized "Cascadery$Element" ∈ BG := bg_in 59 (by decide +kernel) (by decide +kernel)
set_option maxRecDepth 100000 in
theorem w_151 : Cond.instanceMethod yX3_init ∈ BG := bg_in 151 (by decide +kernel) (by decide +kernel)
set_option maxRecDepth 100000 in
theorem w_250 : Cond.fieldLink "Cascadery$Element" 46 "Cascadery$Element" "parent" "LCascadery$Element;" ∈ BG := bg_in 250 (by decide +kernel) (by decide +kernel)
set_option maxRecDepth 100000 in
theorem w_254 : Cond.fieldLink "Cascadery$Element" 50 "Cascadery$Element" "host" "LCascadery$Element;" ∈ BG := bg_in 254 (by decide +kernel) (by decide +kernel)
set_option maxRecDepth 100000 in
theorem w_772 : Cond.code yX3_above cX3_above 1 (some (.object "Cascadery$Element")) ∈ BG := bg_in 772 (by rfl) (by decide +kernel)
set_option maxRecDepth 100000 in
theorem w_770 : Cond.instanceMethod yX3_above ∈ BG := bg_in 770 (by decide +kernel) (by decide +kernel)
set_option maxRecDepth 100000 in
theorem w_771 : Cond.selects "Cascadery$Element" yX3_above yX3_above ∈ BG := bg_in 771 (by decide +kernel) (by decide +kernel)
set_option maxRecDepth 100000 in
theorem w_232 : Cond.fieldLink "Cascadery$Element" 53 "Cascadery$Element" "classes" "I" ∈ BG := bg_in 232 (by decide +kernel) (by decide +kernel)
set_option maxRecDepth 100000 in
theorem w_235 : Cond.fieldLink "Cascadery$Element" 56 "Cascadery$Element" "states" "I" ∈ BG := bg_in 235 (by decide +kernel) (by decide +kernel)
set_option maxRecDepth 100000 in
theorem w_272 : Cond.fieldLink "Cascadery$Element" 59 "Cascadery$Element" "shownParent" "LCascadery$Element;" ∈ BG := bg_in 272 (by decide +kernel) (by decide +kernel)
set_option maxRecDepth 100000 in
theorem w_174 : Cond.fieldLink "Cascadery$Element" 62 "Cascadery$Rule" "declared" "I" ∈ BG := bg_in 174 (by decide +kernel) (by decide +kernel)
set_option maxRecDepth 100000 in
theorem w_248 : Cond.fieldLink "Cascadery$Element" 65 "Cascadery$Element" "isHost" "Z" ∈ BG := bg_in 248 (by decide +kernel) (by decide +kernel)
set_option maxRecDepth 100000 in
theorem w_1079 : Cond.code yX3_looksLike cX3_looksLike 2 (some .boolean) ∈ BG := bg_in 1079 (by rfl) (by decide +kernel)
set_option maxRecDepth 100000 in
theorem w_1077 : Cond.instanceMethod yX3_looksLike ∈ BG := bg_in 1077 (by decide +kernel) (by decide +kernel)
set_option maxRecDepth 100000 in
theorem w_1078 : Cond.selects "Cascadery$Element" yX3_looksLike yX3_looksLike ∈ BG := bg_in 1078 (by decide +kernel) (by decide +kernel)
set_option maxRecDepth 100000 in
theorem w_360 : Cond.methodLink "Cascadery$Selector" 3 ⟨"java/lang/Object", "<init>", "()V"⟩ ∈ BG := bg_in 360 (by decide +kernel) (by decide +kernel)
set_option maxRecDepth 100000 in
theorem w_361 : Cond.classLink "Cascadery$Selector" 9 "Cascadery$Compound" ∈ BG := bg_in 361 (by decide +kernel) (by decide +kernel)
set_option maxRecDepth 100000 in
theorem w_362 : Cond.instantiable "Cascadery$Compound" 10 ∈ BG := bg_in 362 (by decide +kernel) (by decide +kernel)
set_option maxRecDepth 100000 in
theorem w_363 : Cond.methodLink "Cascadery$Selector" 11 yX2_init ∈ BG := bg_in 363 (by decide +kernel) (by decide +kernel)
set_option maxRecDepth 100000 in
theorem w_409 : Cond.fieldLink "Cascadery$Selector" 14 "Cascadery$Selector" "first" "LCascadery$Compound;" ∈ BG := bg_in 409 (by decide +kernel) (by decide +kernel)
set_option maxRecDepth 100000 in
theorem w_411 : Cond.fieldLink "Cascadery$Selector" 20 "Cascadery$Selector" "last" "LCascadery$Compound;" ∈ BG := bg_in 411 (by decide +kernel) (by decide +kernel)
set_option maxRecDepth 100000 in
theorem w_413 : Cond.fieldLink "Cascadery$Selector" 23 "Cascadery$Selector" "compounds" "I" ∈ BG := bg_in 413 (by decide +kernel) (by decide +kernel)
set_option maxRecDepth 100000 in
theorem w_415 : Cond.fieldLink "Cascadery$Selector" 27 "Cascadery$Selector" "number" "I" ∈ BG := bg_in 415 (by decide +kernel) (by decide +kernel)
set_option maxRecDepth 100000 in
theorem w_417 : Cond.fieldLink "Cascadery$Selector" 30 "Cascadery$Selector" "part" "I" ∈ BG := bg_in 417 (by decide +kernel) (by decide +kernel)
set_option maxRecDepth 100000 in
theorem w_359 : Cond.code yX7_init cX7_init 1 none ∈ BG := bg_in 359 (by rfl) (by decide +kernel)
set_option maxRecDepth 100000 in
theorem w_62 : Cond.initialized "Cascadery$Selector" ∈ BG := bg_in 62 (by decide +kernel) (by decide +kernel)
set_option maxRecDepth 100000 in
theorem w_358 : Cond.instanceMethod yX7_init ∈ BG := bg_in 358 (by decide +kernel) (by decide +kernel)
set_option maxRecDepth 100000 in
theorem w_420 : Cond.fieldLink "Cascadery$Selector" 33 "Cascadery$Selector" "hasHost" "Z" ∈ BG := bg_in 420 (by decide +kernel) (by decide +kernel)
set_option maxRecDepth 100000 in
theorem w_867 : Cond.code yX7_reachesOut cX7_reachesOut 1 (some .boolean) ∈ BG := bg_in 867 (by rfl) (by decide +kernel)
set_option maxRecDepth 100000 in
theorem w_865 : Cond.instanceMethod yX7_reachesOut ∈ BG := bg_in 865 (by decide +kernel) (by decide +kernel)
set_option maxRecDepth 100000 in
theorem w_866 : Cond.selects "Cascadery$Selector" yX7_reachesOut yX7_reachesOut ∈ BG := bg_in 866 (by decide +kernel) (by decide +kernel)
set_option maxRecDepth 100000 in
theorem w_433 : Cond.fieldLink "Cascadery$Selector" 85 "Cascadery$Selector" "farFeatures" "I" ∈ BG := bg_in 433 (by decide +kernel) (by decide +kernel)
set_option maxRecDepth 100000 in
theorem w_386 : Cond.fieldLink "Cascadery$Selector" 37 "Cascadery$Compound" "next" "LCascadery$Compound;" ∈ BG := bg_in 386 (by decide +kernel) (by decide +kernel)
set_option maxRecDepth 100000 in
theorem w_383 : Cond.fieldLink "Cascadery$Selector" 63 "Cascadery$Compound" "nearFeatures" "I" ∈ BG := bg_in 383 (by decide +kernel) (by decide +kernel)
set_option maxRecDepth 100000 in
theorem w_431 : Cond.fieldLink "Cascadery$Selector" 84 "Cascadery$Selector" "nearFeatures" "I" ∈ BG := bg_in 431 (by decide +kernel) (by decide +kernel)
set_option maxRecDepth 100000 in
theorem w_1241 : Cond.methodLink "Cascadery$Selector" 86 yX7_reachesOut ∈ BG := bg_in 1241 (by decide +kernel) (by decide +kernel)
set_option maxRecDepth 100000 in
theorem w_434 : Cond.fieldLink "Cascadery$Selector" 80 "Cascadery$Selector" "allFeatures" "I" ∈ BG := bg_in 434 (by decide +kernel) (by decide +kernel)
set_option maxRecDepth 100000 in
theorem w_385 : Cond.fieldLink "Cascadery$Selector" 70 "Cascadery$Compound" "allFeatures" "I" ∈ BG := bg_in 385 (by decide +kernel) (by decide +kernel)
set_option maxRecDepth 100000 in
theorem w_384 : Cond.fieldLink "Cascadery$Selector" 81 "Cascadery$Compound" "farFeatures" "I" ∈ BG := bg_in 384 (by decide +kernel) (by decide +kernel)
set_option maxRecDepth 100000 in
theorem w_429 : Cond.fieldLink "Cascadery$Selector" 74 "Cascadery$Selector" "needed" "I" ∈ BG := bg_in 429 (by decide +kernel) (by decide +kernel)
set_option maxRecDepth 100000 in
theorem w_1240 : Cond.code yX7_finish cX7_finish 3 none ∈ BG := bg_in 1240 (by rfl) (by decide +kernel)
set_option maxRecDepth 100000 in
theorem w_1238 : Cond.instanceMethod yX7_finish ∈ BG := bg_in 1238 (by decide +kernel) (by decide +kernel)
set_option maxRecDepth 100000 in
theorem w_1239 : Cond.selects "Cascadery$Selector" yX7_finish yX7_finish ∈ BG := bg_in 1239 (by decide +kernel) (by decide +kernel)
set_option maxRecDepth 100000 in
theorem w_468 : Cond.fieldLink "Cascadery$Matcher" 18 "Cascadery$Matcher" "draft" "LCascadery$Selector;" ∈ BG := bg_in 468 (by decide +kernel) (by decide +kernel)
set_option maxRecDepth 100000 in
theorem w_1237 : Cond.methodLink "Cascadery$Matcher" 42 yX7_finish ∈ BG := bg_in 1237 (by decide +kernel) (by decide +kernel)
set_option maxRecDepth 100000 in
theorem w_354 : Cond.classLink "Cascadery$Matcher" 9 "Cascadery$Selector" ∈ BG := bg_in 354 (by decide +kernel) (by decide +kernel)
set_option maxRecDepth 100000 in
theorem w_356 : Cond.instantiable "Cascadery$Selector" 13 ∈ BG := bg_in 356 (by decide +kernel) (by decide +kernel)
theorem cn_2 : Cond.methodLinkNest "Cascadery$Matcher" 17 yX7_init "Cascadery" ∈ cNest := List.mem_of_getElem? (i := 2) rfl
set_option maxRecDepth 100000 in
theorem w_1236 : Cond.code yX5_keepDraft cX5_keepDraft 1 (some .int) ∈ BG := bg_in 1236 (by rfl) (by decide +kernel)
set_option maxRecDepth 100000 in
theorem w_1234 : Cond.instanceMethod yX5_keepDraft ∈ BG := bg_in 1234 (by decide +kernel) (by decide +kernel)
set_option maxRecDepth 100000 in
theorem w_1235 : Cond.selects "Cascadery$Matcher" yX5_keepDraft yX5_keepDraft ∈ BG := bg_in 1235 (by decide +kernel) (by decide +kernel)
set_option maxRecDepth 100000 in
theorem w_175 : Cond.fieldLink "Cascadery$Rule" 52 "Cascadery$Rule" "important" "I" ∈ BG := bg_in 175 (by decide +kernel) (by decide +kernel)
theorem cn_7 : Cond.methodLinkNest "Cascadery$Rule" 48 yX11_isBelow "Cascadery" ∈ cNest := List.mem_of_getElem? (i := 7) rfl
set_option maxRecDepth 100000 in
theorem w_1324 : Cond.code yX6_enter cX6_enter 5 none ∈ BG := bg_in 1324 (by rfl) (by decide +kernel)
set_option maxRecDepth 100000 in
theorem w_1322 : Cond.instanceMethod yX6_enter ∈ BG := bg_in 1322 (by decide +kernel) (by decide +kernel)
set_option maxRecDepth 100000 in
theorem w_1323 : Cond.selects "Cascadery$Rule" yX6_enter yX6_enter ∈ BG := bg_in 1323 (by decide +kernel) (by decide +kernel)
set_option maxRecDepth 100000 in
theorem w_1353 : Cond.code yX6_enterVariable cX6_enterVariable 4 none ∈ BG := bg_in 1353 (by rfl) (by decide +kernel)
set_option maxRecDepth 100000 in
theorem w_1351 : Cond.instanceMethod yX6_enterVariable ∈ BG := bg_in 1351 (by decide +kernel) (by decide +kernel)
set_option maxRecDepth 100000 in
theorem w_1352 : Cond.selects "Cascadery$Rule" yX6_enterVariable yX6_enterVariable ∈ BG := bg_in 1352 (by decide +kernel) (by decide +kernel)
set_option maxRecDepth 100000 in
theorem w_1337 : Cond.constant "java/lang/Integer" 265 1431655765 ∈ BG := bg_in 1337 (by decide +kernel) (by decide +kernel)
set_option maxRecDepth 100000 in
theorem w_1338 : Cond.constant "java/lang/Integer" 266 858993459 ∈ BG := bg_in 1338 (by decide +kernel) (by decide +kernel)
set_option maxRecDepth 100000 in
theorem w_1339 : Cond.constant "java/lang/Integer" 267 252645135 ∈ BG := bg_in 1339 (by decide +kernel) (by decide +kernel)
set_option maxRecDepth 100000 in
theorem w_1336 : Cond.code yJ6_bitCount_0f7a4 cJ6_bitCount_0f7a4 1 (some .int) ∈ BG := bg_in 1336 (by rfl) (by decide +kernel)
set_option maxRecDepth 100000 in
theorem w_73 : Cond.initialized "java/lang/Integer" ∈ BG := bg_in 73 (by decide +kernel) (by decide +kernel)
set_option maxRecDepth 100000 in
theorem w_1335 : Cond.static yJ6_bitCount_0f7a4 ∈ BG := bg_in 1335 (by decide +kernel) (by decide +kernel)
set_option maxRecDepth 100000 in
theorem w_1334 : Cond.methodLink "Cascadery$Rule" 55 yJ6_bitCount_0f7a4 ∈ BG := bg_in 1334 (by decide +kernel) (by decide +kernel)
set_option maxRecDepth 100000 in
theorem w_1333 : Cond.code yX6_countDeclared cX6_countDeclared 1 (some .int) ∈ BG := bg_in 1333 (by rfl) (by decide +kernel)
set_option maxRecDepth 100000 in
theorem w_1331 : Cond.instanceMethod yX6_countDeclared ∈ BG := bg_in 1331 (by decide +kernel) (by decide +kernel)
set_option maxRecDepth 100000 in
theorem w_1332 : Cond.selects "Cascadery$Rule" yX6_countDeclared yX6_countDeclared ∈ BG := bg_in 1332 (by decide +kernel) (by decide +kernel)
set_option maxRecDepth 100000 in
theorem w_878 : Cond.code yX7_feature cX7_feature 2 (some .int) ∈ BG := bg_in 878 (by rfl) (by decide +kernel)
set_option maxRecDepth 100000 in
theorem w_877 : Cond.static yX7_feature ∈ BG := bg_in 877 (by decide +kernel) (by decide +kernel)
set_option maxRecDepth 100000 in
theorem w_424 : Cond.fieldLink "Cascadery$Selector" 40 "Cascadery$Selector" "hasOrder" "Z" ∈ BG := bg_in 424 (by decide +kernel) (by decide +kernel)
set_option maxRecDepth 100000 in
theorem w_889 : Cond.code yX7_addCompound cX7_addCompound 2 none ∈ BG := bg_in 889 (by rfl) (by decide +kernel)
set_option maxRecDepth 100000 in
theorem w_887 : Cond.instanceMethod yX7_addCompound ∈ BG := bg_in 887 (by decide +kernel) (by decide +kernel)
set_option maxRecDepth 100000 in
theorem w_888 : Cond.selects "Cascadery$Selector" yX7_addCompound yX7_addCompound ∈ BG := bg_in 888 (by decide +kernel) (by decide +kernel)
set_option maxRecDepth 100000 in
theorem w_427 : Cond.fieldLink "Cascadery$Selector" 77 "Cascadery$Selector" "hasHas" "Z" ∈ BG := bg_in 427 (by decide +kernel) (by decide +kernel)
set_option maxRecDepth 100000 in
theorem w_421 : Cond.fieldLink "Cascadery$Selector" 60 "Cascadery$Selector" "weight" "I" ∈ BG := bg_in 421 (by decide +kernel) (by decide +kernel)
set_option maxRecDepth 100000 in
theorem w_875 : Cond.code yX7_addInner cX7_addInner 3 none ∈ BG := bg_in 875 (by rfl) (by decide +kernel)
set_option maxRecDepth 100000 in
theorem w_874 : Cond.instanceMethod yX7_addInner ∈ BG := bg_in 874 (by decide +kernel) (by decide +kernel)
set_option maxRecDepth 100000 in
theorem w_14 : Cond.selects "Cascadery$Selector" yX7_addInner yX7_addInner ∈ BG := bg_in 14 (by decide +kernel) (by decide +kernel)
theorem dX1_holds_0 : decode cX1_holds 0 = .ok (.aload_n 1, 1) := by decide +kernel
theorem dX1_holds_1 : decode cX1_holds 1 = .ok (.getfield 128, 3) := by decide +kernel
theorem dX1_holds_4 : decode cX1_holds 4 = .ok (.tableswitch 134 0 4 #[36, 53, 70, 91, 112], 36) := by decide +kernel
theorem dX1_holds_40 : decode cX1_holds 40 = .ok (.aload_n 0, 1) := by decide +kernel
theorem dX1_holds_41 : decode cX1_holds 41 = .ok (.getfield 23, 3) := by decide +kernel
theorem dX1_holds_44 : decode cX1_holds 44 = .ok (.aload_n 1, 1) := by decide +kernel
theorem dX1_holds_45 : decode cX1_holds 45 = .ok (.getfield 131, 3) := by decide +kernel
theorem dX1_holds_48 : decode cX1_holds 48 = .ok (.if_icmp .lt 7, 3) := by decide +kernel
theorem dX1_holds_51 : decode cX1_holds 51 = .ok (.iconst 1, 1) := by decide +kernel
theorem dX1_holds_52 : decode cX1_holds 52 = .ok (.goto 4, 3) := by decide +kernel
theorem dX1_holds_55 : decode cX1_holds 55 = .ok (.iconst 0, 1) := by decide +kernel
theorem dX1_holds_56 : decode cX1_holds 56 = .ok (.ireturn, 1) := by decide +kernel
theorem dX1_holds_57 : decode cX1_holds 57 = .ok (.aload_n 0, 1) := by decide +kernel
theorem dX1_holds_58 : decode cX1_holds 58 = .ok (.getfield 23, 3) := by decide +kernel
theorem dX1_holds_61 : decode cX1_holds 61 = .ok (.aload_n 1, 1) := by decide +kernel
theorem dX1_holds_62 : decode cX1_holds 62 = .ok (.getfield 131, 3) := by decide +kernel
theorem dX1_holds_65 : decode cX1_holds 65 = .ok (.if_icmp .gt 7, 3) := by decide +kernel
theorem dX1_holds_68 : decode cX1_holds 68 = .ok (.iconst 1, 1) := by decide +kernel
theorem dX1_holds_69 : decode cX1_holds 69 = .ok (.goto 4, 3) := by decide +kernel
theorem dX1_holds_72 : decode cX1_holds 72 = .ok (.iconst 0, 1) := by decide +kernel
theorem dX1_holds_73 : decode cX1_holds 73 = .ok (.ireturn, 1) := by decide +kernel
theorem dX1_holds_74 : decode cX1_holds 74 = .ok (.aload_n 2, 1) := by decide +kernel
theorem dX1_holds_75 : decode cX1_holds 75 = .ok (.ifnull 18, 3) := by decide +kernel
theorem dX1_holds_78 : decode cX1_holds 78 = .ok (.aload_n 2, 1) := by decide +kernel
theorem dX1_holds_79 : decode cX1_holds 79 = .ok (.getfield 134, 3) := by decide +kernel
theorem dX1_holds_82 : decode cX1_holds 82 = .ok (.aload_n 1, 1) := by decide +kernel
theorem dX1_holds_83 : decode cX1_holds 83 = .ok (.getfield 131, 3) := by decide +kernel
theorem dX1_holds_86 : decode cX1_holds 86 = .ok (.if_icmp .lt 7, 3) := by decide +kernel
theorem dX1_holds_89 : decode cX1_holds 89 = .ok (.iconst 1, 1) := by decide +kernel
theorem dX1_holds_90 : decode cX1_holds 90 = .ok (.goto 4, 3) := by decide +kernel
theorem dX1_holds_93 : decode cX1_holds 93 = .ok (.iconst 0, 1) := by decide +kernel
theorem dX1_holds_94 : decode cX1_holds 94 = .ok (.ireturn, 1) := by decide +kernel
theorem dX1_holds_95 : decode cX1_holds 95 = .ok (.aload_n 2, 1) := by decide +kernel
theorem dX1_holds_96 : decode cX1_holds 96 = .ok (.ifnull 18, 3) := by decide +kernel
theorem dX1_holds_99 : decode cX1_holds 99 = .ok (.aload_n 2, 1) := by decide +kernel
theorem dX1_holds_100 : decode cX1_holds 100 = .ok (.getfield 134, 3) := by decide +kernel
theorem dX1_holds_103 : decode cX1_holds 103 = .ok (.aload_n 1, 1) := by decide +kernel
theorem dX1_holds_104 : decode cX1_holds 104 = .ok (.getfield 131, 3) := by decide +kernel
theorem dX1_holds_107 : decode cX1_holds 107 = .ok (.if_icmp .gt 7, 3) := by decide +kernel
theorem dX1_holds_110 : decode cX1_holds 110 = .ok (.iconst 1, 1) := by decide +kernel
theorem dX1_holds_111 : decode cX1_holds 111 = .ok (.goto 4, 3) := by decide +kernel
theorem dX1_holds_114 : decode cX1_holds 114 = .ok (.iconst 0, 1) := by decide +kernel
theorem dX1_holds_115 : decode cX1_holds 115 = .ok (.ireturn, 1) := by decide +kernel
theorem dX1_holds_116 : decode cX1_holds 116 = .ok (.aload_n 1, 1) := by decide +kernel
theorem dX1_holds_117 : decode cX1_holds 117 = .ok (.getfield 131, 3) := by decide +kernel
theorem dX1_holds_120 : decode cX1_holds 120 = .ok (.ifCond .lt 16, 3) := by decide +kernel
theorem dX1_holds_123 : decode cX1_holds 123 = .ok (.aload_n 1, 1) := by decide +kernel
theorem dX1_holds_124 : decode cX1_holds 124 = .ok (.getfield 131, 3) := by decide +kernel
theorem dX1_holds_127 : decode cX1_holds 127 = .ok (.bipush 15, 2) := by decide +kernel
theorem dX1_holds_129 : decode cX1_holds 129 = .ok (.if_icmp .ge 7, 3) := by decide +kernel
theorem dX1_holds_132 : decode cX1_holds 132 = .ok (.iconst 1, 1) := by decide +kernel
theorem dX1_holds_133 : decode cX1_holds 133 = .ok (.goto 4, 3) := by decide +kernel
theorem dX1_holds_136 : decode cX1_holds 136 = .ok (.iconst 0, 1) := by decide +kernel
theorem dX1_holds_137 : decode cX1_holds 137 = .ok (.ireturn, 1) := by decide +kernel
theorem dX1_holds_138 : decode cX1_holds 138 = .ok (.iconst 1, 1) := by decide +kernel
theorem dX1_holds_139 : decode cX1_holds 139 = .ok (.ireturn, 1) := by decide +kernel
theorem dX1_hindrance_0 : decode cX1_hindrance 0 = .ok (.aload_n 1, 1) := by decide +kernel
theorem dX1_hindrance_1 : decode cX1_hindrance 1 = .ok (.getfield 79, 3) := by decide +kernel
theorem dX1_hindrance_4 : decode cX1_hindrance 4 = .ok (.ifnull 13, 3) := by decide +kernel
theorem dX1_hindrance_7 : decode cX1_hindrance 7 = .ok (.aload_n 1, 1) := by decide +kernel
theorem dX1_hindrance_8 : decode cX1_hindrance 8 = .ok (.getfield 79, 3) := by decide +kernel
theorem dX1_hindrance_11 : decode cX1_hindrance 11 = .ok (.getfield 83, 3) := by decide +kernel
theorem dX1_hindrance_14 : decode cX1_hindrance 14 = .ok (.ifCond .ne 6, 3) := by decide +kernel
theorem dX1_hindrance_17 : decode cX1_hindrance 17 = .ok (.bipush 10, 2) := by decide +kernel
theorem dX1_hindrance_19 : decode cX1_hindrance 19 = .ok (.ireturn, 1) := by decide +kernel
theorem dX1_hindrance_20 : decode cX1_hindrance 20 = .ok (.aload_n 0, 1) := by decide +kernel
theorem dX1_hindrance_21 : decode cX1_hindrance 21 = .ok (.aload_n 1, 1) := by decide +kernel
theorem dX1_hindrance_22 : decode cX1_hindrance 22 = .ok (.getfield 79, 3) := by decide +kernel
theorem dX1_hindrance_25 : decode cX1_hindrance 25 = .ok (.invokevirtual 86, 3) := by decide +kernel
theorem dX1_hindrance_28 : decode cX1_hindrance 28 = .ok (.ifCond .ne 6, 3) := by decide +kernel
theorem dX1_hindrance_31 : decode cX1_hindrance 31 = .ok (.bipush 9, 2) := by decide +kernel
theorem dX1_hindrance_33 : decode cX1_hindrance 33 = .ok (.ireturn, 1) := by decide +kernel
theorem dX1_hindrance_34 : decode cX1_hindrance 34 = .ok (.aload_n 1, 1) := by decide +kernel
theorem dX1_hindrance_35 : decode cX1_hindrance 35 = .ok (.getfield 104, 3) := by decide +kernel
theorem dX1_hindrance_38 : decode cX1_hindrance 38 = .ok (.aload_n 2, 1) := by decide +kernel
theorem dX1_hindrance_39 : decode cX1_hindrance 39 = .ok (.getfield 121, 3) := by decide +kernel
theorem dX1_hindrance_42 : decode cX1_hindrance 42 = .ok (.ishr, 1) := by decide +kernel
theorem dX1_hindrance_43 : decode cX1_hindrance 43 = .ok (.iconst 1, 1) := by decide +kernel
theorem dX1_hindrance_44 : decode cX1_hindrance 44 = .ok (.iand, 1) := by decide +kernel
theorem dX1_hindrance_45 : decode cX1_hindrance 45 = .ok (.ifCond .ne 6, 3) := by decide +kernel
theorem dX1_hindrance_48 : decode cX1_hindrance 48 = .ok (.bipush 8, 2) := by decide +kernel
theorem dX1_hindrance_50 : decode cX1_hindrance 50 = .ok (.ireturn, 1) := by decide +kernel
theorem dX1_hindrance_51 : decode cX1_hindrance 51 = .ok (.aload_n 0, 1) := by decide +kernel
theorem dX1_hindrance_52 : decode cX1_hindrance 52 = .ok (.aload_n 1, 1) := by decide +kernel
theorem dX1_hindrance_53 : decode cX1_hindrance 53 = .ok (.aload_n 3, 1) := by decide +kernel
theorem dX1_hindrance_54 : decode cX1_hindrance 54 = .ok (.invokevirtual 124, 3) := by decide +kernel
theorem dX1_hindrance_57 : decode cX1_hindrance 57 = .ok (.ifCond .eq 7, 3) := by decide +kernel
theorem dX1_hindrance_60 : decode cX1_hindrance 60 = .ok (.iconst 0, 1) := by decide +kernel
theorem dX1_hindrance_61 : decode cX1_hindrance 61 = .ok (.goto 5, 3) := by decide +kernel
theorem dX1_hindrance_64 : decode cX1_hindrance 64 = .ok (.bipush 7, 2) := by decide +kernel
theorem dX1_hindrance_66 : decode cX1_hindrance 66 = .ok (.ireturn, 1) := by decide +kernel
theorem dX1_applying_0 : decode cX1_applying 0 = .ok (.lconst 0, 1) := by decide +kernel
theorem dX1_applying_1 : decode cX1_applying 1 = .ok (.lstore_n 3, 1) := by decide +kernel
theorem dX1_applying_2 : decode cX1_applying 2 = .ok (.aload_n 0, 1) := by decide +kernel
theorem dX1_applying_3 : decode cX1_applying 3 = .ok (.getfield 54, 3) := by decide +kernel
theorem dX1_applying_6 : decode cX1_applying 6 = .ok (.astore 5, 2) := by decide +kernel
theorem dX1_applying_8 : decode cX1_applying 8 = .ok (.aload 5, 2) := by decide +kernel
theorem dX1_applying_10 : decode cX1_applying 10 = .ok (.ifnull 48, 3) := by decide +kernel
theorem dX1_applying_13 : decode cX1_applying 13 = .ok (.aload 5, 2) := by decide +kernel
theorem dX1_applying_15 : decode cX1_applying 15 = .ok (.getfield 104, 3) := by decide +kernel
theorem dX1_applying_18 : decode cX1_applying 18 = .ok (.aload_n 1, 1) := by decide +kernel
theorem dX1_applying_19 : decode cX1_applying 19 = .ok (.getfield 121, 3) := by decide +kernel
theorem dX1_applying_22 : decode cX1_applying 22 = .ok (.ishr, 1) := by decide +kernel
theorem dX1_applying_23 : decode cX1_applying 23 = .ok (.iconst 1, 1) := by decide +kernel
theorem dX1_applying_24 : decode cX1_applying 24 = .ok (.iand, 1) := by decide +kernel
theorem dX1_applying_25 : decode cX1_applying 25 = .ok (.ifCond .eq 23, 3) := by decide +kernel
theorem dX1_applying_28 : decode cX1_applying 28 = .ok (.aload_n 0, 1) := by decide +kernel
theorem dX1_applying_29 : decode cX1_applying 29 = .ok (.aload 5, 2) := by decide +kernel
theorem dX1_applying_31 : decode cX1_applying 31 = .ok (.aload_n 2, 1) := by decide +kernel
theorem dX1_applying_32 : decode cX1_applying 32 = .ok (.invokevirtual 124, 3) := by decide +kernel
theorem dX1_applying_35 : decode cX1_applying 35 = .ok (.ifCond .eq 13, 3) := by decide +kernel
theorem dX1_applying_38 : decode cX1_applying 38 = .ok (.lload_n 3, 1) := by decide +kernel
theorem dX1_applying_39 : decode cX1_applying 39 = .ok (.lconst 1, 1) := by decide +kernel
theorem dX1_applying_40 : decode cX1_applying 40 = .ok (.aload 5, 2) := by decide +kernel
theorem dX1_applying_42 : decode cX1_applying 42 = .ok (.getfield 139, 3) := by decide +kernel
theorem dX1_applying_45 : decode cX1_applying 45 = .ok (.lshl, 1) := by decide +kernel
theorem dX1_applying_46 : decode cX1_applying 46 = .ok (.lor, 1) := by decide +kernel
theorem dX1_applying_47 : decode cX1_applying 47 = .ok (.lstore_n 3, 1) := by decide +kernel
theorem dX1_applying_48 : decode cX1_applying 48 = .ok (.aload 5, 2) := by decide +kernel
theorem dX1_applying_50 : decode cX1_applying 50 = .ok (.getfield 57, 3) := by decide +kernel
theorem dX1_applying_53 : decode cX1_applying 53 = .ok (.astore 5, 2) := by decide +kernel
theorem dX1_applying_55 : decode cX1_applying 55 = .ok (.goto (-47), 3) := by decide +kernel
theorem dX1_applying_58 : decode cX1_applying 58 = .ok (.lload_n 3, 1) := by decide +kernel
theorem dX1_applying_59 : decode cX1_applying 59 = .ok (.lreturn, 1) := by decide +kernel
theorem dX6_declares_0 : decode cX6_declares 0 = .ok (.aload_n 0, 1) := by decide +kernel
theorem dX6_declares_1 : decode cX6_declares 1 = .ok (.getfield 45, 3) := by decide +kernel
theorem dX6_declares_4 : decode cX6_declares 4 = .ok (.iload_n 1, 1) := by decide +kernel
theorem dX6_declares_5 : decode cX6_declares 5 = .ok (.ishr, 1) := by decide +kernel
theorem dX6_declares_6 : decode cX6_declares 6 = .ok (.iconst 1, 1) := by decide +kernel
theorem dX6_declares_7 : decode cX6_declares 7 = .ok (.iand, 1) := by decide +kernel
theorem dX6_declares_8 : decode cX6_declares 8 = .ok (.ifCond .eq 7, 3) := by decide +kernel
theorem dX6_declares_11 : decode cX6_declares 11 = .ok (.iconst 1, 1) := by decide +kernel
theorem dX6_declares_12 : decode cX6_declares 12 = .ok (.goto 4, 3) := by decide +kernel
theorem dX6_declares_15 : decode cX6_declares 15 = .ok (.iconst 0, 1) := by decide +kernel
theorem dX6_declares_16 : decode cX6_declares 16 = .ok (.ireturn, 1) := by decide +kernel
theorem dX1_precedence_0 : decode cX1_precedence 0 = .ok (.aload_n 1, 1) := by decide +kernel
theorem dX1_precedence_1 : decode cX1_precedence 1 = .ok (.getfield 163, 3) := by decide +kernel
theorem dX1_precedence_4 : decode cX1_precedence 4 = .ok (.iload_n 3, 1) := by decide +kernel
theorem dX1_precedence_5 : decode cX1_precedence 5 = .ok (.ishr, 1) := by decide +kernel
theorem dX1_precedence_6 : decode cX1_precedence 6 = .ok (.iconst 1, 1) := by decide +kernel
theorem dX1_precedence_7 : decode cX1_precedence 7 = .ok (.iand, 1) := by decide +kernel
theorem dX1_precedence_8 : decode cX1_precedence 8 = .ok (.ifCond .eq 7, 3) := by decide +kernel
theorem dX1_precedence_11 : decode cX1_precedence 11 = .ok (.iconst 1, 1) := by decide +kernel
theorem dX1_precedence_12 : decode cX1_precedence 12 = .ok (.goto 4, 3) := by decide +kernel
theorem dX1_precedence_15 : decode cX1_precedence 15 = .ok (.iconst 0, 1) := by decide +kernel
theorem dX1_precedence_16 : decode cX1_precedence 16 = .ok (.istore 4, 2) := by decide +kernel
theorem dX1_precedence_18 : decode cX1_precedence 18 = .ok (.aload_n 2, 1) := by decide +kernel
theorem dX1_precedence_19 : decode cX1_precedence 19 = .ok (.getfield 163, 3) := by decide +kernel
theorem dX1_precedence_22 : decode cX1_precedence 22 = .ok (.iload_n 3, 1) := by decide +kernel
theorem dX1_precedence_23 : decode cX1_precedence 23 = .ok (.ishr, 1) := by decide +kernel
theorem dX1_precedence_24 : decode cX1_precedence 24 = .ok (.iconst 1, 1) := by decide +kernel
theorem dX1_precedence_25 : decode cX1_precedence 25 = .ok (.iand, 1) := by decide +kernel
theorem dX1_precedence_26 : decode cX1_precedence 26 = .ok (.ifCond .eq 7, 3) := by decide +kernel
theorem dX1_precedence_29 : decode cX1_precedence 29 = .ok (.iconst 1, 1) := by decide +kernel
theorem dX1_precedence_30 : decode cX1_precedence 30 = .ok (.goto 4, 3) := by decide +kernel
theorem dX1_precedence_33 : decode cX1_precedence 33 = .ok (.iconst 0, 1) := by decide +kernel
theorem dX1_precedence_34 : decode cX1_precedence 34 = .ok (.istore 5, 2) := by decide +kernel
theorem dX1_precedence_36 : decode cX1_precedence 36 = .ok (.iload 4, 2) := by decide +kernel
theorem dX1_precedence_38 : decode cX1_precedence 38 = .ok (.ifCond .eq 12, 3) := by decide +kernel
theorem dX1_precedence_41 : decode cX1_precedence 41 = .ok (.iconst 5, 1) := by decide +kernel
theorem dX1_precedence_42 : decode cX1_precedence 42 = .ok (.aload_n 1, 1) := by decide +kernel
theorem dX1_precedence_43 : decode cX1_precedence 43 = .ok (.getfield 152, 3) := by decide +kernel
theorem dX1_precedence_46 : decode cX1_precedence 46 = .ok (.isub, 1) := by decide +kernel
theorem dX1_precedence_47 : decode cX1_precedence 47 = .ok (.goto 7, 3) := by decide +kernel
theorem dX1_precedence_50 : decode cX1_precedence 50 = .ok (.aload_n 1, 1) := by decide +kernel
theorem dX1_precedence_51 : decode cX1_precedence 51 = .ok (.getfield 152, 3) := by decide +kernel
theorem dX1_precedence_54 : decode cX1_precedence 54 = .ok (.istore 6, 2) := by decide +kernel
theorem dX1_precedence_56 : decode cX1_precedence 56 = .ok (.iload 5, 2) := by decide +kernel
theorem dX1_precedence_58 : decode cX1_precedence 58 = .ok (.ifCond .eq 12, 3) := by decide +kernel
theorem dX1_precedence_61 : decode cX1_precedence 61 = .ok (.iconst 5, 1) := by decide +kernel
theorem dX1_precedence_62 : decode cX1_precedence 62 = .ok (.aload_n 2, 1) := by decide +kernel
theorem dX1_precedence_63 : decode cX1_precedence 63 = .ok (.getfield 152, 3) := by decide +kernel
theorem dX1_precedence_66 : decode cX1_precedence 66 = .ok (.isub, 1) := by decide +kernel
theorem dX1_precedence_67 : decode cX1_precedence 67 = .ok (.goto 7, 3) := by decide +kernel
theorem dX1_precedence_70 : decode cX1_precedence 70 = .ok (.aload_n 2, 1) := by decide +kernel
theorem dX1_precedence_71 : decode cX1_precedence 71 = .ok (.getfield 152, 3) := by decide +kernel
theorem dX1_precedence_74 : decode cX1_precedence 74 = .ok (.istore 7, 2) := by decide +kernel
theorem dX1_precedence_76 : decode cX1_precedence 76 = .ok (.iload 6, 2) := by decide +kernel
theorem dX1_precedence_78 : decode cX1_precedence 78 = .ok (.iload 7, 2) := by decide +kernel
theorem dX1_precedence_80 : decode cX1_precedence 80 = .ok (.if_icmp .eq 16, 3) := by decide +kernel
theorem dX1_precedence_83 : decode cX1_precedence 83 = .ok (.iload 6, 2) := by decide +kernel
theorem dX1_precedence_85 : decode cX1_precedence 85 = .ok (.iload 7, 2) := by decide +kernel
theorem dX1_precedence_87 : decode cX1_precedence 87 = .ok (.if_icmp .le 7, 3) := by decide +kernel
theorem dX1_precedence_90 : decode cX1_precedence 90 = .ok (.iconst 1, 1) := by decide +kernel
theorem dX1_precedence_91 : decode cX1_precedence 91 = .ok (.goto 4, 3) := by decide +kernel
theorem dX1_precedence_94 : decode cX1_precedence 94 = .ok (.iconst (-1), 1) := by decide +kernel
theorem dX1_precedence_95 : decode cX1_precedence 95 = .ok (.ireturn, 1) := by decide +kernel
theorem dX1_precedence_96 : decode cX1_precedence 96 = .ok (.aload_n 1, 1) := by decide +kernel
theorem dX1_precedence_97 : decode cX1_precedence 97 = .ok (.getfield 112, 3) := by decide +kernel
theorem dX1_precedence_100 : decode cX1_precedence 100 = .ok (.aload_n 2, 1) := by decide +kernel
theorem dX1_precedence_101 : decode cX1_precedence 101 = .ok (.getfield 112, 3) := by decide +kernel
theorem dX1_precedence_104 : decode cX1_precedence 104 = .ok (.if_icmp .eq 31, 3) := by decide +kernel
theorem dX1_precedence_107 : decode cX1_precedence 107 = .ok (.aload_n 1, 1) := by decide +kernel
theorem dX1_precedence_108 : decode cX1_precedence 108 = .ok (.getfield 112, 3) := by decide +kernel
theorem dX1_precedence_111 : decode cX1_precedence 111 = .ok (.aload_n 2, 1) := by decide +kernel
theorem dX1_precedence_112 : decode cX1_precedence 112 = .ok (.getfield 112, 3) := by decide +kernel
theorem dX1_precedence_115 : decode cX1_precedence 115 = .ok (.if_icmp .ge 7, 3) := by decide +kernel
theorem dX1_precedence_118 : decode cX1_precedence 118 = .ok (.iconst 1, 1) := by decide +kernel
theorem dX1_precedence_119 : decode cX1_precedence 119 = .ok (.goto 4, 3) := by decide +kernel
theorem dX1_precedence_122 : decode cX1_precedence 122 = .ok (.iconst 0, 1) := by decide +kernel
theorem dX1_precedence_123 : decode cX1_precedence 123 = .ok (.iload 4, 2) := by decide +kernel
theorem dX1_precedence_125 : decode cX1_precedence 125 = .ok (.if_icmp .eq 7, 3) := by decide +kernel
theorem dX1_precedence_128 : decode cX1_precedence 128 = .ok (.iconst 2, 1) := by decide +kernel
theorem dX1_precedence_129 : decode cX1_precedence 129 = .ok (.goto 5, 3) := by decide +kernel
theorem dX1_precedence_132 : decode cX1_precedence 132 = .ok (.bipush (-2), 2) := by decide +kernel
theorem dX1_precedence_134 : decode cX1_precedence 134 = .ok (.ireturn, 1) := by decide +kernel
theorem dX1_precedence_135 : decode cX1_precedence 135 = .ok (.aload_n 1, 1) := by decide +kernel
theorem dX1_precedence_136 : decode cX1_precedence 136 = .ok (.getfield 79, 3) := by decide +kernel
theorem dX1_precedence_139 : decode cX1_precedence 139 = .ok (.ifnull 10, 3) := by decide +kernel
theorem dX1_precedence_142 : decode cX1_precedence 142 = .ok (.aload_n 2, 1) := by decide +kernel
theorem dX1_precedence_143 : decode cX1_precedence 143 = .ok (.getfield 79, 3) := by decide +kernel
theorem dX1_precedence_146 : decode cX1_precedence 146 = .ok (.ifnonnull 17, 3) := by decide +kernel
theorem dX1_precedence_149 : decode cX1_precedence 149 = .ok (.aload_n 1, 1) := by decide +kernel
theorem dX1_precedence_150 : decode cX1_precedence 150 = .ok (.getfield 79, 3) := by decide +kernel
theorem dX1_precedence_153 : decode cX1_precedence 153 = .ok (.ifnonnull 7, 3) := by decide +kernel
theorem dX1_precedence_156 : decode cX1_precedence 156 = .ok (.iconst 3, 1) := by decide +kernel
theorem dX1_precedence_157 : decode cX1_precedence 157 = .ok (.goto 5, 3) := by decide +kernel
theorem dX1_precedence_160 : decode cX1_precedence 160 = .ok (.bipush (-3), 2) := by decide +kernel
theorem dX1_precedence_162 : decode cX1_precedence 162 = .ok (.ireturn, 1) := by decide +kernel
theorem dX1_precedence_163 : decode cX1_precedence 163 = .ok (.aload_n 1, 1) := by decide +kernel
theorem dX1_precedence_164 : decode cX1_precedence 164 = .ok (.getfield 79, 3) := by decide +kernel
theorem dX1_precedence_167 : decode cX1_precedence 167 = .ok (.getfield 166, 3) := by decide +kernel
theorem dX1_precedence_170 : decode cX1_precedence 170 = .ok (.iconst (-1), 1) := by decide +kernel
theorem dX1_precedence_171 : decode cX1_precedence 171 = .ok (.if_icmp .ne 7, 3) := by decide +kernel
theorem dX1_precedence_174 : decode cX1_precedence 174 = .ok (.iconst 4, 1) := by decide +kernel
theorem dX1_precedence_175 : decode cX1_precedence 175 = .ok (.goto 10, 3) := by decide +kernel
theorem dX1_precedence_178 : decode cX1_precedence 178 = .ok (.aload_n 1, 1) := by decide +kernel
theorem dX1_precedence_179 : decode cX1_precedence 179 = .ok (.getfield 79, 3) := by decide +kernel
theorem dX1_precedence_182 : decode cX1_precedence 182 = .ok (.getfield 166, 3) := by decide +kernel
theorem dX1_precedence_185 : decode cX1_precedence 185 = .ok (.istore 8, 2) := by decide +kernel
theorem dX1_precedence_187 : decode cX1_precedence 187 = .ok (.aload_n 2, 1) := by decide +kernel
theorem dX1_precedence_188 : decode cX1_precedence 188 = .ok (.getfield 79, 3) := by decide +kernel
theorem dX1_precedence_191 : decode cX1_precedence 191 = .ok (.getfield 166, 3) := by decide +kernel
theorem dX1_precedence_194 : decode cX1_precedence 194 = .ok (.iconst (-1), 1) := by decide +kernel
theorem dX1_precedence_195 : decode cX1_precedence 195 = .ok (.if_icmp .ne 7, 3) := by decide +kernel
theorem dX1_precedence_198 : decode cX1_precedence 198 = .ok (.iconst 4, 1) := by decide +kernel
theorem dX1_precedence_199 : decode cX1_precedence 199 = .ok (.goto 10, 3) := by decide +kernel
theorem dX1_precedence_202 : decode cX1_precedence 202 = .ok (.aload_n 2, 1) := by decide +kernel
theorem dX1_precedence_203 : decode cX1_precedence 203 = .ok (.getfield 79, 3) := by decide +kernel
theorem dX1_precedence_206 : decode cX1_precedence 206 = .ok (.getfield 166, 3) := by decide +kernel
theorem dX1_precedence_209 : decode cX1_precedence 209 = .ok (.istore 9, 2) := by decide +kernel
theorem dX1_precedence_211 : decode cX1_precedence 211 = .ok (.iload 8, 2) := by decide +kernel
theorem dX1_precedence_213 : decode cX1_precedence 213 = .ok (.iload 9, 2) := by decide +kernel
theorem dX1_precedence_215 : decode cX1_precedence 215 = .ok (.if_icmp .eq 27, 3) := by decide +kernel
theorem dX1_precedence_218 : decode cX1_precedence 218 = .ok (.iload 8, 2) := by decide +kernel
theorem dX1_precedence_220 : decode cX1_precedence 220 = .ok (.iload 9, 2) := by decide +kernel
theorem dX1_precedence_222 : decode cX1_precedence 222 = .ok (.if_icmp .le 7, 3) := by decide +kernel
theorem dX1_precedence_225 : decode cX1_precedence 225 = .ok (.iconst 1, 1) := by decide +kernel
theorem dX1_precedence_226 : decode cX1_precedence 226 = .ok (.goto 4, 3) := by decide +kernel
theorem dX1_precedence_229 : decode cX1_precedence 229 = .ok (.iconst 0, 1) := by decide +kernel
theorem dX1_precedence_230 : decode cX1_precedence 230 = .ok (.iload 4, 2) := by decide +kernel
theorem dX1_precedence_232 : decode cX1_precedence 232 = .ok (.if_icmp .eq 7, 3) := by decide +kernel
theorem dX1_precedence_235 : decode cX1_precedence 235 = .ok (.iconst 4, 1) := by decide +kernel
theorem dX1_precedence_236 : decode cX1_precedence 236 = .ok (.goto 5, 3) := by decide +kernel
theorem dX1_precedence_239 : decode cX1_precedence 239 = .ok (.bipush (-4), 2) := by decide +kernel
theorem dX1_precedence_241 : decode cX1_precedence 241 = .ok (.ireturn, 1) := by decide +kernel
theorem dX1_precedence_242 : decode cX1_precedence 242 = .ok (.aload_n 1, 1) := by decide +kernel
theorem dX1_precedence_243 : decode cX1_precedence 243 = .ok (.getfield 90, 3) := by decide +kernel
theorem dX1_precedence_246 : decode cX1_precedence 246 = .ok (.ifnonnull 7, 3) := by decide +kernel
theorem dX1_precedence_249 : decode cX1_precedence 249 = .ok (.iconst 0, 1) := by decide +kernel
theorem dX1_precedence_250 : decode cX1_precedence 250 = .ok (.goto 10, 3) := by decide +kernel
theorem dX1_precedence_253 : decode cX1_precedence 253 = .ok (.aload_n 1, 1) := by decide +kernel
theorem dX1_precedence_254 : decode cX1_precedence 254 = .ok (.getfield 90, 3) := by decide +kernel
theorem dX1_precedence_257 : decode cX1_precedence 257 = .ok (.getfield 169, 3) := by decide +kernel
theorem dX1_precedence_260 : decode cX1_precedence 260 = .ok (.istore 10, 2) := by decide +kernel
theorem dX1_precedence_262 : decode cX1_precedence 262 = .ok (.aload_n 2, 1) := by decide +kernel
theorem dX1_precedence_263 : decode cX1_precedence 263 = .ok (.getfield 90, 3) := by decide +kernel
theorem dX1_precedence_266 : decode cX1_precedence 266 = .ok (.ifnonnull 7, 3) := by decide +kernel
theorem dX1_precedence_269 : decode cX1_precedence 269 = .ok (.iconst 0, 1) := by decide +kernel
theorem dX1_precedence_270 : decode cX1_precedence 270 = .ok (.goto 10, 3) := by decide +kernel
theorem dX1_precedence_273 : decode cX1_precedence 273 = .ok (.aload_n 2, 1) := by decide +kernel
theorem dX1_precedence_274 : decode cX1_precedence 274 = .ok (.getfield 90, 3) := by decide +kernel
theorem dX1_precedence_277 : decode cX1_precedence 277 = .ok (.getfield 169, 3) := by decide +kernel
theorem dX1_precedence_280 : decode cX1_precedence 280 = .ok (.istore 11, 2) := by decide +kernel
theorem dX1_precedence_282 : decode cX1_precedence 282 = .ok (.iload 10, 2) := by decide +kernel
theorem dX1_precedence_284 : decode cX1_precedence 284 = .ok (.iload 11, 2) := by decide +kernel
theorem dX1_precedence_286 : decode cX1_precedence 286 = .ok (.if_icmp .eq 17, 3) := by decide +kernel
theorem dX1_precedence_289 : decode cX1_precedence 289 = .ok (.iload 10, 2) := by decide +kernel
theorem dX1_precedence_291 : decode cX1_precedence 291 = .ok (.iload 11, 2) := by decide +kernel
theorem dX1_precedence_293 : decode cX1_precedence 293 = .ok (.if_icmp .le 7, 3) := by decide +kernel
theorem dX1_precedence_296 : decode cX1_precedence 296 = .ok (.iconst 5, 1) := by decide +kernel
theorem dX1_precedence_297 : decode cX1_precedence 297 = .ok (.goto 5, 3) := by decide +kernel
theorem dX1_precedence_300 : decode cX1_precedence 300 = .ok (.bipush (-5), 2) := by decide +kernel
theorem dX1_precedence_302 : decode cX1_precedence 302 = .ok (.ireturn, 1) := by decide +kernel
theorem dX1_precedence_303 : decode cX1_precedence 303 = .ok (.aload_n 1, 1) := by decide +kernel
theorem dX1_precedence_304 : decode cX1_precedence 304 = .ok (.getfield 79, 3) := by decide +kernel
theorem dX1_precedence_307 : decode cX1_precedence 307 = .ok (.aload_n 2, 1) := by decide +kernel
theorem dX1_precedence_308 : decode cX1_precedence 308 = .ok (.getfield 79, 3) := by decide +kernel
theorem dX1_precedence_311 : decode cX1_precedence 311 = .ok (.if_acmp .eq 28, 3) := by decide +kernel
theorem dX1_precedence_314 : decode cX1_precedence 314 = .ok (.aload_n 1, 1) := by decide +kernel
theorem dX1_precedence_315 : decode cX1_precedence 315 = .ok (.getfield 79, 3) := by decide +kernel
theorem dX1_precedence_318 : decode cX1_precedence 318 = .ok (.getfield 172, 3) := by decide +kernel
theorem dX1_precedence_321 : decode cX1_precedence 321 = .ok (.aload_n 2, 1) := by decide +kernel
theorem dX1_precedence_322 : decode cX1_precedence 322 = .ok (.getfield 79, 3) := by decide +kernel
theorem dX1_precedence_325 : decode cX1_precedence 325 = .ok (.getfield 172, 3) := by decide +kernel
theorem dX1_precedence_328 : decode cX1_precedence 328 = .ok (.if_icmp .le 8, 3) := by decide +kernel
theorem dX1_precedence_331 : decode cX1_precedence 331 = .ok (.bipush 6, 2) := by decide +kernel
theorem dX1_precedence_333 : decode cX1_precedence 333 = .ok (.goto 5, 3) := by decide +kernel
theorem dX1_precedence_336 : decode cX1_precedence 336 = .ok (.bipush (-6), 2) := by decide +kernel
theorem dX1_precedence_338 : decode cX1_precedence 338 = .ok (.ireturn, 1) := by decide +kernel
theorem dX1_precedence_339 : decode cX1_precedence 339 = .ok (.aload_n 1, 1) := by decide +kernel
theorem dX1_precedence_340 : decode cX1_precedence 340 = .ok (.getfield 139, 3) := by decide +kernel
theorem dX1_precedence_343 : decode cX1_precedence 343 = .ok (.aload_n 2, 1) := by decide +kernel
theorem dX1_precedence_344 : decode cX1_precedence 344 = .ok (.getfield 139, 3) := by decide +kernel
theorem dX1_precedence_347 : decode cX1_precedence 347 = .ok (.if_icmp .le 8, 3) := by decide +kernel
theorem dX1_precedence_350 : decode cX1_precedence 350 = .ok (.bipush 6, 2) := by decide +kernel
theorem dX1_precedence_352 : decode cX1_precedence 352 = .ok (.goto 5, 3) := by decide +kernel
theorem dX1_precedence_355 : decode cX1_precedence 355 = .ok (.bipush (-6), 2) := by decide +kernel
theorem dX1_precedence_357 : decode cX1_precedence 357 = .ok (.ireturn, 1) := by decide +kernel
theorem dX1_winner_0 : decode cX1_winner 0 = .ok (.iconst 2, 1) := by decide +kernel
theorem dX1_winner_1 : decode cX1_winner 1 = .ok (.iload 5, 2) := by decide +kernel
theorem dX1_winner_3 : decode cX1_winner 3 = .ok (.if_icmp .ge 21, 3) := by decide +kernel
theorem dX1_winner_6 : decode cX1_winner 6 = .ok (.aload_n 1, 1) := by decide +kernel
theorem dX1_winner_7 : decode cX1_winner 7 = .ok (.getfield 107, 3) := by decide +kernel
theorem dX1_winner_10 : decode cX1_winner 10 = .ok (.iload_n 2, 1) := by decide +kernel
theorem dX1_winner_11 : decode cX1_winner 11 = .ok (.invokevirtual 155, 3) := by decide +kernel
theorem dX1_winner_14 : decode cX1_winner 14 = .ok (.ifCond .eq 10, 3) := by decide +kernel
theorem dX1_winner_17 : decode cX1_winner 17 = .ok (.aload_n 1, 1) := by decide +kernel
theorem dX1_winner_18 : decode cX1_winner 18 = .ok (.getfield 107, 3) := by decide +kernel
theorem dX1_winner_21 : decode cX1_winner 21 = .ok (.goto 4, 3) := by decide +kernel
theorem dX1_winner_24 : decode cX1_winner 24 = .ok (.aconst_null, 1) := by decide +kernel
theorem dX1_winner_25 : decode cX1_winner 25 = .ok (.astore 6, 2) := by decide +kernel
theorem dX1_winner_27 : decode cX1_winner 27 = .ok (.aload_n 0, 1) := by decide +kernel
theorem dX1_winner_28 : decode cX1_winner 28 = .ok (.getfield 54, 3) := by decide +kernel
theorem dX1_winner_31 : decode cX1_winner 31 = .ok (.astore 7, 2) := by decide +kernel
theorem dX1_winner_33 : decode cX1_winner 33 = .ok (.aload 7, 2) := by decide +kernel
theorem dX1_winner_35 : decode cX1_winner 35 = .ok (.ifnull 79, 3) := by decide +kernel
theorem dX1_winner_38 : decode cX1_winner 38 = .ok (.lload_n 3, 1) := by decide +kernel
theorem dX1_winner_39 : decode cX1_winner 39 = .ok (.aload 7, 2) := by decide +kernel
theorem dX1_winner_41 : decode cX1_winner 41 = .ok (.getfield 139, 3) := by decide +kernel
theorem dX1_winner_44 : decode cX1_winner 44 = .ok (.lshr, 1) := by decide +kernel
theorem dX1_winner_45 : decode cX1_winner 45 = .ok (.lconst 1, 1) := by decide +kernel
theorem dX1_winner_46 : decode cX1_winner 46 = .ok (.land, 1) := by decide +kernel
theorem dX1_winner_47 : decode cX1_winner 47 = .ok (.lconst 0, 1) := by decide +kernel
theorem dX1_winner_48 : decode cX1_winner 48 = .ok (.lcmp, 1) := by decide +kernel
theorem dX1_winner_49 : decode cX1_winner 49 = .ok (.ifCond .eq 26, 3) := by decide +kernel
theorem dX1_winner_52 : decode cX1_winner 52 = .ok (.aload 7, 2) := by decide +kernel
theorem dX1_winner_54 : decode cX1_winner 54 = .ok (.iload_n 2, 1) := by decide +kernel
theorem dX1_winner_55 : decode cX1_winner 55 = .ok (.invokevirtual 155, 3) := by decide +kernel
theorem dX1_winner_58 : decode cX1_winner 58 = .ok (.ifCond .eq 17, 3) := by decide +kernel
theorem dX1_winner_61 : decode cX1_winner 61 = .ok (.aload 7, 2) := by decide +kernel
theorem dX1_winner_63 : decode cX1_winner 63 = .ok (.getfield 152, 3) := by decide +kernel
theorem dX1_winner_66 : decode cX1_winner 66 = .ok (.iload 5, 2) := by decide +kernel
theorem dX1_winner_68 : decode cX1_winner 68 = .ok (.if_icmp .ge 7, 3) := by decide +kernel
theorem dX1_winner_71 : decode cX1_winner 71 = .ok (.iconst 1, 1) := by decide +kernel
theorem dX1_winner_72 : decode cX1_winner 72 = .ok (.goto 4, 3) := by decide +kernel
theorem dX1_winner_75 : decode cX1_winner 75 = .ok (.iconst 0, 1) := by decide +kernel
theorem dX1_winner_76 : decode cX1_winner 76 = .ok (.istore 8, 2) := by decide +kernel
theorem dX1_winner_78 : decode cX1_winner 78 = .ok (.iload 8, 2) := by decide +kernel
theorem dX1_winner_80 : decode cX1_winner 80 = .ok (.ifCond .eq 24, 3) := by decide +kernel
theorem dX1_winner_83 : decode cX1_winner 83 = .ok (.aload 6, 2) := by decide +kernel
theorem dX1_winner_85 : decode cX1_winner 85 = .ok (.ifnull 15, 3) := by decide +kernel
theorem dX1_winner_88 : decode cX1_winner 88 = .ok (.aload_n 0, 1) := by decide +kernel
theorem dX1_winner_89 : decode cX1_winner 89 = .ok (.aload 7, 2) := by decide +kernel
theorem dX1_winner_91 : decode cX1_winner 91 = .ok (.aload 6, 2) := by decide +kernel
theorem dX1_winner_93 : decode cX1_winner 93 = .ok (.iload_n 2, 1) := by decide +kernel
theorem dX1_winner_94 : decode cX1_winner 94 = .ok (.invokevirtual 159, 3) := by decide +kernel
theorem dX1_winner_97 : decode cX1_winner 97 = .ok (.ifCond .le 7, 3) := by decide +kernel
theorem dX1_winner_100 : decode cX1_winner 100 = .ok (.aload 7, 2) := by decide +kernel
theorem dX1_winner_102 : decode cX1_winner 102 = .ok (.astore 6, 2) := by decide +kernel
theorem dX1_winner_104 : decode cX1_winner 104 = .ok (.aload 7, 2) := by decide +kernel
theorem dX1_winner_106 : decode cX1_winner 106 = .ok (.getfield 57, 3) := by decide +kernel
theorem dX1_winner_109 : decode cX1_winner 109 = .ok (.astore 7, 2) := by decide +kernel
theorem dX1_winner_111 : decode cX1_winner 111 = .ok (.goto (-78), 3) := by decide +kernel
theorem dX1_winner_114 : decode cX1_winner 114 = .ok (.aload 6, 2) := by decide +kernel
theorem dX1_winner_116 : decode cX1_winner 116 = .ok (.areturn, 1) := by decide +kernel
theorem dX1_gather_0 : decode cX1_gather 0 = .ok (.aload_n 0, 1) := by decide +kernel
theorem dX1_gather_1 : decode cX1_gather 1 = .ok (.aload_n 1, 1) := by decide +kernel
theorem dX1_gather_2 : decode cX1_gather 2 = .ok (.aload_n 2, 1) := by decide +kernel
theorem dX1_gather_3 : decode cX1_gather 3 = .ok (.invokevirtual 140, 3) := by decide +kernel
theorem dX1_gather_6 : decode cX1_gather 6 = .ok (.lstore_n 3, 1) := by decide +kernel
theorem dX1_gather_7 : decode cX1_gather 7 = .ok (.iconst 0, 1) := by decide +kernel
theorem dX1_gather_8 : decode cX1_gather 8 = .ok (.istore 5, 2) := by decide +kernel
theorem dX1_gather_10 : decode cX1_gather 10 = .ok (.iload 5, 2) := by decide +kernel
theorem dX1_gather_12 : decode cX1_gather 12 = .ok (.bipush 15, 2) := by decide +kernel
theorem dX1_gather_14 : decode cX1_gather 14 = .ok (.if_icmp .ge 77, 3) := by decide +kernel
theorem dX1_gather_17 : decode cX1_gather 17 = .ok (.aload_n 0, 1) := by decide +kernel
theorem dX1_gather_18 : decode cX1_gather 18 = .ok (.aload_n 1, 1) := by decide +kernel
theorem dX1_gather_19 : decode cX1_gather 19 = .ok (.iload 5, 2) := by decide +kernel
theorem dX1_gather_21 : decode cX1_gather 21 = .ok (.lload_n 3, 1) := by decide +kernel
theorem dX1_gather_22 : decode cX1_gather 22 = .ok (.iconst 3, 1) := by decide +kernel
theorem dX1_gather_23 : decode cX1_gather 23 = .ok (.invokevirtual 144, 3) := by decide +kernel
theorem dX1_gather_26 : decode cX1_gather 26 = .ok (.astore 6, 2) := by decide +kernel
theorem dX1_gather_28 : decode cX1_gather 28 = .ok (.iconst 0, 1) := by decide +kernel
theorem dX1_gather_29 : decode cX1_gather 29 = .ok (.istore 7, 2) := by decide +kernel
theorem dX1_gather_31 : decode cX1_gather 31 = .ok (.iload 7, 2) := by decide +kernel
theorem dX1_gather_33 : decode cX1_gather 33 = .ok (.iconst 2, 1) := by decide +kernel
theorem dX1_gather_34 : decode cX1_gather 34 = .ok (.if_icmp .gt 42, 3) := by decide +kernel
theorem dX1_gather_37 : decode cX1_gather 37 = .ok (.aload 6, 2) := by decide +kernel
theorem dX1_gather_39 : decode cX1_gather 39 = .ok (.ifnull 37, 3) := by decide +kernel
theorem dX1_gather_42 : decode cX1_gather 42 = .ok (.aload 6, 2) := by decide +kernel
theorem dX1_gather_44 : decode cX1_gather 44 = .ok (.getfield 148, 3) := by decide +kernel
theorem dX1_gather_47 : decode cX1_gather 47 = .ok (.iload 5, 2) := by decide +kernel
theorem dX1_gather_49 : decode cX1_gather 49 = .ok (.iaload, 1) := by decide +kernel
theorem dX1_gather_50 : decode cX1_gather 50 = .ok (.bipush 10, 2) := by decide +kernel
theorem dX1_gather_52 : decode cX1_gather 52 = .ok (.if_icmp .ne 24, 3) := by decide +kernel
theorem dX1_gather_55 : decode cX1_gather 55 = .ok (.aload_n 0, 1) := by decide +kernel
theorem dX1_gather_56 : decode cX1_gather 56 = .ok (.aload_n 1, 1) := by decide +kernel
theorem dX1_gather_57 : decode cX1_gather 57 = .ok (.iload 5, 2) := by decide +kernel
theorem dX1_gather_59 : decode cX1_gather 59 = .ok (.lload_n 3, 1) := by decide +kernel
theorem dX1_gather_60 : decode cX1_gather 60 = .ok (.aload 6, 2) := by decide +kernel
theorem dX1_gather_62 : decode cX1_gather 62 = .ok (.getfield 152, 3) := by decide +kernel
theorem dX1_gather_65 : decode cX1_gather 65 = .ok (.invokevirtual 144, 3) := by decide +kernel
theorem dX1_gather_68 : decode cX1_gather 68 = .ok (.astore 6, 2) := by decide +kernel
theorem dX1_gather_70 : decode cX1_gather 70 = .ok (.iinc 7 1, 3) := by decide +kernel
theorem dX1_gather_73 : decode cX1_gather 73 = .ok (.goto (-42), 3) := by decide +kernel
theorem dX1_gather_76 : decode cX1_gather 76 = .ok (.aload_n 0, 1) := by decide +kernel
theorem dX1_gather_77 : decode cX1_gather 77 = .ok (.getfield 27, 3) := by decide +kernel
theorem dX1_gather_80 : decode cX1_gather 80 = .ok (.iload 5, 2) := by decide +kernel
theorem dX1_gather_82 : decode cX1_gather 82 = .ok (.aload 6, 2) := by decide +kernel
theorem dX1_gather_84 : decode cX1_gather 84 = .ok (.aastore, 1) := by decide +kernel
theorem dX1_gather_85 : decode cX1_gather 85 = .ok (.iinc 5 1, 3) := by decide +kernel
theorem dX1_gather_88 : decode cX1_gather 88 = .ok (.goto (-78), 3) := by decide +kernel
theorem dX1_gather_91 : decode cX1_gather 91 = .ok (.return_, 1) := by decide +kernel
theorem dX1_reason_0 : decode cX1_reason 0 = .ok (.aload_n 1, 1) := by decide +kernel
theorem dX1_reason_1 : decode cX1_reason 1 = .ok (.iload_n 3, 1) := by decide +kernel
theorem dX1_reason_2 : decode cX1_reason 2 = .ok (.invokevirtual 155, 3) := by decide +kernel
theorem dX1_reason_5 : decode cX1_reason 5 = .ok (.ifCond .ne 6, 3) := by decide +kernel
theorem dX1_reason_8 : decode cX1_reason 8 = .ok (.bipush 11, 2) := by decide +kernel
theorem dX1_reason_10 : decode cX1_reason 10 = .ok (.ireturn, 1) := by decide +kernel
theorem dX1_reason_11 : decode cX1_reason 11 = .ok (.aload_n 0, 1) := by decide +kernel
theorem dX1_reason_12 : decode cX1_reason 12 = .ok (.aload_n 1, 1) := by decide +kernel
theorem dX1_reason_13 : decode cX1_reason 13 = .ok (.aload_n 2, 1) := by decide +kernel
theorem dX1_reason_14 : decode cX1_reason 14 = .ok (.aload 4, 2) := by decide +kernel
theorem dX1_reason_16 : decode cX1_reason 16 = .ok (.invokevirtual 173, 3) := by decide +kernel
theorem dX1_reason_19 : decode cX1_reason 19 = .ok (.istore 5, 2) := by decide +kernel
theorem dX1_reason_21 : decode cX1_reason 21 = .ok (.iload 5, 2) := by decide +kernel
theorem dX1_reason_23 : decode cX1_reason 23 = .ok (.ifCond .eq 6, 3) := by decide +kernel
theorem dX1_reason_26 : decode cX1_reason 26 = .ok (.iload 5, 2) := by decide +kernel
theorem dX1_reason_28 : decode cX1_reason 28 = .ok (.ireturn, 1) := by decide +kernel
theorem dX1_reason_29 : decode cX1_reason 29 = .ok (.aload_n 0, 1) := by decide +kernel
theorem dX1_reason_30 : decode cX1_reason 30 = .ok (.aload_n 2, 1) := by decide +kernel
theorem dX1_reason_31 : decode cX1_reason 31 = .ok (.iload_n 3, 1) := by decide +kernel
theorem dX1_reason_32 : decode cX1_reason 32 = .ok (.aload_n 0, 1) := by decide +kernel
theorem dX1_reason_33 : decode cX1_reason 33 = .ok (.aload_n 2, 1) := by decide +kernel
theorem dX1_reason_34 : decode cX1_reason 34 = .ok (.aload 4, 2) := by decide +kernel
theorem dX1_reason_36 : decode cX1_reason 36 = .ok (.invokevirtual 140, 3) := by decide +kernel
theorem dX1_reason_39 : decode cX1_reason 39 = .ok (.iconst 3, 1) := by decide +kernel
theorem dX1_reason_40 : decode cX1_reason 40 = .ok (.invokevirtual 144, 3) := by decide +kernel
theorem dX1_reason_43 : decode cX1_reason 43 = .ok (.astore 6, 2) := by decide +kernel
theorem dX1_reason_45 : decode cX1_reason 45 = .ok (.aload 6, 2) := by decide +kernel
theorem dX1_reason_47 : decode cX1_reason 47 = .ok (.ifnull 9, 3) := by decide +kernel
theorem dX1_reason_50 : decode cX1_reason 50 = .ok (.aload 6, 2) := by decide +kernel
theorem dX1_reason_52 : decode cX1_reason 52 = .ok (.aload_n 1, 1) := by decide +kernel
theorem dX1_reason_53 : decode cX1_reason 53 = .ok (.if_acmp .ne 7, 3) := by decide +kernel
theorem dX1_reason_56 : decode cX1_reason 56 = .ok (.iconst 0, 1) := by decide +kernel
theorem dX1_reason_57 : decode cX1_reason 57 = .ok (.goto 11, 3) := by decide +kernel
theorem dX1_reason_60 : decode cX1_reason 60 = .ok (.aload_n 0, 1) := by decide +kernel
theorem dX1_reason_61 : decode cX1_reason 61 = .ok (.aload 6, 2) := by decide +kernel
theorem dX1_reason_63 : decode cX1_reason 63 = .ok (.aload_n 1, 1) := by decide +kernel
theorem dX1_reason_64 : decode cX1_reason 64 = .ok (.iload_n 3, 1) := by decide +kernel
theorem dX1_reason_65 : decode cX1_reason 65 = .ok (.invokevirtual 159, 3) := by decide +kernel
theorem dX1_reason_68 : decode cX1_reason 68 = .ok (.ireturn, 1) := by decide +kernel
theorem dX2_init_0 : decode cX2_init 0 = .ok (.aload_n 0, 1) := by decide +kernel
theorem dX2_init_1 : decode cX2_init 1 = .ok (.invokespecial 3, 3) := by decide +kernel
theorem dX2_init_4 : decode cX2_init 4 = .ok (.aload_n 0, 1) := by decide +kernel
theorem dX2_init_5 : decode cX2_init 5 = .ok (.iconst 4, 1) := by decide +kernel
theorem dX2_init_6 : decode cX2_init 6 = .ok (.newarray .int, 2) := by decide +kernel
theorem dX2_init_8 : decode cX2_init 8 = .ok (.putfield 9, 3) := by decide +kernel
theorem dX2_init_11 : decode cX2_init 11 = .ok (.aload_n 0, 1) := by decide +kernel
theorem dX2_init_12 : decode cX2_init 12 = .ok (.iconst 4, 1) := by decide +kernel
theorem dX2_init_13 : decode cX2_init 13 = .ok (.newarray .int, 2) := by decide +kernel
theorem dX2_init_15 : decode cX2_init 15 = .ok (.putfield 15, 3) := by decide +kernel
theorem dX2_init_18 : decode cX2_init 18 = .ok (.aload_n 0, 1) := by decide +kernel
theorem dX2_init_19 : decode cX2_init 19 = .ok (.iconst 4, 1) := by decide +kernel
theorem dX2_init_20 : decode cX2_init 20 = .ok (.newarray .int, 2) := by decide +kernel
theorem dX2_init_22 : decode cX2_init 22 = .ok (.putfield 18, 3) := by decide +kernel
theorem dX2_init_25 : decode cX2_init 25 = .ok (.aload_n 0, 1) := by decide +kernel
theorem dX2_init_26 : decode cX2_init 26 = .ok (.iload_n 1, 1) := by decide +kernel
theorem dX2_init_27 : decode cX2_init 27 = .ok (.putfield 21, 3) := by decide +kernel
theorem dX2_init_30 : decode cX2_init 30 = .ok (.return_, 1) := by decide +kernel
theorem dX9_init_0 : decode cX9_init 0 = .ok (.aload_n 0, 1) := by decide +kernel
theorem dX9_init_1 : decode cX9_init 1 = .ok (.invokespecial 3, 3) := by decide +kernel
theorem dX9_init_4 : decode cX9_init 4 = .ok (.aload_n 0, 1) := by decide +kernel
theorem dX9_init_5 : decode cX9_init 5 = .ok (.bipush 15, 2) := by decide +kernel
theorem dX9_init_7 : decode cX9_init 7 = .ok (.newarray .int, 2) := by decide +kernel
theorem dX9_init_9 : decode cX9_init 9 = .ok (.putfield 9, 3) := by decide +kernel
theorem dX9_init_12 : decode cX9_init 12 = .ok (.aload_n 0, 1) := by decide +kernel
theorem dX9_init_13 : decode cX9_init 13 = .ok (.iconst 5, 1) := by decide +kernel
theorem dX9_init_14 : decode cX9_init 14 = .ok (.newarray .int, 2) := by decide +kernel
theorem dX9_init_16 : decode cX9_init 16 = .ok (.putfield 15, 3) := by decide +kernel
theorem dX9_init_19 : decode cX9_init 19 = .ok (.aload_n 0, 1) := by decide +kernel
theorem dX9_init_20 : decode cX9_init 20 = .ok (.iconst 5, 1) := by decide +kernel
theorem dX9_init_21 : decode cX9_init 21 = .ok (.newarray .int, 2) := by decide +kernel
theorem dX9_init_23 : decode cX9_init 23 = .ok (.putfield 18, 3) := by decide +kernel
theorem dX9_init_26 : decode cX9_init 26 = .ok (.aload_n 0, 1) := by decide +kernel
theorem dX9_init_27 : decode cX9_init 27 = .ok (.iconst 5, 1) := by decide +kernel
theorem dX9_init_28 : decode cX9_init 28 = .ok (.newarray .int, 2) := by decide +kernel
theorem dX9_init_30 : decode cX9_init 30 = .ok (.putfield 21, 3) := by decide +kernel
theorem dX9_init_33 : decode cX9_init 33 = .ok (.return_, 1) := by decide +kernel
theorem dX3_init_0 : decode cX3_init 0 = .ok (.aload_n 0, 1) := by decide +kernel
theorem dX3_init_1 : decode cX3_init 1 = .ok (.invokespecial 3, 3) := by decide +kernel
theorem dX3_init_4 : decode cX3_init 4 = .ok (.aload_n 0, 1) := by decide +kernel
theorem dX3_init_5 : decode cX3_init 5 = .ok (.iconst (-1), 1) := by decide +kernel
theorem dX3_init_6 : decode cX3_init 6 = .ok (.putfield 9, 3) := by decide +kernel
theorem dX3_init_9 : decode cX3_init 9 = .ok (.aload_n 0, 1) := by decide +kernel
theorem dX3_init_10 : decode cX3_init 10 = .ok (.iconst (-1), 1) := by decide +kernel
theorem dX3_init_11 : decode cX3_init 11 = .ok (.putfield 15, 3) := by decide +kernel
theorem dX3_init_14 : decode cX3_init 14 = .ok (.aload_n 0, 1) := by decide +kernel
theorem dX3_init_15 : decode cX3_init 15 = .ok (.iconst (-1), 1) := by decide +kernel
theorem dX3_init_16 : decode cX3_init 16 = .ok (.putfield 18, 3) := by decide +kernel
theorem dX3_init_19 : decode cX3_init 19 = .ok (.aload_n 0, 1) := by decide +kernel
theorem dX3_init_20 : decode cX3_init 20 = .ok (.iconst 1, 1) := by decide +kernel
theorem dX3_init_21 : decode cX3_init 21 = .ok (.putfield 21, 3) := by decide +kernel
theorem dX3_init_24 : decode cX3_init 24 = .ok (.aload_n 0, 1) := by decide +kernel
theorem dX3_init_25 : decode cX3_init 25 = .ok (.new 24, 3) := by decide +kernel
theorem dX3_init_28 : decode cX3_init 28 = .ok (.dup, 1) := by decide +kernel
theorem dX3_init_29 : decode cX3_init 29 = .ok (.iconst (-1), 1) := by decide +kernel
theorem dX3_init_30 : decode cX3_init 30 = .ok (.aconst_null, 1) := by decide +kernel
theorem dX3_init_31 : decode cX3_init 31 = .ok (.aconst_null, 1) := by decide +kernel
theorem dX3_init_32 : decode cX3_init 32 = .ok (.invokespecial 26, 3) := by decide +kernel
theorem dX3_init_35 : decode cX3_init 35 = .ok (.putfield 29, 3) := by decide +kernel
theorem dX3_init_38 : decode cX3_init 38 = .ok (.aload_n 0, 1) := by decide +kernel
theorem dX3_init_39 : decode cX3_init 39 = .ok (.new 33, 3) := by decide +kernel
theorem dX3_init_42 : decode cX3_init 42 = .ok (.dup, 1) := by decide +kernel
theorem dX3_init_43 : decode cX3_init 43 = .ok (.invokespecial 35, 3) := by decide +kernel
theorem dX3_init_46 : decode cX3_init 46 = .ok (.putfield 36, 3) := by decide +kernel
theorem dX3_init_49 : decode cX3_init 49 = .ok (.aload_n 0, 1) := by decide +kernel
theorem dX3_init_50 : decode cX3_init 50 = .ok (.iload_n 1, 1) := by decide +kernel
theorem dX3_init_51 : decode cX3_init 51 = .ok (.putfield 40, 3) := by decide +kernel
theorem dX3_init_54 : decode cX3_init 54 = .ok (.aload_n 0, 1) := by decide +kernel
theorem dX3_init_55 : decode cX3_init 55 = .ok (.iload_n 2, 1) := by decide +kernel
theorem dX3_init_56 : decode cX3_init 56 = .ok (.putfield 43, 3) := by decide +kernel
theorem dX3_init_59 : decode cX3_init 59 = .ok (.return_, 1) := by decide +kernel
theorem dX3_above_0 : decode cX3_above 0 = .ok (.aload_n 0, 1) := by decide +kernel
theorem dX3_above_1 : decode cX3_above 1 = .ok (.getfield 46, 3) := by decide +kernel
theorem dX3_above_4 : decode cX3_above 4 = .ok (.ifnull 10, 3) := by decide +kernel
theorem dX3_above_7 : decode cX3_above 7 = .ok (.aload_n 0, 1) := by decide +kernel
theorem dX3_above_8 : decode cX3_above 8 = .ok (.getfield 46, 3) := by decide +kernel
theorem dX3_above_11 : decode cX3_above 11 = .ok (.goto 7, 3) := by decide +kernel
theorem dX3_above_14 : decode cX3_above 14 = .ok (.aload_n 0, 1) := by decide +kernel
theorem dX3_above_15 : decode cX3_above 15 = .ok (.getfield 50, 3) := by decide +kernel
theorem dX3_above_18 : decode cX3_above 18 = .ok (.areturn, 1) := by decide +kernel
theorem dX3_looksLike_0 : decode cX3_looksLike 0 = .ok (.aload_n 0, 1) := by decide +kernel
theorem dX3_looksLike_1 : decode cX3_looksLike 1 = .ok (.getfield 43, 3) := by decide +kernel
theorem dX3_looksLike_4 : decode cX3_looksLike 4 = .ok (.aload_n 1, 1) := by decide +kernel
theorem dX3_looksLike_5 : decode cX3_looksLike 5 = .ok (.getfield 43, 3) := by decide +kernel
theorem dX3_looksLike_8 : decode cX3_looksLike 8 = .ok (.if_icmp .ne 107, 3) := by decide +kernel
theorem dX3_looksLike_11 : decode cX3_looksLike 11 = .ok (.aload_n 0, 1) := by decide +kernel
theorem dX3_looksLike_12 : decode cX3_looksLike 12 = .ok (.getfield 53, 3) := by decide +kernel
theorem dX3_looksLike_15 : decode cX3_looksLike 15 = .ok (.aload_n 1, 1) := by decide +kernel
theorem dX3_looksLike_16 : decode cX3_looksLike 16 = .ok (.getfield 53, 3) := by decide +kernel
theorem dX3_looksLike_19 : decode cX3_looksLike 19 = .ok (.if_icmp .ne 96, 3) := by decide +kernel
theorem dX3_looksLike_22 : decode cX3_looksLike 22 = .ok (.aload_n 0, 1) := by decide +kernel
theorem dX3_looksLike_23 : decode cX3_looksLike 23 = .ok (.getfield 56, 3) := by decide +kernel
theorem dX3_looksLike_26 : decode cX3_looksLike 26 = .ok (.aload_n 1, 1) := by decide +kernel
theorem dX3_looksLike_27 : decode cX3_looksLike 27 = .ok (.getfield 56, 3) := by decide +kernel
theorem dX3_looksLike_30 : decode cX3_looksLike 30 = .ok (.if_icmp .ne 85, 3) := by decide +kernel
theorem dX3_looksLike_33 : decode cX3_looksLike 33 = .ok (.aload_n 0, 1) := by decide +kernel
theorem dX3_looksLike_34 : decode cX3_looksLike 34 = .ok (.getfield 9, 3) := by decide +kernel
theorem dX3_looksLike_37 : decode cX3_looksLike 37 = .ok (.aload_n 1, 1) := by decide +kernel
theorem dX3_looksLike_38 : decode cX3_looksLike 38 = .ok (.getfield 9, 3) := by decide +kernel
theorem dX3_looksLike_41 : decode cX3_looksLike 41 = .ok (.if_icmp .ne 74, 3) := by decide +kernel
theorem dX3_looksLike_44 : decode cX3_looksLike 44 = .ok (.aload_n 0, 1) := by decide +kernel
theorem dX3_looksLike_45 : decode cX3_looksLike 45 = .ok (.getfield 15, 3) := by decide +kernel
theorem dX3_looksLike_48 : decode cX3_looksLike 48 = .ok (.aload_n 1, 1) := by decide +kernel
theorem dX3_looksLike_49 : decode cX3_looksLike 49 = .ok (.getfield 15, 3) := by decide +kernel
theorem dX3_looksLike_52 : decode cX3_looksLike 52 = .ok (.if_icmp .ne 63, 3) := by decide +kernel
theorem dX3_looksLike_55 : decode cX3_looksLike 55 = .ok (.aload_n 0, 1) := by decide +kernel
theorem dX3_looksLike_56 : decode cX3_looksLike 56 = .ok (.getfield 18, 3) := by decide +kernel
theorem dX3_looksLike_59 : decode cX3_looksLike 59 = .ok (.aload_n 1, 1) := by decide +kernel
theorem dX3_looksLike_60 : decode cX3_looksLike 60 = .ok (.getfield 18, 3) := by decide +kernel
theorem dX3_looksLike_63 : decode cX3_looksLike 63 = .ok (.if_icmp .ne 52, 3) := by decide +kernel
theorem dX3_looksLike_66 : decode cX3_looksLike 66 = .ok (.aload_n 0, 1) := by decide +kernel
theorem dX3_looksLike_67 : decode cX3_looksLike 67 = .ok (.getfield 59, 3) := by decide +kernel
theorem dX3_looksLike_70 : decode cX3_looksLike 70 = .ok (.aload_n 1, 1) := by decide +kernel
theorem dX3_looksLike_71 : decode cX3_looksLike 71 = .ok (.getfield 59, 3) := by decide +kernel
theorem dX3_looksLike_74 : decode cX3_looksLike 74 = .ok (.if_acmp .ne 41, 3) := by decide +kernel
theorem dX3_looksLike_77 : decode cX3_looksLike 77 = .ok (.aload_n 0, 1) := by decide +kernel
theorem dX3_looksLike_78 : decode cX3_looksLike 78 = .ok (.getfield 29, 3) := by decide +kernel
theorem dX3_looksLike_81 : decode cX3_looksLike 81 = .ok (.getfield 62, 3) := by decide +kernel
theorem dX3_looksLike_84 : decode cX3_looksLike 84 = .ok (.ifCond .ne 31, 3) := by decide +kernel
theorem dX3_looksLike_87 : decode cX3_looksLike 87 = .ok (.aload_n 1, 1) := by decide +kernel
theorem dX3_looksLike_88 : decode cX3_looksLike 88 = .ok (.getfield 29, 3) := by decide +kernel
theorem dX3_looksLike_91 : decode cX3_looksLike 91 = .ok (.getfield 62, 3) := by decide +kernel
theorem dX3_looksLike_94 : decode cX3_looksLike 94 = .ok (.ifCond .ne 21, 3) := by decide +kernel
theorem dX3_looksLike_97 : decode cX3_looksLike 97 = .ok (.aload_n 0, 1) := by decide +kernel
theorem dX3_looksLike_98 : decode cX3_looksLike 98 = .ok (.getfield 65, 3) := by decide +kernel
theorem dX3_looksLike_101 : decode cX3_looksLike 101 = .ok (.ifCond .ne 14, 3) := by decide +kernel
theorem dX3_looksLike_104 : decode cX3_looksLike 104 = .ok (.aload_n 1, 1) := by decide +kernel
theorem dX3_looksLike_105 : decode cX3_looksLike 105 = .ok (.getfield 65, 3) := by decide +kernel
theorem dX3_looksLike_108 : decode cX3_looksLike 108 = .ok (.ifCond .ne 7, 3) := by decide +kernel
theorem dX3_looksLike_111 : decode cX3_looksLike 111 = .ok (.iconst 1, 1) := by decide +kernel
theorem dX3_looksLike_112 : decode cX3_looksLike 112 = .ok (.goto 4, 3) := by decide +kernel
theorem dX3_looksLike_115 : decode cX3_looksLike 115 = .ok (.iconst 0, 1) := by decide +kernel
theorem dX3_looksLike_116 : decode cX3_looksLike 116 = .ok (.ireturn, 1) := by decide +kernel
theorem dX7_init_0 : decode cX7_init 0 = .ok (.aload_n 0, 1) := by decide +kernel
theorem dX7_init_1 : decode cX7_init 1 = .ok (.invokespecial 3, 3) := by decide +kernel
theorem dX7_init_4 : decode cX7_init 4 = .ok (.aload_n 0, 1) := by decide +kernel
theorem dX7_init_5 : decode cX7_init 5 = .ok (.new 9, 3) := by decide +kernel
theorem dX7_init_8 : decode cX7_init 8 = .ok (.dup, 1) := by decide +kernel
theorem dX7_init_9 : decode cX7_init 9 = .ok (.iconst 0, 1) := by decide +kernel
theorem dX7_init_10 : decode cX7_init 10 = .ok (.invokespecial 11, 3) := by decide +kernel
theorem dX7_init_13 : decode cX7_init 13 = .ok (.putfield 14, 3) := by decide +kernel
theorem dX7_init_16 : decode cX7_init 16 = .ok (.aload_n 0, 1) := by decide +kernel
theorem dX7_init_17 : decode cX7_init 17 = .ok (.aload_n 0, 1) := by decide +kernel
theorem dX7_init_18 : decode cX7_init 18 = .ok (.getfield 14, 3) := by decide +kernel
theorem dX7_init_21 : decode cX7_init 21 = .ok (.putfield 20, 3) := by decide +kernel
theorem dX7_init_24 : decode cX7_init 24 = .ok (.aload_n 0, 1) := by decide +kernel
theorem dX7_init_25 : decode cX7_init 25 = .ok (.iconst 1, 1) := by decide +kernel
theorem dX7_init_26 : decode cX7_init 26 = .ok (.putfield 23, 3) := by decide +kernel
theorem dX7_init_29 : decode cX7_init 29 = .ok (.aload_n 0, 1) := by decide +kernel
theorem dX7_init_30 : decode cX7_init 30 = .ok (.iconst (-1), 1) := by decide +kernel
theorem dX7_init_31 : decode cX7_init 31 = .ok (.putfield 27, 3) := by decide +kernel
theorem dX7_init_34 : decode cX7_init 34 = .ok (.aload_n 0, 1) := by decide +kernel
theorem dX7_init_35 : decode cX7_init 35 = .ok (.iconst (-1), 1) := by decide +kernel
theorem dX7_init_36 : decode cX7_init 36 = .ok (.putfield 30, 3) := by decide +kernel
theorem dX7_init_39 : decode cX7_init 39 = .ok (.return_, 1) := by decide +kernel
theorem dX7_reachesOut_0 : decode cX7_reachesOut 0 = .ok (.aload_n 0, 1) := by decide +kernel
theorem dX7_reachesOut_1 : decode cX7_reachesOut 1 = .ok (.getfield 33, 3) := by decide +kernel
theorem dX7_reachesOut_4 : decode cX7_reachesOut 4 = .ok (.ifCond .ne 11, 3) := by decide +kernel
theorem dX7_reachesOut_7 : decode cX7_reachesOut 7 = .ok (.aload_n 0, 1) := by decide +kernel
theorem dX7_reachesOut_8 : decode cX7_reachesOut 8 = .ok (.getfield 30, 3) := by decide +kernel
theorem dX7_reachesOut_11 : decode cX7_reachesOut 11 = .ok (.iconst (-1), 1) := by decide +kernel
theorem dX7_reachesOut_12 : decode cX7_reachesOut 12 = .ok (.if_icmp .eq 7, 3) := by decide +kernel
theorem dX7_reachesOut_15 : decode cX7_reachesOut 15 = .ok (.iconst 1, 1) := by decide +kernel
theorem dX7_reachesOut_16 : decode cX7_reachesOut 16 = .ok (.goto 4, 3) := by decide +kernel
theorem dX7_reachesOut_19 : decode cX7_reachesOut 19 = .ok (.iconst 0, 1) := by decide +kernel
theorem dX7_reachesOut_20 : decode cX7_reachesOut 20 = .ok (.ireturn, 1) := by decide +kernel
theorem dX7_finish_0 : decode cX7_finish 0 = .ok (.aload_n 0, 1) := by decide +kernel
theorem dX7_finish_1 : decode cX7_finish 1 = .ok (.iload_n 1, 1) := by decide +kernel
theorem dX7_finish_2 : decode cX7_finish 2 = .ok (.putfield 27, 3) := by decide +kernel
theorem dX7_finish_5 : decode cX7_finish 5 = .ok (.aload_n 0, 1) := by decide +kernel
theorem dX7_finish_6 : decode cX7_finish 6 = .ok (.dup, 1) := by decide +kernel
theorem dX7_finish_7 : decode cX7_finish 7 = .ok (.getfield 74, 3) := by decide +kernel
theorem dX7_finish_10 : decode cX7_finish 10 = .ok (.iconst 1, 1) := by decide +kernel
theorem dX7_finish_11 : decode cX7_finish 11 = .ok (.iload_n 1, 1) := by decide +kernel
theorem dX7_finish_12 : decode cX7_finish 12 = .ok (.ishl, 1) := by decide +kernel
theorem dX7_finish_13 : decode cX7_finish 13 = .ok (.ior, 1) := by decide +kernel
theorem dX7_finish_14 : decode cX7_finish 14 = .ok (.putfield 74, 3) := by decide +kernel
theorem dX7_finish_17 : decode cX7_finish 17 = .ok (.aload_n 0, 1) := by decide +kernel
theorem dX7_finish_18 : decode cX7_finish 18 = .ok (.getfield 14, 3) := by decide +kernel
theorem dX7_finish_21 : decode cX7_finish 21 = .ok (.astore_n 2, 1) := by decide +kernel
theorem dX7_finish_22 : decode cX7_finish 22 = .ok (.aload_n 2, 1) := by decide +kernel
theorem dX7_finish_23 : decode cX7_finish 23 = .ok (.ifnull 52, 3) := by decide +kernel
theorem dX7_finish_26 : decode cX7_finish 26 = .ok (.aload_n 0, 1) := by decide +kernel
theorem dX7_finish_27 : decode cX7_finish 27 = .ok (.dup, 1) := by decide +kernel
theorem dX7_finish_28 : decode cX7_finish 28 = .ok (.getfield 80, 3) := by decide +kernel
theorem dX7_finish_31 : decode cX7_finish 31 = .ok (.aload_n 2, 1) := by decide +kernel
theorem dX7_finish_32 : decode cX7_finish 32 = .ok (.getfield 70, 3) := by decide +kernel
theorem dX7_finish_35 : decode cX7_finish 35 = .ok (.ior, 1) := by decide +kernel
theorem dX7_finish_36 : decode cX7_finish 36 = .ok (.putfield 80, 3) := by decide +kernel
theorem dX7_finish_39 : decode cX7_finish 39 = .ok (.aload_n 0, 1) := by decide +kernel
theorem dX7_finish_40 : decode cX7_finish 40 = .ok (.dup, 1) := by decide +kernel
theorem dX7_finish_41 : decode cX7_finish 41 = .ok (.getfield 85, 3) := by decide +kernel
theorem dX7_finish_44 : decode cX7_finish 44 = .ok (.aload_n 2, 1) := by decide +kernel
theorem dX7_finish_45 : decode cX7_finish 45 = .ok (.aload_n 0, 1) := by decide +kernel
theorem dX7_finish_46 : decode cX7_finish 46 = .ok (.getfield 20, 3) := by decide +kernel
theorem dX7_finish_49 : decode cX7_finish 49 = .ok (.if_acmp .ne 10, 3) := by decide +kernel
theorem dX7_finish_52 : decode cX7_finish 52 = .ok (.aload_n 2, 1) := by decide +kernel
theorem dX7_finish_53 : decode cX7_finish 53 = .ok (.getfield 81, 3) := by decide +kernel
theorem dX7_finish_56 : decode cX7_finish 56 = .ok (.goto 7, 3) := by decide +kernel
theorem dX7_finish_59 : decode cX7_finish 59 = .ok (.aload_n 2, 1) := by decide +kernel
theorem dX7_finish_60 : decode cX7_finish 60 = .ok (.getfield 70, 3) := by decide +kernel
theorem dX7_finish_63 : decode cX7_finish 63 = .ok (.ior, 1) := by decide +kernel
theorem dX7_finish_64 : decode cX7_finish 64 = .ok (.putfield 85, 3) := by decide +kernel
theorem dX7_finish_67 : decode cX7_finish 67 = .ok (.aload_n 2, 1) := by decide +kernel
theorem dX7_finish_68 : decode cX7_finish 68 = .ok (.getfield 37, 3) := by decide +kernel
theorem dX7_finish_71 : decode cX7_finish 71 = .ok (.astore_n 2, 1) := by decide +kernel
theorem dX7_finish_72 : decode cX7_finish 72 = .ok (.goto (-50), 3) := by decide +kernel
theorem dX7_finish_75 : decode cX7_finish 75 = .ok (.aload_n 0, 1) := by decide +kernel
theorem dX7_finish_76 : decode cX7_finish 76 = .ok (.aload_n 0, 1) := by decide +kernel
theorem dX7_finish_77 : decode cX7_finish 77 = .ok (.getfield 20, 3) := by decide +kernel
theorem dX7_finish_80 : decode cX7_finish 80 = .ok (.getfield 63, 3) := by decide +kernel
theorem dX7_finish_83 : decode cX7_finish 83 = .ok (.putfield 84, 3) := by decide +kernel
theorem dX7_finish_86 : decode cX7_finish 86 = .ok (.aload_n 0, 1) := by decide +kernel
theorem dX7_finish_87 : decode cX7_finish 87 = .ok (.invokevirtual 86, 3) := by decide +kernel
theorem dX7_finish_90 : decode cX7_finish 90 = .ok (.ifCond .eq 11, 3) := by decide +kernel
theorem dX7_finish_93 : decode cX7_finish 93 = .ok (.aload_n 0, 1) := by decide +kernel
theorem dX7_finish_94 : decode cX7_finish 94 = .ok (.aload_n 0, 1) := by decide +kernel
theorem dX7_finish_95 : decode cX7_finish 95 = .ok (.getfield 80, 3) := by decide +kernel
theorem dX7_finish_98 : decode cX7_finish 98 = .ok (.putfield 85, 3) := by decide +kernel
theorem dX7_finish_101 : decode cX7_finish 101 = .ok (.return_, 1) := by decide +kernel
theorem dX5_keepDraft_0 : decode cX5_keepDraft 0 = .ok (.aload_n 0, 1) := by decide +kernel
theorem dX5_keepDraft_1 : decode cX5_keepDraft 1 = .ok (.getfield 38, 3) := by decide +kernel
theorem dX5_keepDraft_4 : decode cX5_keepDraft 4 = .ok (.bipush 30, 2) := by decide +kernel
theorem dX5_keepDraft_6 : decode cX5_keepDraft 6 = .ok (.if_icmp .ge 48, 3) := by decide +kernel
theorem dX5_keepDraft_9 : decode cX5_keepDraft 9 = .ok (.aload_n 0, 1) := by decide +kernel
theorem dX5_keepDraft_10 : decode cX5_keepDraft 10 = .ok (.getfield 18, 3) := by decide +kernel
theorem dX5_keepDraft_13 : decode cX5_keepDraft 13 = .ok (.aload_n 0, 1) := by decide +kernel
theorem dX5_keepDraft_14 : decode cX5_keepDraft 14 = .ok (.getfield 38, 3) := by decide +kernel
theorem dX5_keepDraft_17 : decode cX5_keepDraft 17 = .ok (.invokevirtual 42, 3) := by decide +kernel
theorem dX5_keepDraft_20 : decode cX5_keepDraft 20 = .ok (.aload_n 0, 1) := by decide +kernel
theorem dX5_keepDraft_21 : decode cX5_keepDraft 21 = .ok (.getfield 11, 3) := by decide +kernel
theorem dX5_keepDraft_24 : decode cX5_keepDraft 24 = .ok (.aload_n 0, 1) := by decide +kernel
theorem dX5_keepDraft_25 : decode cX5_keepDraft 25 = .ok (.getfield 38, 3) := by decide +kernel
theorem dX5_keepDraft_28 : decode cX5_keepDraft 28 = .ok (.aload_n 0, 1) := by decide +kernel
theorem dX5_keepDraft_29 : decode cX5_keepDraft 29 = .ok (.getfield 18, 3) := by decide +kernel
theorem dX5_keepDraft_32 : decode cX5_keepDraft 32 = .ok (.aastore, 1) := by decide +kernel
theorem dX5_keepDraft_33 : decode cX5_keepDraft 33 = .ok (.aload_n 0, 1) := by decide +kernel
theorem dX5_keepDraft_34 : decode cX5_keepDraft 34 = .ok (.new 9, 3) := by decide +kernel
theorem dX5_keepDraft_37 : decode cX5_keepDraft 37 = .ok (.dup, 1) := by decide +kernel
theorem dX5_keepDraft_38 : decode cX5_keepDraft 38 = .ok (.invokespecial 17, 3) := by decide +kernel
theorem dX5_keepDraft_41 : decode cX5_keepDraft 41 = .ok (.putfield 18, 3) := by decide +kernel
theorem dX5_keepDraft_44 : decode cX5_keepDraft 44 = .ok (.aload_n 0, 1) := by decide +kernel
theorem dX5_keepDraft_45 : decode cX5_keepDraft 45 = .ok (.dup, 1) := by decide +kernel
theorem dX5_keepDraft_46 : decode cX5_keepDraft 46 = .ok (.getfield 38, 3) := by decide +kernel
theorem dX5_keepDraft_49 : decode cX5_keepDraft 49 = .ok (.iconst 1, 1) := by decide +kernel
theorem dX5_keepDraft_50 : decode cX5_keepDraft 50 = .ok (.iadd, 1) := by decide +kernel
theorem dX5_keepDraft_51 : decode cX5_keepDraft 51 = .ok (.putfield 38, 3) := by decide +kernel
theorem dX5_keepDraft_54 : decode cX5_keepDraft 54 = .ok (.aload_n 0, 1) := by decide +kernel
theorem dX5_keepDraft_55 : decode cX5_keepDraft 55 = .ok (.getfield 38, 3) := by decide +kernel
theorem dX5_keepDraft_58 : decode cX5_keepDraft 58 = .ok (.iconst 1, 1) := by decide +kernel
theorem dX5_keepDraft_59 : decode cX5_keepDraft 59 = .ok (.isub, 1) := by decide +kernel
theorem dX5_keepDraft_60 : decode cX5_keepDraft 60 = .ok (.ireturn, 1) := by decide +kernel
theorem dX6_enter_0 : decode cX6_enter 0 = .ok (.iload_n 1, 1) := by decide +kernel
theorem dX6_enter_1 : decode cX6_enter 1 = .ok (.bipush 15, 2) := by decide +kernel
theorem dX6_enter_3 : decode cX6_enter 3 = .ok (.invokestatic 48, 3) := by decide +kernel
theorem dX6_enter_6 : decode cX6_enter 6 = .ok (.ifCond .eq 59, 3) := by decide +kernel
theorem dX6_enter_9 : decode cX6_enter 9 = .ok (.aload_n 0, 1) := by decide +kernel
theorem dX6_enter_10 : decode cX6_enter 10 = .ok (.dup, 1) := by decide +kernel
theorem dX6_enter_11 : decode cX6_enter 11 = .ok (.getfield 45, 3) := by decide +kernel
theorem dX6_enter_14 : decode cX6_enter 14 = .ok (.iconst 1, 1) := by decide +kernel
theorem dX6_enter_15 : decode cX6_enter 15 = .ok (.iload_n 1, 1) := by decide +kernel
theorem dX6_enter_16 : decode cX6_enter 16 = .ok (.ishl, 1) := by decide +kernel
theorem dX6_enter_17 : decode cX6_enter 17 = .ok (.ior, 1) := by decide +kernel
theorem dX6_enter_18 : decode cX6_enter 18 = .ok (.putfield 45, 3) := by decide +kernel
theorem dX6_enter_21 : decode cX6_enter 21 = .ok (.aload_n 0, 1) := by decide +kernel
theorem dX6_enter_22 : decode cX6_enter 22 = .ok (.iload 4, 2) := by decide +kernel
theorem dX6_enter_24 : decode cX6_enter 24 = .ok (.ifCond .eq 14, 3) := by decide +kernel
theorem dX6_enter_27 : decode cX6_enter 27 = .ok (.aload_n 0, 1) := by decide +kernel
theorem dX6_enter_28 : decode cX6_enter 28 = .ok (.getfield 52, 3) := by decide +kernel
theorem dX6_enter_31 : decode cX6_enter 31 = .ok (.iconst 1, 1) := by decide +kernel
theorem dX6_enter_32 : decode cX6_enter 32 = .ok (.iload_n 1, 1) := by decide +kernel
theorem dX6_enter_33 : decode cX6_enter 33 = .ok (.ishl, 1) := by decide +kernel
theorem dX6_enter_34 : decode cX6_enter 34 = .ok (.ior, 1) := by decide +kernel
theorem dX6_enter_35 : decode cX6_enter 35 = .ok (.goto 13, 3) := by decide +kernel
theorem dX6_enter_38 : decode cX6_enter 38 = .ok (.aload_n 0, 1) := by decide +kernel
theorem dX6_enter_39 : decode cX6_enter 39 = .ok (.getfield 52, 3) := by decide +kernel
theorem dX6_enter_42 : decode cX6_enter 42 = .ok (.iconst 1, 1) := by decide +kernel
theorem dX6_enter_43 : decode cX6_enter 43 = .ok (.iload_n 1, 1) := by decide +kernel
theorem dX6_enter_44 : decode cX6_enter 44 = .ok (.ishl, 1) := by decide +kernel
theorem dX6_enter_45 : decode cX6_enter 45 = .ok (.iconst (-1), 1) := by decide +kernel
theorem dX6_enter_46 : decode cX6_enter 46 = .ok (.ixor, 1) := by decide +kernel
theorem dX6_enter_47 : decode cX6_enter 47 = .ok (.iand, 1) := by decide +kernel
theorem dX6_enter_48 : decode cX6_enter 48 = .ok (.putfield 52, 3) := by decide +kernel
theorem dX6_enter_51 : decode cX6_enter 51 = .ok (.aload_n 0, 1) := by decide +kernel
theorem dX6_enter_52 : decode cX6_enter 52 = .ok (.getfield 15, 3) := by decide +kernel
theorem dX6_enter_55 : decode cX6_enter 55 = .ok (.iload_n 1, 1) := by decide +kernel
theorem dX6_enter_56 : decode cX6_enter 56 = .ok (.iload_n 2, 1) := by decide +kernel
theorem dX6_enter_57 : decode cX6_enter 57 = .ok (.iastore, 1) := by decide +kernel
theorem dX6_enter_58 : decode cX6_enter 58 = .ok (.aload_n 0, 1) := by decide +kernel
theorem dX6_enter_59 : decode cX6_enter 59 = .ok (.getfield 19, 3) := by decide +kernel
theorem dX6_enter_62 : decode cX6_enter 62 = .ok (.iload_n 1, 1) := by decide +kernel
theorem dX6_enter_63 : decode cX6_enter 63 = .ok (.iload_n 3, 1) := by decide +kernel
theorem dX6_enter_64 : decode cX6_enter 64 = .ok (.iastore, 1) := by decide +kernel
theorem dX6_enter_65 : decode cX6_enter 65 = .ok (.return_, 1) := by decide +kernel
theorem dX6_enterVariable_0 : decode cX6_enterVariable 0 = .ok (.iload_n 1, 1) := by decide +kernel
theorem dX6_enterVariable_1 : decode cX6_enterVariable 1 = .ok (.bipush 15, 2) := by decide +kernel
theorem dX6_enterVariable_3 : decode cX6_enterVariable 3 = .ok (.invokestatic 48, 3) := by decide +kernel
theorem dX6_enterVariable_6 : decode cX6_enterVariable 6 = .ok (.ifCond .eq 17, 3) := by decide +kernel
theorem dX6_enterVariable_9 : decode cX6_enterVariable 9 = .ok (.aload_n 0, 1) := by decide +kernel
theorem dX6_enterVariable_10 : decode cX6_enterVariable 10 = .ok (.getfield 22, 3) := by decide +kernel
theorem dX6_enterVariable_13 : decode cX6_enterVariable 13 = .ok (.iload_n 1, 1) := by decide +kernel
theorem dX6_enterVariable_14 : decode cX6_enterVariable 14 = .ok (.iload_n 2, 1) := by decide +kernel
theorem dX6_enterVariable_15 : decode cX6_enterVariable 15 = .ok (.iastore, 1) := by decide +kernel
theorem dX6_enterVariable_16 : decode cX6_enterVariable 16 = .ok (.aload_n 0, 1) := by decide +kernel
theorem dX6_enterVariable_17 : decode cX6_enterVariable 17 = .ok (.getfield 25, 3) := by decide +kernel
theorem dX6_enterVariable_20 : decode cX6_enterVariable 20 = .ok (.iload_n 1, 1) := by decide +kernel
theorem dX6_enterVariable_21 : decode cX6_enterVariable 21 = .ok (.iload_n 3, 1) := by decide +kernel
theorem dX6_enterVariable_22 : decode cX6_enterVariable 22 = .ok (.iastore, 1) := by decide +kernel
theorem dX6_enterVariable_23 : decode cX6_enterVariable 23 = .ok (.return_, 1) := by decide +kernel
theorem dJ6_bitCount_0f7a4_0 : decode cJ6_bitCount_0f7a4 0 = .ok (.iload_n 0, 1) := by decide +kernel
theorem dJ6_bitCount_0f7a4_1 : decode cJ6_bitCount_0f7a4 1 = .ok (.iload_n 0, 1) := by decide +kernel
theorem dJ6_bitCount_0f7a4_2 : decode cJ6_bitCount_0f7a4 2 = .ok (.iconst 1, 1) := by decide +kernel
theorem dJ6_bitCount_0f7a4_3 : decode cJ6_bitCount_0f7a4 3 = .ok (.iushr, 1) := by decide +kernel
theorem dJ6_bitCount_0f7a4_4 : decode cJ6_bitCount_0f7a4 4 = .ok (.ldc_w 265, 3) := by decide +kernel
theorem dJ6_bitCount_0f7a4_7 : decode cJ6_bitCount_0f7a4 7 = .ok (.iand, 1) := by decide +kernel
theorem dJ6_bitCount_0f7a4_8 : decode cJ6_bitCount_0f7a4 8 = .ok (.isub, 1) := by decide +kernel
theorem dJ6_bitCount_0f7a4_9 : decode cJ6_bitCount_0f7a4 9 = .ok (.istore_n 0, 1) := by decide +kernel
theorem dJ6_bitCount_0f7a4_10 : decode cJ6_bitCount_0f7a4 10 = .ok (.iload_n 0, 1) := by decide +kernel
theorem dJ6_bitCount_0f7a4_11 : decode cJ6_bitCount_0f7a4 11 = .ok (.ldc_w 266, 3) := by decide +kernel
theorem dJ6_bitCount_0f7a4_14 : decode cJ6_bitCount_0f7a4 14 = .ok (.iand, 1) := by decide +kernel
theorem dJ6_bitCount_0f7a4_15 : decode cJ6_bitCount_0f7a4 15 = .ok (.iload_n 0, 1) := by decide +kernel
theorem dJ6_bitCount_0f7a4_16 : decode cJ6_bitCount_0f7a4 16 = .ok (.iconst 2, 1) := by decide +kernel
theorem dJ6_bitCount_0f7a4_17 : decode cJ6_bitCount_0f7a4 17 = .ok (.iushr, 1) := by decide +kernel
theorem dJ6_bitCount_0f7a4_18 : decode cJ6_bitCount_0f7a4 18 = .ok (.ldc_w 266, 3) := by decide +kernel
theorem dJ6_bitCount_0f7a4_21 : decode cJ6_bitCount_0f7a4 21 = .ok (.iand, 1) := by decide +kernel
theorem dJ6_bitCount_0f7a4_22 : decode cJ6_bitCount_0f7a4 22 = .ok (.iadd, 1) := by decide +kernel
theorem dJ6_bitCount_0f7a4_23 : decode cJ6_bitCount_0f7a4 23 = .ok (.istore_n 0, 1) := by decide +kernel
theorem dJ6_bitCount_0f7a4_24 : decode cJ6_bitCount_0f7a4 24 = .ok (.iload_n 0, 1) := by decide +kernel
theorem dJ6_bitCount_0f7a4_25 : decode cJ6_bitCount_0f7a4 25 = .ok (.iload_n 0, 1) := by decide +kernel
theorem dJ6_bitCount_0f7a4_26 : decode cJ6_bitCount_0f7a4 26 = .ok (.iconst 4, 1) := by decide +kernel
theorem dJ6_bitCount_0f7a4_27 : decode cJ6_bitCount_0f7a4 27 = .ok (.iushr, 1) := by decide +kernel
theorem dJ6_bitCount_0f7a4_28 : decode cJ6_bitCount_0f7a4 28 = .ok (.iadd, 1) := by decide +kernel
theorem dJ6_bitCount_0f7a4_29 : decode cJ6_bitCount_0f7a4 29 = .ok (.ldc_w 267, 3) := by decide +kernel
theorem dJ6_bitCount_0f7a4_32 : decode cJ6_bitCount_0f7a4 32 = .ok (.iand, 1) := by decide +kernel
theorem dJ6_bitCount_0f7a4_33 : decode cJ6_bitCount_0f7a4 33 = .ok (.istore_n 0, 1) := by decide +kernel
theorem dJ6_bitCount_0f7a4_34 : decode cJ6_bitCount_0f7a4 34 = .ok (.iload_n 0, 1) := by decide +kernel
theorem dJ6_bitCount_0f7a4_35 : decode cJ6_bitCount_0f7a4 35 = .ok (.iload_n 0, 1) := by decide +kernel
theorem dJ6_bitCount_0f7a4_36 : decode cJ6_bitCount_0f7a4 36 = .ok (.bipush 8, 2) := by decide +kernel
theorem dJ6_bitCount_0f7a4_38 : decode cJ6_bitCount_0f7a4 38 = .ok (.iushr, 1) := by decide +kernel
theorem dJ6_bitCount_0f7a4_39 : decode cJ6_bitCount_0f7a4 39 = .ok (.iadd, 1) := by decide +kernel
theorem dJ6_bitCount_0f7a4_40 : decode cJ6_bitCount_0f7a4 40 = .ok (.istore_n 0, 1) := by decide +kernel
theorem dJ6_bitCount_0f7a4_41 : decode cJ6_bitCount_0f7a4 41 = .ok (.iload_n 0, 1) := by decide +kernel
theorem dJ6_bitCount_0f7a4_42 : decode cJ6_bitCount_0f7a4 42 = .ok (.iload_n 0, 1) := by decide +kernel
theorem dJ6_bitCount_0f7a4_43 : decode cJ6_bitCount_0f7a4 43 = .ok (.bipush 16, 2) := by decide +kernel
theorem dJ6_bitCount_0f7a4_45 : decode cJ6_bitCount_0f7a4 45 = .ok (.iushr, 1) := by decide +kernel
theorem dJ6_bitCount_0f7a4_46 : decode cJ6_bitCount_0f7a4 46 = .ok (.iadd, 1) := by decide +kernel
theorem dJ6_bitCount_0f7a4_47 : decode cJ6_bitCount_0f7a4 47 = .ok (.istore_n 0, 1) := by decide +kernel
theorem dJ6_bitCount_0f7a4_48 : decode cJ6_bitCount_0f7a4 48 = .ok (.iload_n 0, 1) := by decide +kernel
theorem dJ6_bitCount_0f7a4_49 : decode cJ6_bitCount_0f7a4 49 = .ok (.bipush 63, 2) := by decide +kernel
theorem dJ6_bitCount_0f7a4_51 : decode cJ6_bitCount_0f7a4 51 = .ok (.iand, 1) := by decide +kernel
theorem dJ6_bitCount_0f7a4_52 : decode cJ6_bitCount_0f7a4 52 = .ok (.ireturn, 1) := by decide +kernel
theorem dX6_countDeclared_0 : decode cX6_countDeclared 0 = .ok (.aload_n 0, 1) := by decide +kernel
theorem dX6_countDeclared_1 : decode cX6_countDeclared 1 = .ok (.getfield 45, 3) := by decide +kernel
theorem dX6_countDeclared_4 : decode cX6_countDeclared 4 = .ok (.invokestatic 55, 3) := by decide +kernel
theorem dX6_countDeclared_7 : decode cX6_countDeclared 7 = .ok (.ireturn, 1) := by decide +kernel
theorem dX7_feature_0 : decode cX7_feature 0 = .ok (.iload_n 0, 1) := by decide +kernel
theorem dX7_feature_1 : decode cX7_feature 1 = .ok (.tableswitch 45 1 3 #[27, 31, 38], 27) := by decide +kernel
theorem dX7_feature_28 : decode cX7_feature 28 = .ok (.iconst 1, 1) := by decide +kernel
theorem dX7_feature_29 : decode cX7_feature 29 = .ok (.iload_n 1, 1) := by decide +kernel
theorem dX7_feature_30 : decode cX7_feature 30 = .ok (.ishl, 1) := by decide +kernel
theorem dX7_feature_31 : decode cX7_feature 31 = .ok (.ireturn, 1) := by decide +kernel
theorem dX7_feature_32 : decode cX7_feature 32 = .ok (.iconst 1, 1) := by decide +kernel
theorem dX7_feature_33 : decode cX7_feature 33 = .ok (.bipush 8, 2) := by decide +kernel
theorem dX7_feature_35 : decode cX7_feature 35 = .ok (.iload_n 1, 1) := by decide +kernel
theorem dX7_feature_36 : decode cX7_feature 36 = .ok (.iadd, 1) := by decide +kernel
theorem dX7_feature_37 : decode cX7_feature 37 = .ok (.ishl, 1) := by decide +kernel
theorem dX7_feature_38 : decode cX7_feature 38 = .ok (.ireturn, 1) := by decide +kernel
theorem dX7_feature_39 : decode cX7_feature 39 = .ok (.iconst 1, 1) := by decide +kernel
theorem dX7_feature_40 : decode cX7_feature 40 = .ok (.bipush 12, 2) := by decide +kernel
theorem dX7_feature_42 : decode cX7_feature 42 = .ok (.iload_n 1, 1) := by decide +kernel
theorem dX7_feature_43 : decode cX7_feature 43 = .ok (.iadd, 1) := by decide +kernel
theorem dX7_feature_44 : decode cX7_feature 44 = .ok (.ishl, 1) := by decide +kernel
theorem dX7_feature_45 : decode cX7_feature 45 = .ok (.ireturn, 1) := by decide +kernel
theorem dX7_feature_46 : decode cX7_feature 46 = .ok (.iconst 0, 1) := by decide +kernel
theorem dX7_feature_47 : decode cX7_feature 47 = .ok (.ireturn, 1) := by decide +kernel
theorem dX7_addCompound_0 : decode cX7_addCompound 0 = .ok (.aload_n 0, 1) := by decide +kernel
theorem dX7_addCompound_1 : decode cX7_addCompound 1 = .ok (.getfield 20, 3) := by decide +kernel
theorem dX7_addCompound_4 : decode cX7_addCompound 4 = .ok (.new 9, 3) := by decide +kernel
theorem dX7_addCompound_7 : decode cX7_addCompound 7 = .ok (.dup, 1) := by decide +kernel
theorem dX7_addCompound_8 : decode cX7_addCompound 8 = .ok (.iload_n 1, 1) := by decide +kernel
theorem dX7_addCompound_9 : decode cX7_addCompound 9 = .ok (.invokespecial 11, 3) := by decide +kernel
theorem dX7_addCompound_12 : decode cX7_addCompound 12 = .ok (.putfield 37, 3) := by decide +kernel
theorem dX7_addCompound_15 : decode cX7_addCompound 15 = .ok (.aload_n 0, 1) := by decide +kernel
theorem dX7_addCompound_16 : decode cX7_addCompound 16 = .ok (.aload_n 0, 1) := by decide +kernel
theorem dX7_addCompound_17 : decode cX7_addCompound 17 = .ok (.getfield 20, 3) := by decide +kernel
theorem dX7_addCompound_20 : decode cX7_addCompound 20 = .ok (.getfield 37, 3) := by decide +kernel
theorem dX7_addCompound_23 : decode cX7_addCompound 23 = .ok (.putfield 20, 3) := by decide +kernel
theorem dX7_addCompound_26 : decode cX7_addCompound 26 = .ok (.aload_n 0, 1) := by decide +kernel
theorem dX7_addCompound_27 : decode cX7_addCompound 27 = .ok (.dup, 1) := by decide +kernel
theorem dX7_addCompound_28 : decode cX7_addCompound 28 = .ok (.getfield 23, 3) := by decide +kernel
theorem dX7_addCompound_31 : decode cX7_addCompound 31 = .ok (.iconst 1, 1) := by decide +kernel
theorem dX7_addCompound_32 : decode cX7_addCompound 32 = .ok (.iadd, 1) := by decide +kernel
theorem dX7_addCompound_33 : decode cX7_addCompound 33 = .ok (.putfield 23, 3) := by decide +kernel
theorem dX7_addCompound_36 : decode cX7_addCompound 36 = .ok (.aload_n 0, 1) := by decide +kernel
theorem dX7_addCompound_37 : decode cX7_addCompound 37 = .ok (.dup, 1) := by decide +kernel
theorem dX7_addCompound_38 : decode cX7_addCompound 38 = .ok (.getfield 40, 3) := by decide +kernel
theorem dX7_addCompound_41 : decode cX7_addCompound 41 = .ok (.iload_n 1, 1) := by decide +kernel
theorem dX7_addCompound_42 : decode cX7_addCompound 42 = .ok (.iconst 2, 1) := by decide +kernel
theorem dX7_addCompound_43 : decode cX7_addCompound 43 = .ok (.if_icmp .eq 8, 3) := by decide +kernel
theorem dX7_addCompound_46 : decode cX7_addCompound 46 = .ok (.iload_n 1, 1) := by decide +kernel
theorem dX7_addCompound_47 : decode cX7_addCompound 47 = .ok (.iconst 3, 1) := by decide +kernel
theorem dX7_addCompound_48 : decode cX7_addCompound 48 = .ok (.if_icmp .ne 7, 3) := by decide +kernel
theorem dX7_addCompound_51 : decode cX7_addCompound 51 = .ok (.iconst 1, 1) := by decide +kernel
theorem dX7_addCompound_52 : decode cX7_addCompound 52 = .ok (.goto 4, 3) := by decide +kernel
theorem dX7_addCompound_55 : decode cX7_addCompound 55 = .ok (.iconst 0, 1) := by decide +kernel
theorem dX7_addCompound_56 : decode cX7_addCompound 56 = .ok (.ior, 1) := by decide +kernel
theorem dX7_addCompound_57 : decode cX7_addCompound 57 = .ok (.putfield 40, 3) := by decide +kernel
theorem dX7_addCompound_60 : decode cX7_addCompound 60 = .ok (.return_, 1) := by decide +kernel
theorem dX7_addInner_0 : decode cX7_addInner 0 = .ok (.aload_n 0, 1) := by decide +kernel
theorem dX7_addInner_1 : decode cX7_addInner 1 = .ok (.dup, 1) := by decide +kernel
theorem dX7_addInner_2 : decode cX7_addInner 2 = .ok (.getfield 60, 3) := by decide +kernel
theorem dX7_addInner_5 : decode cX7_addInner 5 = .ok (.aload_n 2, 1) := by decide +kernel
theorem dX7_addInner_6 : decode cX7_addInner 6 = .ok (.getfield 60, 3) := by decide +kernel
theorem dX7_addInner_9 : decode cX7_addInner 9 = .ok (.iadd, 1) := by decide +kernel
theorem dX7_addInner_10 : decode cX7_addInner 10 = .ok (.putfield 60, 3) := by decide +kernel
theorem dX7_addInner_13 : decode cX7_addInner 13 = .ok (.aload_n 0, 1) := by decide +kernel
theorem dX7_addInner_14 : decode cX7_addInner 14 = .ok (.dup, 1) := by decide +kernel
theorem dX7_addInner_15 : decode cX7_addInner 15 = .ok (.getfield 74, 3) := by decide +kernel
theorem dX7_addInner_18 : decode cX7_addInner 18 = .ok (.aload_n 2, 1) := by decide +kernel
theorem dX7_addInner_19 : decode cX7_addInner 19 = .ok (.getfield 74, 3) := by decide +kernel
theorem dX7_addInner_22 : decode cX7_addInner 22 = .ok (.ior, 1) := by decide +kernel
theorem dX7_addInner_23 : decode cX7_addInner 23 = .ok (.putfield 74, 3) := by decide +kernel
theorem dX7_addInner_26 : decode cX7_addInner 26 = .ok (.aload_n 0, 1) := by decide +kernel
theorem dX7_addInner_27 : decode cX7_addInner 27 = .ok (.dup, 1) := by decide +kernel
theorem dX7_addInner_28 : decode cX7_addInner 28 = .ok (.getfield 40, 3) := by decide +kernel
theorem dX7_addInner_31 : decode cX7_addInner 31 = .ok (.aload_n 2, 1) := by decide +kernel
theorem dX7_addInner_32 : decode cX7_addInner 32 = .ok (.getfield 40, 3) := by decide +kernel
theorem dX7_addInner_35 : decode cX7_addInner 35 = .ok (.ior, 1) := by decide +kernel
theorem dX7_addInner_36 : decode cX7_addInner 36 = .ok (.putfield 40, 3) := by decide +kernel
theorem dX7_addInner_39 : decode cX7_addInner 39 = .ok (.aload_n 0, 1) := by decide +kernel
theorem dX7_addInner_40 : decode cX7_addInner 40 = .ok (.dup, 1) := by decide +kernel
theorem dX7_addInner_41 : decode cX7_addInner 41 = .ok (.getfield 77, 3) := by decide +kernel
theorem dX7_addInner_44 : decode cX7_addInner 44 = .ok (.aload_n 2, 1) := by decide +kernel
theorem dX7_addInner_45 : decode cX7_addInner 45 = .ok (.getfield 77, 3) := by decide +kernel
theorem dX7_addInner_48 : decode cX7_addInner 48 = .ok (.ifCond .ne 9, 3) := by decide +kernel
theorem dX7_addInner_51 : decode cX7_addInner 51 = .ok (.iload_n 1, 1) := by decide +kernel
theorem dX7_addInner_52 : decode cX7_addInner 52 = .ok (.bipush 7, 2) := by decide +kernel
theorem dX7_addInner_54 : decode cX7_addInner 54 = .ok (.if_icmp .ne 7, 3) := by decide +kernel
theorem dX7_addInner_57 : decode cX7_addInner 57 = .ok (.iconst 1, 1) := by decide +kernel
theorem dX7_addInner_58 : decode cX7_addInner 58 = .ok (.goto 4, 3) := by decide +kernel
theorem dX7_addInner_61 : decode cX7_addInner 61 = .ok (.iconst 0, 1) := by decide +kernel
theorem dX7_addInner_62 : decode cX7_addInner 62 = .ok (.ior, 1) := by decide +kernel
theorem dX7_addInner_63 : decode cX7_addInner 63 = .ok (.putfield 77, 3) := by decide +kernel
theorem dX7_addInner_66 : decode cX7_addInner 66 = .ok (.aload_n 0, 1) := by decide +kernel
theorem dX7_addInner_67 : decode cX7_addInner 67 = .ok (.getfield 20, 3) := by decide +kernel
theorem dX7_addInner_70 : decode cX7_addInner 70 = .ok (.dup, 1) := by decide +kernel
theorem dX7_addInner_71 : decode cX7_addInner 71 = .ok (.getfield 70, 3) := by decide +kernel
theorem dX7_addInner_74 : decode cX7_addInner 74 = .ok (.aload_n 2, 1) := by decide +kernel
theorem dX7_addInner_75 : decode cX7_addInner 75 = .ok (.getfield 80, 3) := by decide +kernel
theorem dX7_addInner_78 : decode cX7_addInner 78 = .ok (.ior, 1) := by decide +kernel
theorem dX7_addInner_79 : decode cX7_addInner 79 = .ok (.putfield 70, 3) := by decide +kernel
theorem dX7_addInner_82 : decode cX7_addInner 82 = .ok (.iload_n 1, 1) := by decide +kernel
theorem dX7_addInner_83 : decode cX7_addInner 83 = .ok (.bipush 7, 2) := by decide +kernel
theorem dX7_addInner_85 : decode cX7_addInner 85 = .ok (.if_icmp .eq 11, 3) := by decide +kernel
theorem dX7_addInner_88 : decode cX7_addInner 88 = .ok (.aload_n 2, 1) := by decide +kernel
theorem dX7_addInner_89 : decode cX7_addInner 89 = .ok (.getfield 23, 3) := by decide +kernel
theorem dX7_addInner_92 : decode cX7_addInner 92 = .ok (.iconst 1, 1) := by decide +kernel
theorem dX7_addInner_93 : decode cX7_addInner 93 = .ok (.if_icmp .le 22, 3) := by decide +kernel
theorem dX7_addInner_96 : decode cX7_addInner 96 = .ok (.aload_n 0, 1) := by decide +kernel
theorem dX7_addInner_97 : decode cX7_addInner 97 = .ok (.getfield 20, 3) := by decide +kernel
theorem dX7_addInner_100 : decode cX7_addInner 100 = .ok (.dup, 1) := by decide +kernel
theorem dX7_addInner_101 : decode cX7_addInner 101 = .ok (.getfield 81, 3) := by decide +kernel
theorem dX7_addInner_104 : decode cX7_addInner 104 = .ok (.aload_n 2, 1) := by decide +kernel
theorem dX7_addInner_105 : decode cX7_addInner 105 = .ok (.getfield 80, 3) := by decide +kernel
theorem dX7_addInner_108 : decode cX7_addInner 108 = .ok (.ior, 1) := by decide +kernel
theorem dX7_addInner_109 : decode cX7_addInner 109 = .ok (.putfield 81, 3) := by decide +kernel
theorem dX7_addInner_112 : decode cX7_addInner 112 = .ok (.goto 35, 3) := by decide +kernel
theorem dX7_addInner_115 : decode cX7_addInner 115 = .ok (.aload_n 0, 1) := by decide +kernel
theorem dX7_addInner_116 : decode cX7_addInner 116 = .ok (.getfield 20, 3) := by decide +kernel
theorem dX7_addInner_119 : decode cX7_addInner 119 = .ok (.dup, 1) := by decide +kernel
theorem dX7_addInner_120 : decode cX7_addInner 120 = .ok (.getfield 63, 3) := by decide +kernel
theorem dX7_addInner_123 : decode cX7_addInner 123 = .ok (.aload_n 2, 1) := by decide +kernel
theorem dX7_addInner_124 : decode cX7_addInner 124 = .ok (.getfield 84, 3) := by decide +kernel
theorem dX7_addInner_127 : decode cX7_addInner 127 = .ok (.ior, 1) := by decide +kernel
theorem dX7_addInner_128 : decode cX7_addInner 128 = .ok (.putfield 63, 3) := by decide +kernel
theorem dX7_addInner_131 : decode cX7_addInner 131 = .ok (.aload_n 0, 1) := by decide +kernel
theorem dX7_addInner_132 : decode cX7_addInner 132 = .ok (.getfield 20, 3) := by decide +kernel
theorem dX7_addInner_135 : decode cX7_addInner 135 = .ok (.dup, 1) := by decide +kernel
theorem dX7_addInner_136 : decode cX7_addInner 136 = .ok (.getfield 81, 3) := by decide +kernel
theorem dX7_addInner_139 : decode cX7_addInner 139 = .ok (.aload_n 2, 1) := by decide +kernel
theorem dX7_addInner_140 : decode cX7_addInner 140 = .ok (.getfield 85, 3) := by decide +kernel
theorem dX7_addInner_143 : decode cX7_addInner 143 = .ok (.ior, 1) := by decide +kernel
theorem dX7_addInner_144 : decode cX7_addInner 144 = .ok (.putfield 81, 3) := by decide +kernel
theorem dX7_addInner_147 : decode cX7_addInner 147 = .ok (.return_, 1) := by decide +kernel
def f_X1_holds_56  (x0 : Nat) (y0 : Int32) (σ : cS) : Option (Int32) := rz y0
def f_X1_holds_73  (x0 : Nat) (y0 : Int32) (σ : cS) : Option (Int32) := rz y0
def f_X1_holds_94  (x0 : Nat) (y0 : Int32) (σ : cS) : Option (Int32) := rz y0
def f_X1_holds_93  (x0 : Nat)  (σ : cS) : Option (Int32) := f_X1_holds_94 x0 ((0:Int32)) σ
def f_X1_holds_115  (x0 : Nat) (y0 : Int32) (σ : cS) : Option (Int32) := rz y0
def f_X1_holds_114  (x0 : Nat)  (σ : cS) : Option (Int32) := f_X1_holds_115 x0 ((0:Int32)) σ
def f_X1_holds_137  (x0 : Nat) (y0 : Int32) (σ : cS) : Option (Int32) := rz y0
def f_X1_holds_136  (x0 : Nat)  (σ : cS) : Option (Int32) := f_X1_holds_137 x0 ((0:Int32)) σ
def f_X1_holds (x0 : Nat) (x1 : Option Nat) (x2 : Option Nat) (σ : cS) : Option (Int32) := (gI σ x1 6 4).bind (fun v1 => if v1 = (0:Int32) then ((gI σ (some x0) 1 8).bind (fun v2 => (gI σ x1 6 5).bind (fun v3 => if v2 < v3 then (f_X1_holds_56 x0 ((0:Int32)) σ) else (f_X1_holds_56 x0 ((1:Int32)) σ)))) else (if v1 = (1:Int32) then ((gI σ (some x0) 1 8).bind (fun v4 => (gI σ x1 6 5).bind (fun v5 => if v5 < v4 then (f_X1_holds_73 x0 ((0:Int32)) σ) else (f_X1_holds_73 x0 ((1:Int32)) σ)))) else (if v1 = (2:Int32) then (if x2 = none then (f_X1_holds_93 x0 σ) else ((gI σ x2 9 2).bind (fun v6 => (gI σ x1 6 5).bind (fun v7 => if v6 < v7 then (f_X1_holds_93 x0 σ) else (f_X1_holds_94 x0 ((1:Int32)) σ))))) else (if v1 = (3:Int32) then (if x2 = none then (f_X1_holds_114 x0 σ) else ((gI σ x2 9 2).bind (fun v8 => (gI σ x1 6 5).bind (fun v9 => if v9 < v8 then (f_X1_holds_114 x0 σ) else (f_X1_holds_115 x0 ((1:Int32)) σ))))) else (if v1 = (4:Int32) then ((gI σ x1 6 5).bind (fun v10 => if v10 < (0:Int32) then (f_X1_holds_136 x0 σ) else ((gI σ x1 6 5).bind (fun v11 => if (15:Int32) ≤ v11 then (f_X1_holds_136 x0 σ) else (f_X1_holds_137 x0 ((1:Int32)) σ))))) else (rz (1:Int32)))))))
set_option maxRecDepth 20000 in
set_option maxHeartbeats 4000000 in
theorem N_X1_holds_56 {p : Program} {l : Launch} {e : Env} {s : State} {m : MethodId} {args : Array Value} {below : List Frame} {meth : Method} {c : Code} {D : cD} {Φ : cG} {x0 : Nat}   {y0 : Int32} {σ : cS} {ls : Array Slot} {r : Int32} (X : cX p s m args meth c cX1_holds 3 (some .boolean) RX1 D Φ) (hP : cP D Φ σ s.heap) (hS : va_S (cReg Φ) s.heap s.heap [])  (hl : lv_has ls 3 []) (h : f_X1_holds_56  x0 y0 σ = some r) : cWr p l e 0 0 s m args below meth c (some (.int r)) (F0 m 56 ls [.int y0]) := by
  have hx := X.1
  have hb := X.2.1
  have hown := X.2.2.2.1
  have hts := X.2.2.2.2.1
  have h : (rz y0) = some r := h
  obtain ⟨hz, rfl⟩ := rz_spec h
  exact c_rz X hz dX1_holds_56
set_option maxRecDepth 20000 in
set_option maxHeartbeats 4000000 in
theorem N_X1_holds_73 {p : Program} {l : Launch} {e : Env} {s : State} {m : MethodId} {args : Array Value} {below : List Frame} {meth : Method} {c : Code} {D : cD} {Φ : cG} {x0 : Nat}   {y0 : Int32} {σ : cS} {ls : Array Slot} {r : Int32} (X : cX p s m args meth c cX1_holds 3 (some .boolean) RX1 D Φ) (hP : cP D Φ σ s.heap) (hS : va_S (cReg Φ) s.heap s.heap [])  (hl : lv_has ls 3 []) (h : f_X1_holds_73  x0 y0 σ = some r) : cWr p l e 0 0 s m args below meth c (some (.int r)) (F0 m 73 ls [.int y0]) := by
  have hx := X.1
  have hb := X.2.1
  have hown := X.2.2.2.1
  have hts := X.2.2.2.2.1
  have h : (rz y0) = some r := h
  obtain ⟨hz, rfl⟩ := rz_spec h
  exact c_rz X hz dX1_holds_73
set_option maxRecDepth 20000 in
set_option maxHeartbeats 4000000 in
theorem N_X1_holds_94 {p : Program} {l : Launch} {e : Env} {s : State} {m : MethodId} {args : Array Value} {below : List Frame} {meth : Method} {c : Code} {D : cD} {Φ : cG} {x0 : Nat}   {y0 : Int32} {σ : cS} {ls : Array Slot} {r : Int32} (X : cX p s m args meth c cX1_holds 3 (some .boolean) RX1 D Φ) (hP : cP D Φ σ s.heap) (hS : va_S (cReg Φ) s.heap s.heap [])  (hl : lv_has ls 3 []) (h : f_X1_holds_94  x0 y0 σ = some r) : cWr p l e 0 0 s m args below meth c (some (.int r)) (F0 m 94 ls [.int y0]) := by
  have hx := X.1
  have hb := X.2.1
  have hown := X.2.2.2.1
  have hts := X.2.2.2.2.1
  have h : (rz y0) = some r := h
  obtain ⟨hz, rfl⟩ := rz_spec h
  exact c_rz X hz dX1_holds_94
set_option maxRecDepth 20000 in
set_option maxHeartbeats 4000000 in
theorem N_X1_holds_93 {p : Program} {l : Launch} {e : Env} {s : State} {m : MethodId} {args : Array Value} {below : List Frame} {meth : Method} {c : Code} {D : cD} {Φ : cG} {x0 : Nat}    {σ : cS} {ls : Array Slot} {r : Int32} (X : cX p s m args meth c cX1_holds 3 (some .boolean) RX1 D Φ) (hP : cP D Φ σ s.heap) (hS : va_S (cReg Φ) s.heap s.heap [])  (hl : lv_has ls 3 []) (h : f_X1_holds_93  x0  σ = some r) : cWr p l e 0 0 s m args below meth c (some (.int r)) (F0 m 93 ls []) := by
  have hx := X.1
  have hb := X.2.1
  have hown := X.2.2.2.1
  have hts := X.2.2.2.2.1
  have h : (f_X1_holds_94 x0 ((0:Int32)) σ) = some r := h
  refine lv_iconst (v := (0:Int32)) hx hb dX1_holds_93 (by decide) ?_
  exact N_X1_holds_94 X hP hS (lv_sub hl [] rfl) h
set_option maxRecDepth 20000 in
set_option maxHeartbeats 4000000 in
theorem N_X1_holds_115 {p : Program} {l : Launch} {e : Env} {s : State} {m : MethodId} {args : Array Value} {below : List Frame} {meth : Method} {c : Code} {D : cD} {Φ : cG} {x0 : Nat}   {y0 : Int32} {σ : cS} {ls : Array Slot} {r : Int32} (X : cX p s m args meth c cX1_holds 3 (some .boolean) RX1 D Φ) (hP : cP D Φ σ s.heap) (hS : va_S (cReg Φ) s.heap s.heap [])  (hl : lv_has ls 3 []) (h : f_X1_holds_115  x0 y0 σ = some r) : cWr p l e 0 0 s m args below meth c (some (.int r)) (F0 m 115 ls [.int y0]) := by
  have hx := X.1
  have hb := X.2.1
  have hown := X.2.2.2.1
  have hts := X.2.2.2.2.1
  have h : (rz y0) = some r := h
  obtain ⟨hz, rfl⟩ := rz_spec h
  exact c_rz X hz dX1_holds_115
set_option maxRecDepth 20000 in
set_option maxHeartbeats 4000000 in
theorem N_X1_holds_114 {p : Program} {l : Launch} {e : Env} {s : State} {m : MethodId} {args : Array Value} {below : List Frame} {meth : Method} {c : Code} {D : cD} {Φ : cG} {x0 : Nat}    {σ : cS} {ls : Array Slot} {r : Int32} (X : cX p s m args meth c cX1_holds 3 (some .boolean) RX1 D Φ) (hP : cP D Φ σ s.heap) (hS : va_S (cReg Φ) s.heap s.heap [])  (hl : lv_has ls 3 []) (h : f_X1_holds_114  x0  σ = some r) : cWr p l e 0 0 s m args below meth c (some (.int r)) (F0 m 114 ls []) := by
  have hx := X.1
  have hb := X.2.1
  have hown := X.2.2.2.1
  have hts := X.2.2.2.2.1
  have h : (f_X1_holds_115 x0 ((0:Int32)) σ) = some r := h
  refine lv_iconst (v := (0:Int32)) hx hb dX1_holds_114 (by decide) ?_
  exact N_X1_holds_115 X hP hS (lv_sub hl [] rfl) h
set_option maxRecDepth 20000 in
set_option maxHeartbeats 4000000 in
theorem N_X1_holds_137 {p : Program} {l : Launch} {e : Env} {s : State} {m : MethodId} {args : Array Value} {below : List Frame} {meth : Method} {c : Code} {D : cD} {Φ : cG} {x0 : Nat}   {y0 : Int32} {σ : cS} {ls : Array Slot} {r : Int32} (X : cX p s m args meth c cX1_holds 3 (some .boolean) RX1 D Φ) (hP : cP D Φ σ s.heap) (hS : va_S (cReg Φ) s.heap s.heap [])  (hl : lv_has ls 3 []) (h : f_X1_holds_137  x0 y0 σ = some r) : cWr p l e 0 0 s m args below meth c (some (.int r)) (F0 m 137 ls [.int y0]) := by
  have hx := X.1
  have hb := X.2.1
  have hown := X.2.2.2.1
  have hts := X.2.2.2.2.1
  have h : (rz y0) = some r := h
  obtain ⟨hz, rfl⟩ := rz_spec h
  exact c_rz X hz dX1_holds_137
set_option maxRecDepth 20000 in
set_option maxHeartbeats 4000000 in
theorem N_X1_holds_136 {p : Program} {l : Launch} {e : Env} {s : State} {m : MethodId} {args : Array Value} {below : List Frame} {meth : Method} {c : Code} {D : cD} {Φ : cG} {x0 : Nat}    {σ : cS} {ls : Array Slot} {r : Int32} (X : cX p s m args meth c cX1_holds 3 (some .boolean) RX1 D Φ) (hP : cP D Φ σ s.heap) (hS : va_S (cReg Φ) s.heap s.heap [])  (hl : lv_has ls 3 []) (h : f_X1_holds_136  x0  σ = some r) : cWr p l e 0 0 s m args below meth c (some (.int r)) (F0 m 136 ls []) := by
  have hx := X.1
  have hb := X.2.1
  have hown := X.2.2.2.1
  have hts := X.2.2.2.2.1
  have h : (f_X1_holds_137 x0 ((0:Int32)) σ) = some r := h
  refine lv_iconst (v := (0:Int32)) hx hb dX1_holds_136 (by decide) ?_
  exact N_X1_holds_137 X hP hS (lv_sub hl [] rfl) h
set_option maxRecDepth 20000 in
set_option maxHeartbeats 4000000 in
theorem K_X1_holds (l : Launch) (D : cD) (Φ : cG) (σ : cS) (x0 : Nat) (x1 : Option Nat) (x2 : Option Nat) {r : Int32} (h : f_X1_holds x0 x1 x2 σ = some r) : Met l yX1_holds (Cond.code yX1_holds cX1_holds 3 (some .boolean) :: BG) (rA 0 0 0 0) (cPc D Φ σ [cv Φ (some x0), cv Φ x1, cv Φ x2]) (cQr (some (.int r))) 0 0 (fun _ => False) := by
  refine Met.ofW (cc := cX1_holds) (maxL := 3) (ret := (some .boolean)) (by decide) rfl ?_
  intro p e s m args below meth c s₁ B hml hv
  obtain ⟨rfl, hP, hK, hZ⟩ := hv
  have X : cX p s m [cv Φ (some x0), cv Φ x1, cv Φ x2].toArray meth c cX1_holds 3 (some .boolean) RX1 D Φ := cX_of B hml hK hZ
  have hx := X.1
  have hb := X.2.1
  have hown := X.2.2.2.1
  have hts := X.2.2.2.2.1
  have hl := lv_entry [cv Φ (some x0), cv Φ x1, cv Φ x2] (n := 3) (by simp only [lgs_r, lgs_i, lgs_l, lgs_0, List.length]; exact Nat.le_of_ble_eq_true rfl)
  rw [lg_entry_eq]
  generalize (lg_sl [cv Φ (some x0), cv Φ x1, cv Φ x2] ++ List.replicate (3 - (lg_sl [cv Φ (some x0), cv Φ x1, cv Φ x2]).length) Slot.unset).toArray = ls at hl ⊢
  simp only [lv_args_r, lv_args_i, lv_args_l, lv_args_0] at hl
  have hl : lv_has ls 3 [(0, cv Φ (some x0)), (1, cv Φ x1), (2, cv Φ x2)] := hl
  have hS : va_S (cReg Φ) s.heap s.heap [] := va_S.rf
  show cWr p l e 0 0 s m [cv Φ (some x0), cv Φ x1, cv Φ x2].toArray below meth c (some (.int r)) (F0 m 0 ls [])
  have h : ((gI σ x1 6 4).bind (fun v1 => if v1 = (0:Int32) then ((gI σ (some x0) 1 8).bind (fun v2 => (gI σ x1 6 5).bind (fun v3 => if v2 < v3 then (f_X1_holds_56 x0 ((0:Int32)) σ) else (f_X1_holds_56 x0 ((1:Int32)) σ)))) else (if v1 = (1:Int32) then ((gI σ (some x0) 1 8).bind (fun v4 => (gI σ x1 6 5).bind (fun v5 => if v5 < v4 then (f_X1_holds_73 x0 ((0:Int32)) σ) else (f_X1_holds_73 x0 ((1:Int32)) σ)))) else (if v1 = (2:Int32) then (if x2 = none then (f_X1_holds_93 x0 σ) else ((gI σ x2 9 2).bind (fun v6 => (gI σ x1 6 5).bind (fun v7 => if v6 < v7 then (f_X1_holds_93 x0 σ) else (f_X1_holds_94 x0 ((1:Int32)) σ))))) else (if v1 = (3:Int32) then (if x2 = none then (f_X1_holds_114 x0 σ) else ((gI σ x2 9 2).bind (fun v8 => (gI σ x1 6 5).bind (fun v9 => if v9 < v8 then (f_X1_holds_114 x0 σ) else (f_X1_holds_115 x0 ((1:Int32)) σ))))) else (if v1 = (4:Int32) then ((gI σ x1 6 5).bind (fun v10 => if v10 < (0:Int32) then (f_X1_holds_136 x0 σ) else ((gI σ x1 6 5).bind (fun v11 => if (15:Int32) ≤ v11 then (f_X1_holds_136 x0 σ) else (f_X1_holds_137 x0 ((1:Int32)) σ))))) else (rz (1:Int32)))))))) = some r := h
  refine c_aload_n hx hb dX1_holds_0 rfl (lv_at hl 1 rfl) ?_
  obtain ⟨v1, hv1, h⟩ := ob h
  refine c_gI X hP hv1 (Nat.le_of_ble_eq_true rfl) (Nat.le_of_ble_eq_true rfl) rfl w_169 dX1_holds_1 ?_
  by_cases hc0 : v1 = (0:Int32)
  · have h := ip hc0 h
    refine lv_tableIn (tgt := 40) (off := 36) hx hb dX1_holds_4 (by rw [hc0]; decide) (by rw [hc0]; decide) (by rw [hc0]; rfl) rfl ?_
    refine c_aload_n hx hb dX1_holds_40 rfl (lv_at hl 0 rfl) ?_
    obtain ⟨v2, hv2, h⟩ := ob h
    refine c_gI X hP hv2 (Nat.le_of_ble_eq_true rfl) (Nat.le_of_ble_eq_true rfl) rfl w_508 dX1_holds_41 ?_
    refine c_aload_n hx hb dX1_holds_44 rfl (lv_at hl 1 rfl) ?_
    obtain ⟨v3, hv3, h⟩ := ob h
    refine c_gI X hP hv3 (Nat.le_of_ble_eq_true rfl) (Nat.le_of_ble_eq_true rfl) rfl w_171 dX1_holds_45 ?_
    refine lv_icmp_lt (tgt := 55) hx hb dX1_holds_48 rfl (fun hc => ?_) (fun hc => ?_)
    · have h := ip hc h
      refine lv_iconst (v := (0:Int32)) hx hb dX1_holds_55 (by decide) ?_
      exact N_X1_holds_56 X hP hS (lv_sub hl [] rfl) h
    · have h := ine hc h
      refine lv_iconst (v := (1:Int32)) hx hb dX1_holds_51 (by decide) ?_
      refine lv_goto (tgt := 56) hx hb dX1_holds_52 rfl ?_
      exact N_X1_holds_56 X hP hS (lv_sub hl [] rfl) h
  · have h := ine hc0 h
    by_cases hc1 : v1 = (1:Int32)
    · have h := ip hc1 h
      refine lv_tableIn (tgt := 57) (off := 53) hx hb dX1_holds_4 (by rw [hc1]; decide) (by rw [hc1]; decide) (by rw [hc1]; rfl) rfl ?_
      refine c_aload_n hx hb dX1_holds_57 rfl (lv_at hl 0 rfl) ?_
      obtain ⟨v4, hv4, h⟩ := ob h
      refine c_gI X hP hv4 (Nat.le_of_ble_eq_true rfl) (Nat.le_of_ble_eq_true rfl) rfl w_508 dX1_holds_58 ?_
      refine c_aload_n hx hb dX1_holds_61 rfl (lv_at hl 1 rfl) ?_
      obtain ⟨v5, hv5, h⟩ := ob h
      refine c_gI X hP hv5 (Nat.le_of_ble_eq_true rfl) (Nat.le_of_ble_eq_true rfl) rfl w_171 dX1_holds_62 ?_
      refine lv_icmp_gt (tgt := 72) hx hb dX1_holds_65 rfl (fun hc => ?_) (fun hc => ?_)
      · have h := ip hc h
        refine lv_iconst (v := (0:Int32)) hx hb dX1_holds_72 (by decide) ?_
        exact N_X1_holds_73 X hP hS (lv_sub hl [] rfl) h
      · have h := ine hc h
        refine lv_iconst (v := (1:Int32)) hx hb dX1_holds_68 (by decide) ?_
        refine lv_goto (tgt := 73) hx hb dX1_holds_69 rfl ?_
        exact N_X1_holds_73 X hP hS (lv_sub hl [] rfl) h
    · have h := ine hc1 h
      by_cases hc2 : v1 = (2:Int32)
      · have h := ip hc2 h
        refine lv_tableIn (tgt := 74) (off := 70) hx hb dX1_holds_4 (by rw [hc2]; decide) (by rw [hc2]; decide) (by rw [hc2]; rfl) rfl ?_
        refine c_aload_n hx hb dX1_holds_74 rfl (lv_at hl 2 rfl) ?_
        refine c_ifnull (Φ := Φ) (tgt := 93) hx hb dX1_holds_75 rfl (fun hc => ?_) (fun hc => ?_)
        · have h := ip hc h
          exact N_X1_holds_93 X hP hS (lv_sub hl [] rfl) h
        · have h := ine hc h
          refine c_aload_n hx hb dX1_holds_78 rfl (lv_at hl 2 rfl) ?_
          obtain ⟨v6, hv6, h⟩ := ob h
          refine c_gI X hP hv6 (Nat.le_of_ble_eq_true rfl) (Nat.le_of_ble_eq_true rfl) rfl w_98 dX1_holds_79 ?_
          refine c_aload_n hx hb dX1_holds_82 rfl (lv_at hl 1 rfl) ?_
          obtain ⟨v7, hv7, h⟩ := ob h
          refine c_gI X hP hv7 (Nat.le_of_ble_eq_true rfl) (Nat.le_of_ble_eq_true rfl) rfl w_171 dX1_holds_83 ?_
          refine lv_icmp_lt (tgt := 93) hx hb dX1_holds_86 rfl (fun hc => ?_) (fun hc => ?_)
          · have h := ip hc h
            exact N_X1_holds_93 X hP hS (lv_sub hl [] rfl) h
          · have h := ine hc h
            refine lv_iconst (v := (1:Int32)) hx hb dX1_holds_89 (by decide) ?_
            refine lv_goto (tgt := 94) hx hb dX1_holds_90 rfl ?_
            exact N_X1_holds_94 X hP hS (lv_sub hl [] rfl) h
      · have h := ine hc2 h
        by_cases hc3 : v1 = (3:Int32)
        · have h := ip hc3 h
          refine lv_tableIn (tgt := 95) (off := 91) hx hb dX1_holds_4 (by rw [hc3]; decide) (by rw [hc3]; decide) (by rw [hc3]; rfl) rfl ?_
          refine c_aload_n hx hb dX1_holds_95 rfl (lv_at hl 2 rfl) ?_
          refine c_ifnull (Φ := Φ) (tgt := 114) hx hb dX1_holds_96 rfl (fun hc => ?_) (fun hc => ?_)
          · have h := ip hc h
            exact N_X1_holds_114 X hP hS (lv_sub hl [] rfl) h
          · have h := ine hc h
            refine c_aload_n hx hb dX1_holds_99 rfl (lv_at hl 2 rfl) ?_
            obtain ⟨v8, hv8, h⟩ := ob h
            refine c_gI X hP hv8 (Nat.le_of_ble_eq_true rfl) (Nat.le_of_ble_eq_true rfl) rfl w_98 dX1_holds_100 ?_
            refine c_aload_n hx hb dX1_holds_103 rfl (lv_at hl 1 rfl) ?_
            obtain ⟨v9, hv9, h⟩ := ob h
            refine c_gI X hP hv9 (Nat.le_of_ble_eq_true rfl) (Nat.le_of_ble_eq_true rfl) rfl w_171 dX1_holds_104 ?_
            refine lv_icmp_gt (tgt := 114) hx hb dX1_holds_107 rfl (fun hc => ?_) (fun hc => ?_)
            · have h := ip hc h
              exact N_X1_holds_114 X hP hS (lv_sub hl [] rfl) h
            · have h := ine hc h
              refine lv_iconst (v := (1:Int32)) hx hb dX1_holds_110 (by decide) ?_
              refine lv_goto (tgt := 115) hx hb dX1_holds_111 rfl ?_
              exact N_X1_holds_115 X hP hS (lv_sub hl [] rfl) h
        · have h := ine hc3 h
          by_cases hc4 : v1 = (4:Int32)
          · have h := ip hc4 h
            refine lv_tableIn (tgt := 116) (off := 112) hx hb dX1_holds_4 (by rw [hc4]; decide) (by rw [hc4]; decide) (by rw [hc4]; rfl) rfl ?_
            refine c_aload_n hx hb dX1_holds_116 rfl (lv_at hl 1 rfl) ?_
            obtain ⟨v10, hv10, h⟩ := ob h
            refine c_gI X hP hv10 (Nat.le_of_ble_eq_true rfl) (Nat.le_of_ble_eq_true rfl) rfl w_171 dX1_holds_117 ?_
            refine lv_if_lt (tgt := 136) hx hb dX1_holds_120 rfl (fun hc => ?_) (fun hc => ?_)
            · have h := ip hc h
              exact N_X1_holds_136 X hP hS (lv_sub hl [] rfl) h
            · have h := ine hc h
              refine c_aload_n hx hb dX1_holds_123 rfl (lv_at hl 1 rfl) ?_
              obtain ⟨v11, hv11, h⟩ := ob h
              refine c_gI X hP hv11 (Nat.le_of_ble_eq_true rfl) (Nat.le_of_ble_eq_true rfl) rfl w_171 dX1_holds_124 ?_
              refine lv_bipush (v := (15:Int32)) hx hb dX1_holds_127 (by decide) ?_
              refine lv_icmp_ge (tgt := 136) hx hb dX1_holds_129 rfl (fun hc => ?_) (fun hc => ?_)
              · have h := ip hc h
                exact N_X1_holds_136 X hP hS (lv_sub hl [] rfl) h
              · have h := ine hc h
                refine lv_iconst (v := (1:Int32)) hx hb dX1_holds_132 (by decide) ?_
                refine lv_goto (tgt := 137) hx hb dX1_holds_133 rfl ?_
                exact N_X1_holds_137 X hP hS (lv_sub hl [] rfl) h
          · have h := ine hc4 h
            refine lv_tableOut (tgt := 138) hx hb dX1_holds_4 (sw_out (lo := 0) (hi := 4) (fun k h1 h2 => by
              have h3 : k = 0 ∨ k = 1 ∨ k = 2 ∨ k = 3 ∨ k = 4 := by omega
              rcases h3 with rfl | rfl | rfl | rfl | rfl
              · exact hc0
              · exact hc1
              · exact hc2
              · exact hc3
              · exact hc4)) rfl ?_
            refine lv_iconst (v := (1:Int32)) hx hb dX1_holds_138 (by decide) ?_
            obtain ⟨hz, rfl⟩ := rz_spec h
            exact c_rz X hz dX1_holds_139
theorem ww_X1_holds : Cond.instanceMethod yX1_holds ∈ BG ∧ Cond.selects (yX1_holds).cls yX1_holds yX1_holds ∈ BG ∧ Cond.initialized (yX1_holds).cls ∈ BG ∧ Cond.code yX1_holds cX1_holds 3 (some .boolean) ∈ BG := ⟨w_995, w_31, w_64, w_996⟩
theorem hy_X1_holds : (yX1_holds).cls ≠ "java/lang/invoke/MethodHandle" ∧ (yX1_holds).cls ≠ "java/lang/invoke/VarHandle" ∧ (parseMethodDescriptor (yX1_holds).desc).map (fun d => d.parameters.length) = some 2 := ⟨by decide, by decide, by decide +kernel⟩
def f_X1_hindrance_17  (x0 : Nat)  (σ : cS) : Option (Int32) := some (10:Int32)
def f_X1_hindrance_66  (x0 : Nat) (y0 : Int32) (σ : cS) : Option (Int32) := some y0
def f_X1_hindrance (x0 : Nat) (x1 : Option Nat) (x2 : Option Nat) (x3 : Option Nat) (σ : cS) : Option (Int32) := (gR σ x1 6 1).bind (fun v1 => if v1 = none then (f_X1_hindrance_17 x0 σ) else ((gR σ x1 6 1).bind (fun v2 => (gI σ v2 8 4).bind (fun v3 => if v3 = (0:Int32) then (f_X1_hindrance_17 x0 σ) else ((gR σ x1 6 1).bind (fun v4 => (rc σ (some x0) 1).bind (fun v5 => (f_X1_isThere v5 (v4) σ).bind (fun v6 => if v6 = (0:Int32) then (some (9:Int32)) else ((gI σ x1 6 13).bind (fun v7 => (gI σ x2 3 0).bind (fun v8 => if ((v7 >>> (v8 &&& 31)) &&& (1:Int32)) = (0:Int32) then (some (8:Int32)) else ((rc σ (some x0) 1).bind (fun v9 => (f_X1_holds v9 (x1) (x3) σ).bind (fun v10 => if v10 = (0:Int32) then (f_X1_hindrance_66 x0 ((7:Int32)) σ) else (f_X1_hindrance_66 x0 ((0:Int32)) σ)))))))))))))))
set_option maxRecDepth 20000 in
set_option maxHeartbeats 4000000 in
theorem N_X1_hindrance_17 {p : Program} {l : Launch} {e : Env} {s : State} {m : MethodId} {args : Array Value} {below : List Frame} {meth : Method} {c : Code} {D : cD} {Φ : cG} {x0 : Nat}    {σ : cS} {ls : Array Slot} {r : Int32} (X : cX p s m args meth c cX1_hindrance 4 (some .int) RX1 D Φ) (hP : cP D Φ σ s.heap) (hS : va_S (cReg Φ) s.heap s.heap [])  (hl : lv_has ls 4 []) (h : f_X1_hindrance_17  x0  σ = some r) : cWr p l e 2 42 s m args below meth c (some (.int r)) (F0 m 17 ls []) := by
  have hx := X.1
  have hb := X.2.1
  have hown := X.2.2.2.1
  have hts := X.2.2.2.2.1
  have h : (some (10:Int32)) = some r := h
  refine lv_bipush (v := (10:Int32)) hx hb dX1_hindrance_17 (by decide) ?_
  obtain rfl := sj h
  exact c_ri X dX1_hindrance_19
set_option maxRecDepth 20000 in
set_option maxHeartbeats 4000000 in
theorem N_X1_hindrance_66 {p : Program} {l : Launch} {e : Env} {s : State} {m : MethodId} {args : Array Value} {below : List Frame} {meth : Method} {c : Code} {D : cD} {Φ : cG} {x0 : Nat}   {y0 : Int32} {σ : cS} {ls : Array Slot} {r : Int32} (X : cX p s m args meth c cX1_hindrance 4 (some .int) RX1 D Φ) (hP : cP D Φ σ s.heap) (hS : va_S (cReg Φ) s.heap s.heap [])  (hl : lv_has ls 4 []) (h : f_X1_hindrance_66  x0 y0 σ = some r) : cWr p l e 2 42 s m args below meth c (some (.int r)) (F0 m 66 ls [.int y0]) := by
  have hx := X.1
  have hb := X.2.1
  have hown := X.2.2.2.1
  have hts := X.2.2.2.2.1
  have h : (some y0) = some r := h
  obtain rfl := sj h
  exact c_ri X dX1_hindrance_66
set_option maxRecDepth 20000 in
set_option maxHeartbeats 4000000 in
theorem K_X1_hindrance (l : Launch) (D : cD) (Φ : cG) (σ : cS) (x0 : Nat) (x1 : Option Nat) (x2 : Option Nat) (x3 : Option Nat) {r : Int32} (h : f_X1_hindrance x0 x1 x2 x3 σ = some r) : Met l yX1_hindrance (Cond.code yX1_hindrance cX1_hindrance 4 (some .int) :: BG) (rA 2 0 0 42) (cPc D Φ σ [cv Φ (some x0), cv Φ x1, cv Φ x2, cv Φ x3]) (cQr (some (.int r))) 0 0 (fun _ => False) := by
  refine Met.ofW (cc := cX1_hindrance) (maxL := 4) (ret := (some .int)) (by decide) rfl ?_
  intro p e s m args below meth c s₁ B hml hv
  obtain ⟨rfl, hP, hK, hZ⟩ := hv
  have X : cX p s m [cv Φ (some x0), cv Φ x1, cv Φ x2, cv Φ x3].toArray meth c cX1_hindrance 4 (some .int) RX1 D Φ := cX_of B hml hK hZ
  have hx := X.1
  have hb := X.2.1
  have hown := X.2.2.2.1
  have hts := X.2.2.2.2.1
  have hl := lv_entry [cv Φ (some x0), cv Φ x1, cv Φ x2, cv Φ x3] (n := 4) (by simp only [lgs_r, lgs_i, lgs_l, lgs_0, List.length]; exact Nat.le_of_ble_eq_true rfl)
  rw [lg_entry_eq]
  generalize (lg_sl [cv Φ (some x0), cv Φ x1, cv Φ x2, cv Φ x3] ++ List.replicate (4 - (lg_sl [cv Φ (some x0), cv Φ x1, cv Φ x2, cv Φ x3]).length) Slot.unset).toArray = ls at hl ⊢
  simp only [lv_args_r, lv_args_i, lv_args_l, lv_args_0] at hl
  have hl : lv_has ls 4 [(0, cv Φ (some x0)), (1, cv Φ x1), (2, cv Φ x2), (3, cv Φ x3)] := hl
  have hS : va_S (cReg Φ) s.heap s.heap [] := va_S.rf
  show cWr p l e 2 42 s m [cv Φ (some x0), cv Φ x1, cv Φ x2, cv Φ x3].toArray below meth c (some (.int r)) (F0 m 0 ls [])
  have h : ((gR σ x1 6 1).bind (fun v1 => if v1 = none then (f_X1_hindrance_17 x0 σ) else ((gR σ x1 6 1).bind (fun v2 => (gI σ v2 8 4).bind (fun v3 => if v3 = (0:Int32) then (f_X1_hindrance_17 x0 σ) else ((gR σ x1 6 1).bind (fun v4 => (rc σ (some x0) 1).bind (fun v5 => (f_X1_isThere v5 (v4) σ).bind (fun v6 => if v6 = (0:Int32) then (some (9:Int32)) else ((gI σ x1 6 13).bind (fun v7 => (gI σ x2 3 0).bind (fun v8 => if ((v7 >>> (v8 &&& 31)) &&& (1:Int32)) = (0:Int32) then (some (8:Int32)) else ((rc σ (some x0) 1).bind (fun v9 => (f_X1_holds v9 (x1) (x3) σ).bind (fun v10 => if v10 = (0:Int32) then (f_X1_hindrance_66 x0 ((7:Int32)) σ) else (f_X1_hindrance_66 x0 ((0:Int32)) σ)))))))))))))))) = some r := h
  refine c_aload_n hx hb dX1_hindrance_0 rfl (lv_at hl 1 rfl) ?_
  obtain ⟨v1, hv1, h⟩ := ob h
  refine c_gR X hP hv1 (Nat.le_of_ble_eq_true rfl) (Nat.le_of_ble_eq_true rfl) rfl w_163 dX1_hindrance_1 ?_
  refine c_ifnull (Φ := Φ) (tgt := 17) hx hb dX1_hindrance_4 rfl (fun hc => ?_) (fun hc => ?_)
  · have h := ip hc h
    exact N_X1_hindrance_17 X hP hS (lv_sub hl [] rfl) h
  · have h := ine hc h
    refine c_aload_n hx hb dX1_hindrance_7 rfl (lv_at hl 1 rfl) ?_
    obtain ⟨v2, hv2, h⟩ := ob h
    refine c_gR X hP hv2 (Nat.le_of_ble_eq_true rfl) (Nat.le_of_ble_eq_true rfl) rfl w_163 dX1_hindrance_8 ?_
    obtain ⟨v3, hv3, h⟩ := ob h
    refine c_gI X hP hv3 (Nat.le_of_ble_eq_true rfl) (Nat.le_of_ble_eq_true rfl) rfl w_1267 dX1_hindrance_11 ?_
    refine lv_if_ne (tgt := 20) hx hb dX1_hindrance_14 rfl (fun hc => ?_) (fun hc => ?_)
    · have h := ine hc h
      refine c_aload_n hx hb dX1_hindrance_20 rfl (lv_at hl 0 rfl) ?_
      refine c_aload_n hx hb dX1_hindrance_21 rfl (lv_at hl 1 rfl) ?_
      obtain ⟨v4, hv4, h⟩ := ob h
      refine c_gR X hP hv4 (Nat.le_of_ble_eq_true rfl) (Nat.le_of_ble_eq_true rfl) rfl w_163 dX1_hindrance_22 ?_
      obtain ⟨v5, hv5, h⟩ := ob h
      obtain ⟨v6, hv6, h⟩ := ob h
      refine c_cr (c_runV X (K_X1_isThere l D Φ σ v5 (v4) hv6) hv5 ⟨Nat.le_of_ble_eq_true rfl, by decide⟩ ⟨w_913, ww_X1_isThere⟩ rfl hy_X1_isThere rfl ⟨(Nat.le_of_ble_eq_true rfl), (Nat.le_of_ble_eq_true rfl)⟩ hP hS hl.1 (Nat.le_of_ble_eq_true rfl) dX1_hindrance_25 rfl ⟨(Nat.le_of_ble_eq_true rfl), (Nat.le_of_ble_eq_true rfl)⟩) ?_
      refine lv_if_ne (tgt := 34) hx hb dX1_hindrance_28 rfl (fun hc => ?_) (fun hc => ?_)
      · have h := ine hc h
        refine c_aload_n hx hb dX1_hindrance_34 rfl (lv_at hl 1 rfl) ?_
        obtain ⟨v7, hv7, h⟩ := ob h
        refine c_gI X hP hv7 (Nat.le_of_ble_eq_true rfl) (Nat.le_of_ble_eq_true rfl) rfl w_189 dX1_hindrance_35 ?_
        refine c_aload_n hx hb dX1_hindrance_38 rfl (lv_at hl 2 rfl) ?_
        obtain ⟨v8, hv8, h⟩ := ob h
        refine c_gI X hP hv8 (Nat.le_of_ble_eq_true rfl) (Nat.le_of_ble_eq_true rfl) rfl w_228 dX1_hindrance_39 ?_
        refine lv_ishr hx hb dX1_hindrance_42 ?_
        refine lv_iconst (v := (1:Int32)) hx hb dX1_hindrance_43 (by decide) ?_
        refine lv_iand hx hb dX1_hindrance_44 ?_
        refine lv_if_ne (tgt := 51) hx hb dX1_hindrance_45 rfl (fun hc => ?_) (fun hc => ?_)
        · have h := ine hc h
          refine c_aload_n hx hb dX1_hindrance_51 rfl (lv_at hl 0 rfl) ?_
          refine c_aload_n hx hb dX1_hindrance_52 rfl (lv_at hl 1 rfl) ?_
          refine c_aload_n hx hb dX1_hindrance_53 rfl (lv_at hl 3 rfl) ?_
          obtain ⟨v9, hv9, h⟩ := ob h
          obtain ⟨v10, hv10, h⟩ := ob h
          refine c_cr (c_runV X (K_X1_holds l D Φ σ v9 (x1) (x3) hv10) hv9 ⟨Nat.le_of_ble_eq_true rfl, by decide⟩ ⟨w_993, ww_X1_holds⟩ rfl hy_X1_holds rfl ⟨(Nat.le_of_ble_eq_true rfl), (Nat.le_of_ble_eq_true rfl)⟩ hP hS hl.1 (Nat.le_of_ble_eq_true rfl) dX1_hindrance_54 rfl ⟨(Nat.le_of_ble_eq_true rfl), (Nat.le_of_ble_eq_true rfl)⟩) ?_
          refine lv_if_eq (tgt := 64) hx hb dX1_hindrance_57 rfl (fun hc => ?_) (fun hc => ?_)
          · have h := ip hc h
            refine lv_bipush (v := (7:Int32)) hx hb dX1_hindrance_64 (by decide) ?_
            exact N_X1_hindrance_66 X hP hS (lv_sub hl [] rfl) h
          · have h := ine hc h
            refine lv_iconst (v := (0:Int32)) hx hb dX1_hindrance_60 (by decide) ?_
            refine lv_goto (tgt := 66) hx hb dX1_hindrance_61 rfl ?_
            exact N_X1_hindrance_66 X hP hS (lv_sub hl [] rfl) h
        · have h := ip hc h
          refine lv_bipush (v := (8:Int32)) hx hb dX1_hindrance_48 (by decide) ?_
          obtain rfl := sj h
          exact c_ri X dX1_hindrance_50
      · have h := ip hc h
        refine lv_bipush (v := (9:Int32)) hx hb dX1_hindrance_31 (by decide) ?_
        obtain rfl := sj h
        exact c_ri X dX1_hindrance_33
    · have h := ip hc h
      exact N_X1_hindrance_17 X hP hS (lv_sub hl [] rfl) h
theorem ww_X1_hindrance : Cond.instanceMethod yX1_hindrance ∈ BG ∧ Cond.selects (yX1_hindrance).cls yX1_hindrance yX1_hindrance ∈ BG ∧ Cond.initialized (yX1_hindrance).cls ∈ BG ∧ Cond.code yX1_hindrance cX1_hindrance 4 (some .int) ∈ BG := ⟨w_1194, w_51, w_64, w_1195⟩
theorem hy_X1_hindrance : (yX1_hindrance).cls ≠ "java/lang/invoke/MethodHandle" ∧ (yX1_hindrance).cls ≠ "java/lang/invoke/VarHandle" ∧ (parseMethodDescriptor (yX1_hindrance).desc).map (fun d => d.parameters.length) = some 3 := ⟨by decide, by decide, by decide +kernel⟩
def f_X1_applying_48 (k8 : Option Nat → Option Nat → Int64 → Option Nat → Option (Int64)) (x0 : Nat) (x1 : Option Nat) (x2 : Option Nat) (x3 : Int64) (x5 : Option Nat) (σ : cS) : Option (Int64) := (gR σ x5 6 14).bind (fun v1 => k8 (x1) (x2) (x3) (v1))
def f_X1_applying_8  (x0 : Nat) : Nat → Option Nat → Option Nat → Int64 → Option Nat → cS → Option (Int64)
  | 0, _, _, _, _, _ => none
  | n + 1, x1, x2, x3, x5, σ => if x5 = none then (some x3) else ((gI σ x5 6 13).bind (fun v1 => (gI σ x1 3 0).bind (fun v2 => if ((v1 >>> (v2 &&& 31)) &&& (1:Int32)) = (0:Int32) then (f_X1_applying_48 (fun z0 z1 z2 z3 => f_X1_applying_8 x0 n z0 z1 z2 z3 σ) x0 (x1) (x2) (x3) (x5) σ) else ((rc σ (some x0) 1).bind (fun v3 => (f_X1_holds v3 (x5) (x2) σ).bind (fun v4 => if v4 = (0:Int32) then (f_X1_applying_48 (fun z0 z1 z2 z3 => f_X1_applying_8 x0 n z0 z1 z2 z3 σ) x0 (x1) (x2) (x3) (x5) σ) else ((gI σ x5 6 0).bind (fun v5 => f_X1_applying_48 (fun z0 z1 z2 z3 => f_X1_applying_8 x0 n z0 z1 z2 z3 σ) x0 (x1) (x2) ((x3 ||| ((1:Int64) <<< ((v5).toInt64 &&& 63)))) (x5) σ))))))))
def f_X1_applying (x0 : Nat) (x1 : Option Nat) (x2 : Option Nat) (σ : cS) : Option (Int64) := (gR σ (some x0) 1 6).bind (fun v1 => f_X1_applying_8 x0 4000 (x1) (x2) ((0:Int64)) (v1) σ)
set_option maxRecDepth 20000 in
set_option maxHeartbeats 4000000 in
theorem N_X1_applying_48 {p : Program} {l : Launch} {e : Env} {s : State} {m : MethodId} {args : Array Value} {below : List Frame} {meth : Method} {c : Code} {D : cD} {Φ : cG} {x0 : Nat} {k8 : Option Nat → Option Nat → Int64 → Option Nat → Option (Int64)}  {x1 : Option Nat} {x2 : Option Nat} {x3 : Int64} {x5 : Option Nat} {σ : cS} {ls : Array Slot} {r : Int64} (X : cX p s m args meth c cX1_applying 6 (some .long) RX1 D Φ) (hP : cP D Φ σ s.heap) (hS : va_S (cReg Φ) s.heap s.heap []) (hk8 : ∀ {x1 : Option Nat} {x2 : Option Nat} {x3 : Int64} {x5 : Option Nat} {ls : Array Slot}, lv_has ls 6 [(0, cv Φ (some x0)), (1, cv Φ x1), (2, cv Φ x2), (3, .long x3), (5, cv Φ x5)] → k8 x1 x2 x3 x5 = some r → cWr p l e 1 22 s m args below meth c (some (.long r)) (F0 m 8 ls [])) (hl : lv_has ls 6 [(0, cv Φ (some x0)), (1, cv Φ x1), (2, cv Φ x2), (3, .long x3), (5, cv Φ x5)]) (h : f_X1_applying_48 k8 x0 x1 x2 x3 x5 σ = some r) : cWr p l e 1 22 s m args below meth c (some (.long r)) (F0 m 48 ls []) := by
  have hx := X.1
  have hb := X.2.1
  have hown := X.2.2.2.1
  have hts := X.2.2.2.2.1
  have h : ((gR σ x5 6 14).bind (fun v1 => k8 (x1) (x2) (x3) (v1))) = some r := h
  refine c_aload hx hb dX1_applying_48 (lv_at hl 4 rfl) ?_
  obtain ⟨v1, hv1, h⟩ := ob h
  refine c_gR X hP hv1 (Nat.le_of_ble_eq_true rfl) (Nat.le_of_ble_eq_true rfl) rfl w_190 dX1_applying_50 ?_
  refine c_astore hx hb dX1_applying_53 hl (Nat.le_of_ble_eq_true rfl) (lvKa rfl (lvKa rfl (lvKa rfl (lvKa rfl (lvKa rfl lvK0))))) rfl (fun ls (hl : lv_has ls 6 [(5, cv Φ v1), (0, cv Φ (some x0)), (1, cv Φ x1), (2, cv Φ x2), (3, .long x3)]) => ?_)
  refine lv_goto (tgt := 8) hx hb dX1_applying_55 rfl ?_
  exact hk8 (lv_sub hl [1, 2, 3, 4, 0] rfl) h
set_option maxRecDepth 20000 in
set_option maxHeartbeats 4000000 in
theorem N_X1_applying_8 {p : Program} {l : Launch} {e : Env} {s : State} {m : MethodId} {args : Array Value} {below : List Frame} {meth : Method} {c : Code} {D : cD} {Φ : cG} {x0 : Nat}  {n : Nat} {x1 : Option Nat} {x2 : Option Nat} {x3 : Int64} {x5 : Option Nat} {σ : cS} {ls : Array Slot} {r : Int64} (X : cX p s m args meth c cX1_applying 6 (some .long) RX1 D Φ) (hP : cP D Φ σ s.heap) (hS : va_S (cReg Φ) s.heap s.heap [])  (hl : lv_has ls 6 [(0, cv Φ (some x0)), (1, cv Φ x1), (2, cv Φ x2), (3, .long x3), (5, cv Φ x5)]) (h : f_X1_applying_8  x0 n x1 x2 x3 x5 σ = some r) : cWr p l e 1 22 s m args below meth c (some (.long r)) (F0 m 8 ls []) := by
  have hx := X.1
  have hb := X.2.1
  have hown := X.2.2.2.1
  have hts := X.2.2.2.2.1
  induction n generalizing x1 x2 x3 x5 ls with
  | zero => exact absurd (show none = some r from h) (by simp)
  | succ n ih =>
    have h : (if x5 = none then (some x3) else ((gI σ x5 6 13).bind (fun v1 => (gI σ x1 3 0).bind (fun v2 => if ((v1 >>> (v2 &&& 31)) &&& (1:Int32)) = (0:Int32) then (f_X1_applying_48 (fun z0 z1 z2 z3 => f_X1_applying_8 x0 n z0 z1 z2 z3 σ) x0 (x1) (x2) (x3) (x5) σ) else ((rc σ (some x0) 1).bind (fun v3 => (f_X1_holds v3 (x5) (x2) σ).bind (fun v4 => if v4 = (0:Int32) then (f_X1_applying_48 (fun z0 z1 z2 z3 => f_X1_applying_8 x0 n z0 z1 z2 z3 σ) x0 (x1) (x2) (x3) (x5) σ) else ((gI σ x5 6 0).bind (fun v5 => f_X1_applying_48 (fun z0 z1 z2 z3 => f_X1_applying_8 x0 n z0 z1 z2 z3 σ) x0 (x1) (x2) ((x3 ||| ((1:Int64) <<< ((v5).toInt64 &&& 63)))) (x5) σ))))))))) = some r := h
    refine c_aload hx hb dX1_applying_8 (lv_at hl 4 rfl) ?_
    refine c_ifnull (Φ := Φ) (tgt := 58) hx hb dX1_applying_10 rfl (fun hc => ?_) (fun hc => ?_)
    · have h := ip hc h
      refine lv_lload_n hx hb dX1_applying_58 rfl (lv_at hl 3 rfl) ?_
      obtain rfl := sj h
      exact c_rl X dX1_applying_59
    · have h := ine hc h
      refine c_aload hx hb dX1_applying_13 (lv_at hl 4 rfl) ?_
      obtain ⟨v1, hv1, h⟩ := ob h
      refine c_gI X hP hv1 (Nat.le_of_ble_eq_true rfl) (Nat.le_of_ble_eq_true rfl) rfl w_189 dX1_applying_15 ?_
      refine c_aload_n hx hb dX1_applying_18 rfl (lv_at hl 1 rfl) ?_
      obtain ⟨v2, hv2, h⟩ := ob h
      refine c_gI X hP hv2 (Nat.le_of_ble_eq_true rfl) (Nat.le_of_ble_eq_true rfl) rfl w_228 dX1_applying_19 ?_
      refine lv_ishr hx hb dX1_applying_22 ?_
      refine lv_iconst (v := (1:Int32)) hx hb dX1_applying_23 (by decide) ?_
      refine lv_iand hx hb dX1_applying_24 ?_
      refine lv_if_eq (tgt := 48) hx hb dX1_applying_25 rfl (fun hc => ?_) (fun hc => ?_)
      · have h := ip hc h
        exact N_X1_applying_48 X hP hS ih (lv_sub hl [0, 1, 2, 3, 4] rfl) h
      · have h := ine hc h
        refine c_aload_n hx hb dX1_applying_28 rfl (lv_at hl 0 rfl) ?_
        refine c_aload hx hb dX1_applying_29 (lv_at hl 4 rfl) ?_
        refine c_aload_n hx hb dX1_applying_31 rfl (lv_at hl 2 rfl) ?_
        obtain ⟨v3, hv3, h⟩ := ob h
        obtain ⟨v4, hv4, h⟩ := ob h
        refine c_cr (c_runV X (K_X1_holds l D Φ σ v3 (x5) (x2) hv4) hv3 ⟨Nat.le_of_ble_eq_true rfl, by decide⟩ ⟨w_993, ww_X1_holds⟩ rfl hy_X1_holds rfl ⟨(Nat.le_of_ble_eq_true rfl), (Nat.le_of_ble_eq_true rfl)⟩ hP hS hl.1 (Nat.le_of_ble_eq_true rfl) dX1_applying_32 rfl ⟨(Nat.le_of_ble_eq_true rfl), (Nat.le_of_ble_eq_true rfl)⟩) ?_
        refine lv_if_eq (tgt := 48) hx hb dX1_applying_35 rfl (fun hc => ?_) (fun hc => ?_)
        · have h := ip hc h
          exact N_X1_applying_48 X hP hS ih (lv_sub hl [0, 1, 2, 3, 4] rfl) h
        · have h := ine hc h
          refine lv_lload_n hx hb dX1_applying_38 rfl (lv_at hl 3 rfl) ?_
          refine lv_lconst (v := (1:Int64)) hx hb dX1_applying_39 (by decide) ?_
          refine c_aload hx hb dX1_applying_40 (lv_at hl 4 rfl) ?_
          obtain ⟨v5, hv5, h⟩ := ob h
          refine c_gI X hP hv5 (Nat.le_of_ble_eq_true rfl) (Nat.le_of_ble_eq_true rfl) rfl w_161 dX1_applying_42 ?_
          refine lv_lshl hx hb dX1_applying_45 rfl ?_
          refine lv_lor hx hb dX1_applying_46 ?_
          refine c_lstore_n hx hb dX1_applying_47 rfl hl (Nat.le_of_ble_eq_true rfl) (lvKa rfl (lvKa rfl (lvKr (lvKa rfl (lvKa rfl lvK0))))) rfl (fun ls (hl : lv_has ls 6 [(3, .long (x3 ||| ((1:Int64) <<< ((v5).toInt64 &&& 63)))), (0, cv Φ (some x0)), (1, cv Φ x1), (2, cv Φ x2), (5, cv Φ x5)]) => ?_)
          exact N_X1_applying_48 X hP hS ih (lv_sub hl [1, 2, 3, 0, 4] rfl) h
set_option maxRecDepth 20000 in
set_option maxHeartbeats 4000000 in
theorem K_X1_applying (l : Launch) (D : cD) (Φ : cG) (σ : cS) (x0 : Nat) (x1 : Option Nat) (x2 : Option Nat) {r : Int64} (h : f_X1_applying x0 x1 x2 σ = some r) : Met l yX1_applying (Cond.code yX1_applying cX1_applying 6 (some .long) :: BG) (rA 1 0 0 22) (cPc D Φ σ [cv Φ (some x0), cv Φ x1, cv Φ x2]) (cQr (some (.long r))) 0 0 (fun _ => False) := by
  refine Met.ofW (cc := cX1_applying) (maxL := 6) (ret := (some .long)) (by decide) rfl ?_
  intro p e s m args below meth c s₁ B hml hv
  obtain ⟨rfl, hP, hK, hZ⟩ := hv
  have X : cX p s m [cv Φ (some x0), cv Φ x1, cv Φ x2].toArray meth c cX1_applying 6 (some .long) RX1 D Φ := cX_of B hml hK hZ
  have hx := X.1
  have hb := X.2.1
  have hown := X.2.2.2.1
  have hts := X.2.2.2.2.1
  have hl := lv_entry [cv Φ (some x0), cv Φ x1, cv Φ x2] (n := 6) (by simp only [lgs_r, lgs_i, lgs_l, lgs_0, List.length]; exact Nat.le_of_ble_eq_true rfl)
  rw [lg_entry_eq]
  generalize (lg_sl [cv Φ (some x0), cv Φ x1, cv Φ x2] ++ List.replicate (6 - (lg_sl [cv Φ (some x0), cv Φ x1, cv Φ x2]).length) Slot.unset).toArray = ls at hl ⊢
  simp only [lv_args_r, lv_args_i, lv_args_l, lv_args_0] at hl
  have hl : lv_has ls 6 [(0, cv Φ (some x0)), (1, cv Φ x1), (2, cv Φ x2)] := hl
  have hS : va_S (cReg Φ) s.heap s.heap [] := va_S.rf
  show cWr p l e 1 22 s m [cv Φ (some x0), cv Φ x1, cv Φ x2].toArray below meth c (some (.long r)) (F0 m 0 ls [])
  have h : ((gR σ (some x0) 1 6).bind (fun v1 => f_X1_applying_8 x0 4000 (x1) (x2) ((0:Int64)) (v1) σ)) = some r := h
  refine lv_lconst (v := (0:Int64)) hx hb dX1_applying_0 (by decide) ?_
  refine c_lstore_n hx hb dX1_applying_1 rfl hl (Nat.le_of_ble_eq_true rfl) (lvKa rfl (lvKa rfl (lvKr lvK0))) rfl (fun ls (hl : lv_has ls 6 [(3, .long (0:Int64)), (0, cv Φ (some x0)), (1, cv Φ x1), (2, cv Φ x2)]) => ?_)
  refine c_aload_n hx hb dX1_applying_2 rfl (lv_at hl 1 rfl) ?_
  obtain ⟨v1, hv1, h⟩ := ob h
  refine c_gR X hP hv1 (Nat.le_of_ble_eq_true rfl) (Nat.le_of_ble_eq_true rfl) rfl w_506 dX1_applying_3 ?_
  refine c_astore hx hb dX1_applying_6 hl (Nat.le_of_ble_eq_true rfl) (lvKa rfl (lvKa rfl (lvKa rfl (lvKa rfl lvK0)))) rfl (fun ls (hl : lv_has ls 6 [(5, cv Φ v1), (3, .long (0:Int64)), (0, cv Φ (some x0)), (1, cv Φ x1), (2, cv Φ x2)]) => ?_)
  exact N_X1_applying_8 X hP hS (lv_sub hl [2, 3, 4, 1, 0] rfl) h
theorem ww_X1_applying : Cond.instanceMethod yX1_applying ∈ BG ∧ Cond.selects (yX1_applying).cls yX1_applying yX1_applying ∈ BG ∧ Cond.initialized (yX1_applying).cls ∈ BG ∧ Cond.code yX1_applying cX1_applying 6 (some .long) ∈ BG := ⟨w_991, w_30, w_64, w_992⟩
theorem hy_X1_applying : (yX1_applying).cls ≠ "java/lang/invoke/MethodHandle" ∧ (yX1_applying).cls ≠ "java/lang/invoke/VarHandle" ∧ (parseMethodDescriptor (yX1_applying).desc).map (fun d => d.parameters.length) = some 2 := ⟨by decide, by decide, by decide +kernel⟩
def f_X6_declares_16  (x0 : Nat) (y0 : Int32) (σ : cS) : Option (Int32) := rz y0
def f_X6_declares (x0 : Nat) (x1 : Int32) (σ : cS) : Option (Int32) := (gI σ (some x0) 6 6).bind (fun v1 => if ((v1 >>> (x1 &&& 31)) &&& (1:Int32)) = (0:Int32) then (f_X6_declares_16 x0 ((0:Int32)) σ) else (f_X6_declares_16 x0 ((1:Int32)) σ))
set_option maxRecDepth 20000 in
set_option maxHeartbeats 4000000 in
theorem N_X6_declares_16 {p : Program} {l : Launch} {e : Env} {s : State} {m : MethodId} {args : Array Value} {below : List Frame} {meth : Method} {c : Code} {D : cD} {Φ : cG} {x0 : Nat}   {y0 : Int32} {σ : cS} {ls : Array Slot} {r : Int32} (X : cX p s m args meth c cX6_declares 2 (some .boolean) RX6 D Φ) (hP : cP D Φ σ s.heap) (hS : va_S (cReg Φ) s.heap s.heap [])  (hl : lv_has ls 2 []) (h : f_X6_declares_16  x0 y0 σ = some r) : cWr p l e 0 0 s m args below meth c (some (.int r)) (F0 m 16 ls [.int y0]) := by
  have hx := X.1
  have hb := X.2.1
  have hown := X.2.2.2.1
  have hts := X.2.2.2.2.1
  have h : (rz y0) = some r := h
  obtain ⟨hz, rfl⟩ := rz_spec h
  exact c_rz X hz dX6_declares_16
set_option maxRecDepth 20000 in
set_option maxHeartbeats 4000000 in
theorem K_X6_declares (l : Launch) (D : cD) (Φ : cG) (σ : cS) (x0 : Nat) (x1 : Int32) {r : Int32} (h : f_X6_declares x0 x1 σ = some r) : Met l yX6_declares (Cond.code yX6_declares cX6_declares 2 (some .boolean) :: BG) (rA 0 0 0 0) (cPc D Φ σ [cv Φ (some x0), .int x1]) (cQr (some (.int r))) 0 0 (fun _ => False) := by
  refine Met.ofW (cc := cX6_declares) (maxL := 2) (ret := (some .boolean)) (by decide) rfl ?_
  intro p e s m args below meth c s₁ B hml hv
  obtain ⟨rfl, hP, hK, hZ⟩ := hv
  have X : cX p s m [cv Φ (some x0), .int x1].toArray meth c cX6_declares 2 (some .boolean) RX6 D Φ := cX_of B hml hK hZ
  have hx := X.1
  have hb := X.2.1
  have hown := X.2.2.2.1
  have hts := X.2.2.2.2.1
  have hl := lv_entry [cv Φ (some x0), .int x1] (n := 2) (by simp only [lgs_r, lgs_i, lgs_l, lgs_0, List.length]; exact Nat.le_of_ble_eq_true rfl)
  rw [lg_entry_eq]
  generalize (lg_sl [cv Φ (some x0), .int x1] ++ List.replicate (2 - (lg_sl [cv Φ (some x0), .int x1]).length) Slot.unset).toArray = ls at hl ⊢
  simp only [lv_args_r, lv_args_i, lv_args_l, lv_args_0] at hl
  have hl : lv_has ls 2 [(0, cv Φ (some x0)), (1, .int x1)] := hl
  have hS : va_S (cReg Φ) s.heap s.heap [] := va_S.rf
  show cWr p l e 0 0 s m [cv Φ (some x0), .int x1].toArray below meth c (some (.int r)) (F0 m 0 ls [])
  have h : ((gI σ (some x0) 6 6).bind (fun v1 => if ((v1 >>> (x1 &&& 31)) &&& (1:Int32)) = (0:Int32) then (f_X6_declares_16 x0 ((0:Int32)) σ) else (f_X6_declares_16 x0 ((1:Int32)) σ))) = some r := h
  refine c_aload_n hx hb dX6_declares_0 rfl (lv_at hl 0 rfl) ?_
  obtain ⟨v1, hv1, h⟩ := ob h
  refine c_gI X hP hv1 (Nat.le_of_ble_eq_true rfl) (Nat.le_of_ble_eq_true rfl) rfl w_173 dX6_declares_1 ?_
  refine lv_iload_n hx hb dX6_declares_4 rfl (lv_at hl 1 rfl) ?_
  refine lv_ishr hx hb dX6_declares_5 ?_
  refine lv_iconst (v := (1:Int32)) hx hb dX6_declares_6 (by decide) ?_
  refine lv_iand hx hb dX6_declares_7 ?_
  refine lv_if_eq (tgt := 15) hx hb dX6_declares_8 rfl (fun hc => ?_) (fun hc => ?_)
  · have h := ip hc h
    refine lv_iconst (v := (0:Int32)) hx hb dX6_declares_15 (by decide) ?_
    exact N_X6_declares_16 X hP hS (lv_sub hl [] rfl) h
  · have h := ine hc h
    refine lv_iconst (v := (1:Int32)) hx hb dX6_declares_11 (by decide) ?_
    refine lv_goto (tgt := 16) hx hb dX6_declares_12 rfl ?_
    exact N_X6_declares_16 X hP hS (lv_sub hl [] rfl) h
theorem ww_X6_declares : Cond.instanceMethod yX6_declares ∈ BG ∧ Cond.selects (yX6_declares).cls yX6_declares yX6_declares ∈ BG ∧ Cond.initialized (yX6_declares).cls ∈ BG ∧ Cond.code yX6_declares cX6_declares 2 (some .boolean) ∈ BG := ⟨w_1002, w_1003, w_60, w_1004⟩
theorem hy_X6_declares : (yX6_declares).cls ≠ "java/lang/invoke/MethodHandle" ∧ (yX6_declares).cls ≠ "java/lang/invoke/VarHandle" ∧ (parseMethodDescriptor (yX6_declares).desc).map (fun d => d.parameters.length) = some 1 := ⟨by decide, by decide, by decide +kernel⟩
def f_X1_precedence_162  (x0 : Nat) (y0 : Int32) (σ : cS) : Option (Int32) := some y0
def f_X1_precedence_149  (x0 : Nat) (x1 : Option Nat) (σ : cS) : Option (Int32) := (gR σ x1 6 1).bind (fun v1 => if v1 = none then (f_X1_precedence_162 x0 ((3:Int32)) σ) else (f_X1_precedence_162 x0 (((-3):Int32)) σ))
def f_X1_precedence_357  (x0 : Nat) (y0 : Int32) (σ : cS) : Option (Int32) := some y0
def f_X1_precedence_338  (x0 : Nat) (y0 : Int32) (σ : cS) : Option (Int32) := some y0
def f_X1_precedence_302  (x0 : Nat) (y0 : Int32) (σ : cS) : Option (Int32) := some y0
def f_X1_precedence_280  (x0 : Nat) (x1 : Option Nat) (x2 : Option Nat) (x10 : Int32) (y0 : Int32) (σ : cS) : Option (Int32) := if x10 = y0 then ((gR σ x1 6 1).bind (fun v1 => (gR σ x2 6 1).bind (fun v2 => if v1 = v2 then ((gI σ x1 6 0).bind (fun v3 => (gI σ x2 6 0).bind (fun v4 => if v3 ≤ v4 then (f_X1_precedence_357 x0 (((-6):Int32)) σ) else (f_X1_precedence_357 x0 ((6:Int32)) σ)))) else ((gR σ x1 6 1).bind (fun v5 => (gI σ v5 8 0).bind (fun v6 => (gR σ x2 6 1).bind (fun v7 => (gI σ v7 8 0).bind (fun v8 => if v6 ≤ v8 then (f_X1_precedence_338 x0 (((-6):Int32)) σ) else (f_X1_precedence_338 x0 ((6:Int32)) σ))))))))) else (if x10 ≤ y0 then (f_X1_precedence_302 x0 (((-5):Int32)) σ) else (f_X1_precedence_302 x0 ((5:Int32)) σ))
def f_X1_precedence_260  (x0 : Nat) (x1 : Option Nat) (x2 : Option Nat) (y0 : Int32) (σ : cS) : Option (Int32) := (gR σ x2 6 2).bind (fun v1 => if v1 = none then (f_X1_precedence_280 x0 (x1) (x2) (y0) ((0:Int32)) σ) else ((gR σ x2 6 2).bind (fun v2 => (gI σ v2 7 6).bind (fun v3 => f_X1_precedence_280 x0 (x1) (x2) (y0) (v3) σ))))
def f_X1_precedence_241  (x0 : Nat) (y0 : Int32) (σ : cS) : Option (Int32) := some y0
def f_X1_precedence_230  (x0 : Nat) (x4 : Int32) (y0 : Int32) (σ : cS) : Option (Int32) := if y0 = x4 then (f_X1_precedence_241 x0 (((-4):Int32)) σ) else (f_X1_precedence_241 x0 ((4:Int32)) σ)
def f_X1_precedence_209  (x0 : Nat) (x1 : Option Nat) (x2 : Option Nat) (x4 : Int32) (x8 : Int32) (y0 : Int32) (σ : cS) : Option (Int32) := if x8 = y0 then ((gR σ x1 6 2).bind (fun v1 => if v1 = none then (f_X1_precedence_260 x0 (x1) (x2) ((0:Int32)) σ) else ((gR σ x1 6 2).bind (fun v2 => (gI σ v2 7 6).bind (fun v3 => f_X1_precedence_260 x0 (x1) (x2) (v3) σ))))) else (if x8 ≤ y0 then (f_X1_precedence_230 x0 (x4) ((0:Int32)) σ) else (f_X1_precedence_230 x0 (x4) ((1:Int32)) σ))
def f_X1_precedence_185  (x0 : Nat) (x1 : Option Nat) (x2 : Option Nat) (x4 : Int32) (y0 : Int32) (σ : cS) : Option (Int32) := (gR σ x2 6 1).bind (fun v1 => (gI σ v1 8 3).bind (fun v2 => if v2 = ((-1):Int32) then (f_X1_precedence_209 x0 (x1) (x2) (x4) (y0) ((4:Int32)) σ) else ((gR σ x2 6 1).bind (fun v3 => (gI σ v3 8 3).bind (fun v4 => f_X1_precedence_209 x0 (x1) (x2) (x4) (y0) (v4) σ)))))
def f_X1_precedence_134  (x0 : Nat) (y0 : Int32) (σ : cS) : Option (Int32) := some y0
def f_X1_precedence_123  (x0 : Nat) (x4 : Int32) (y0 : Int32) (σ : cS) : Option (Int32) := if y0 = x4 then (f_X1_precedence_134 x0 (((-2):Int32)) σ) else (f_X1_precedence_134 x0 ((2:Int32)) σ)
def f_X1_precedence_95  (x0 : Nat) (y0 : Int32) (σ : cS) : Option (Int32) := some y0
def f_X1_precedence_74  (x0 : Nat) (x1 : Option Nat) (x2 : Option Nat) (x4 : Int32) (x6 : Int32) (y0 : Int32) (σ : cS) : Option (Int32) := if x6 = y0 then ((gI σ x1 6 12).bind (fun v1 => (gI σ x2 6 12).bind (fun v2 => if v1 = v2 then ((gR σ x1 6 1).bind (fun v3 => if v3 = none then (f_X1_precedence_149 x0 (x1) σ) else ((gR σ x2 6 1).bind (fun v4 => if v4 = none then (f_X1_precedence_149 x0 (x1) σ) else ((gR σ x1 6 1).bind (fun v5 => (gI σ v5 8 3).bind (fun v6 => if v6 = ((-1):Int32) then (f_X1_precedence_185 x0 (x1) (x2) (x4) ((4:Int32)) σ) else ((gR σ x1 6 1).bind (fun v7 => (gI σ v7 8 3).bind (fun v8 => f_X1_precedence_185 x0 (x1) (x2) (x4) (v8) σ)))))))))) else ((gI σ x1 6 12).bind (fun v9 => (gI σ x2 6 12).bind (fun v10 => if v10 ≤ v9 then (f_X1_precedence_123 x0 (x4) ((0:Int32)) σ) else (f_X1_precedence_123 x0 (x4) ((1:Int32)) σ))))))) else (if x6 ≤ y0 then (f_X1_precedence_95 x0 (((-1):Int32)) σ) else (f_X1_precedence_95 x0 ((1:Int32)) σ))
def f_X1_precedence_54  (x0 : Nat) (x1 : Option Nat) (x2 : Option Nat) (x4 : Int32) (x5 : Int32) (y0 : Int32) (σ : cS) : Option (Int32) := if x5 = (0:Int32) then ((gI σ x2 6 3).bind (fun v1 => f_X1_precedence_74 x0 (x1) (x2) (x4) (y0) (v1) σ)) else ((gI σ x2 6 3).bind (fun v2 => f_X1_precedence_74 x0 (x1) (x2) (x4) (y0) (((5:Int32) - v2)) σ))
def f_X1_precedence_34  (x0 : Nat) (x1 : Option Nat) (x2 : Option Nat) (x4 : Int32) (y0 : Int32) (σ : cS) : Option (Int32) := if x4 = (0:Int32) then ((gI σ x1 6 3).bind (fun v1 => f_X1_precedence_54 x0 (x1) (x2) (x4) (y0) (v1) σ)) else ((gI σ x1 6 3).bind (fun v2 => f_X1_precedence_54 x0 (x1) (x2) (x4) (y0) (((5:Int32) - v2)) σ))
def f_X1_precedence_16  (x0 : Nat) (x1 : Option Nat) (x2 : Option Nat) (x3 : Int32) (y0 : Int32) (σ : cS) : Option (Int32) := (gI σ x2 6 7).bind (fun v1 => if ((v1 >>> (x3 &&& 31)) &&& (1:Int32)) = (0:Int32) then (f_X1_precedence_34 x0 (x1) (x2) (y0) ((0:Int32)) σ) else (f_X1_precedence_34 x0 (x1) (x2) (y0) ((1:Int32)) σ))
def f_X1_precedence (x0 : Nat) (x1 : Option Nat) (x2 : Option Nat) (x3 : Int32) (σ : cS) : Option (Int32) := (gI σ x1 6 7).bind (fun v1 => if ((v1 >>> (x3 &&& 31)) &&& (1:Int32)) = (0:Int32) then (f_X1_precedence_16 x0 (x1) (x2) (x3) ((0:Int32)) σ) else (f_X1_precedence_16 x0 (x1) (x2) (x3) ((1:Int32)) σ))
set_option maxRecDepth 20000 in
set_option maxHeartbeats 4000000 in
theorem N_X1_precedence_162 {p : Program} {l : Launch} {e : Env} {s : State} {m : MethodId} {args : Array Value} {below : List Frame} {meth : Method} {c : Code} {D : cD} {Φ : cG} {x0 : Nat}   {y0 : Int32} {σ : cS} {ls : Array Slot} {r : Int32} (X : cX p s m args meth c cX1_precedence 12 (some .int) RX1 D Φ) (hP : cP D Φ σ s.heap) (hS : va_S (cReg Φ) s.heap s.heap [])  (hl : lv_has ls 12 []) (h : f_X1_precedence_162  x0 y0 σ = some r) : cWr p l e 0 0 s m args below meth c (some (.int r)) (F0 m 162 ls [.int y0]) := by
  have hx := X.1
  have hb := X.2.1
  have hown := X.2.2.2.1
  have hts := X.2.2.2.2.1
  have h : (some y0) = some r := h
  obtain rfl := sj h
  exact c_ri X dX1_precedence_162
set_option maxRecDepth 20000 in
set_option maxHeartbeats 4000000 in
theorem N_X1_precedence_149 {p : Program} {l : Launch} {e : Env} {s : State} {m : MethodId} {args : Array Value} {below : List Frame} {meth : Method} {c : Code} {D : cD} {Φ : cG} {x0 : Nat}   {x1 : Option Nat} {σ : cS} {ls : Array Slot} {r : Int32} (X : cX p s m args meth c cX1_precedence 12 (some .int) RX1 D Φ) (hP : cP D Φ σ s.heap) (hS : va_S (cReg Φ) s.heap s.heap [])  (hl : lv_has ls 12 [(1, cv Φ x1)]) (h : f_X1_precedence_149  x0 x1 σ = some r) : cWr p l e 0 0 s m args below meth c (some (.int r)) (F0 m 149 ls []) := by
  have hx := X.1
  have hb := X.2.1
  have hown := X.2.2.2.1
  have hts := X.2.2.2.2.1
  have h : ((gR σ x1 6 1).bind (fun v1 => if v1 = none then (f_X1_precedence_162 x0 ((3:Int32)) σ) else (f_X1_precedence_162 x0 (((-3):Int32)) σ))) = some r := h
  refine c_aload_n hx hb dX1_precedence_149 rfl (lv_at hl 0 rfl) ?_
  obtain ⟨v1, hv1, h⟩ := ob h
  refine c_gR X hP hv1 (Nat.le_of_ble_eq_true rfl) (Nat.le_of_ble_eq_true rfl) rfl w_163 dX1_precedence_150 ?_
  refine c_ifnonnull (Φ := Φ) (tgt := 160) hx hb dX1_precedence_153 rfl (fun hc => ?_) (fun hc => ?_)
  · have h := ine hc h
    refine lv_bipush (v := ((-3):Int32)) hx hb dX1_precedence_160 (by decide) ?_
    exact N_X1_precedence_162 X hP hS (lv_sub hl [] rfl) h
  · have h := ip hc h
    refine lv_iconst (v := (3:Int32)) hx hb dX1_precedence_156 (by decide) ?_
    refine lv_goto (tgt := 162) hx hb dX1_precedence_157 rfl ?_
    exact N_X1_precedence_162 X hP hS (lv_sub hl [] rfl) h
set_option maxRecDepth 20000 in
set_option maxHeartbeats 4000000 in
theorem N_X1_precedence_357 {p : Program} {l : Launch} {e : Env} {s : State} {m : MethodId} {args : Array Value} {below : List Frame} {meth : Method} {c : Code} {D : cD} {Φ : cG} {x0 : Nat}   {y0 : Int32} {σ : cS} {ls : Array Slot} {r : Int32} (X : cX p s m args meth c cX1_precedence 12 (some .int) RX1 D Φ) (hP : cP D Φ σ s.heap) (hS : va_S (cReg Φ) s.heap s.heap [])  (hl : lv_has ls 12 []) (h : f_X1_precedence_357  x0 y0 σ = some r) : cWr p l e 0 0 s m args below meth c (some (.int r)) (F0 m 357 ls [.int y0]) := by
  have hx := X.1
  have hb := X.2.1
  have hown := X.2.2.2.1
  have hts := X.2.2.2.2.1
  have h : (some y0) = some r := h
  obtain rfl := sj h
  exact c_ri X dX1_precedence_357
set_option maxRecDepth 20000 in
set_option maxHeartbeats 4000000 in
theorem N_X1_precedence_338 {p : Program} {l : Launch} {e : Env} {s : State} {m : MethodId} {args : Array Value} {below : List Frame} {meth : Method} {c : Code} {D : cD} {Φ : cG} {x0 : Nat}   {y0 : Int32} {σ : cS} {ls : Array Slot} {r : Int32} (X : cX p s m args meth c cX1_precedence 12 (some .int) RX1 D Φ) (hP : cP D Φ σ s.heap) (hS : va_S (cReg Φ) s.heap s.heap [])  (hl : lv_has ls 12 []) (h : f_X1_precedence_338  x0 y0 σ = some r) : cWr p l e 0 0 s m args below meth c (some (.int r)) (F0 m 338 ls [.int y0]) := by
  have hx := X.1
  have hb := X.2.1
  have hown := X.2.2.2.1
  have hts := X.2.2.2.2.1
  have h : (some y0) = some r := h
  obtain rfl := sj h
  exact c_ri X dX1_precedence_338
set_option maxRecDepth 20000 in
set_option maxHeartbeats 4000000 in
theorem N_X1_precedence_302 {p : Program} {l : Launch} {e : Env} {s : State} {m : MethodId} {args : Array Value} {below : List Frame} {meth : Method} {c : Code} {D : cD} {Φ : cG} {x0 : Nat}   {y0 : Int32} {σ : cS} {ls : Array Slot} {r : Int32} (X : cX p s m args meth c cX1_precedence 12 (some .int) RX1 D Φ) (hP : cP D Φ σ s.heap) (hS : va_S (cReg Φ) s.heap s.heap [])  (hl : lv_has ls 12 []) (h : f_X1_precedence_302  x0 y0 σ = some r) : cWr p l e 0 0 s m args below meth c (some (.int r)) (F0 m 302 ls [.int y0]) := by
  have hx := X.1
  have hb := X.2.1
  have hown := X.2.2.2.1
  have hts := X.2.2.2.2.1
  have h : (some y0) = some r := h
  obtain rfl := sj h
  exact c_ri X dX1_precedence_302
set_option maxRecDepth 20000 in
set_option maxHeartbeats 4000000 in
theorem N_X1_precedence_280 {p : Program} {l : Launch} {e : Env} {s : State} {m : MethodId} {args : Array Value} {below : List Frame} {meth : Method} {c : Code} {D : cD} {Φ : cG} {x0 : Nat}   {x1 : Option Nat} {x2 : Option Nat} {x10 : Int32} {y0 : Int32} {σ : cS} {ls : Array Slot} {r : Int32} (X : cX p s m args meth c cX1_precedence 12 (some .int) RX1 D Φ) (hP : cP D Φ σ s.heap) (hS : va_S (cReg Φ) s.heap s.heap [])  (hl : lv_has ls 12 [(1, cv Φ x1), (2, cv Φ x2), (10, .int x10)]) (h : f_X1_precedence_280  x0 x1 x2 x10 y0 σ = some r) : cWr p l e 0 0 s m args below meth c (some (.int r)) (F0 m 280 ls [.int y0]) := by
  have hx := X.1
  have hb := X.2.1
  have hown := X.2.2.2.1
  have hts := X.2.2.2.2.1
  have h : (if x10 = y0 then ((gR σ x1 6 1).bind (fun v1 => (gR σ x2 6 1).bind (fun v2 => if v1 = v2 then ((gI σ x1 6 0).bind (fun v3 => (gI σ x2 6 0).bind (fun v4 => if v3 ≤ v4 then (f_X1_precedence_357 x0 (((-6):Int32)) σ) else (f_X1_precedence_357 x0 ((6:Int32)) σ)))) else ((gR σ x1 6 1).bind (fun v5 => (gI σ v5 8 0).bind (fun v6 => (gR σ x2 6 1).bind (fun v7 => (gI σ v7 8 0).bind (fun v8 => if v6 ≤ v8 then (f_X1_precedence_338 x0 (((-6):Int32)) σ) else (f_X1_precedence_338 x0 ((6:Int32)) σ))))))))) else (if x10 ≤ y0 then (f_X1_precedence_302 x0 (((-5):Int32)) σ) else (f_X1_precedence_302 x0 ((5:Int32)) σ))) = some r := h
  refine c_istore hx hb dX1_precedence_280 hl (Nat.le_of_ble_eq_true rfl) (lvKa rfl (lvKa rfl (lvKi lvK0))) rfl (fun ls (hl : lv_has ls 12 [(11, .int y0), (1, cv Φ x1), (2, cv Φ x2), (10, .int x10)]) => ?_)
  refine lv_iload hx hb dX1_precedence_282 (lv_at hl 3 rfl) ?_
  refine lv_iload hx hb dX1_precedence_284 (lv_at hl 0 rfl) ?_
  refine lv_icmp_eq (tgt := 303) hx hb dX1_precedence_286 rfl (fun hc => ?_) (fun hc => ?_)
  · have h := ip hc h
    refine c_aload_n hx hb dX1_precedence_303 rfl (lv_at hl 1 rfl) ?_
    obtain ⟨v1, hv1, h⟩ := ob h
    refine c_gR X hP hv1 (Nat.le_of_ble_eq_true rfl) (Nat.le_of_ble_eq_true rfl) rfl w_163 dX1_precedence_304 ?_
    refine c_aload_n hx hb dX1_precedence_307 rfl (lv_at hl 2 rfl) ?_
    obtain ⟨v2, hv2, h⟩ := ob h
    refine c_gR X hP hv2 (Nat.le_of_ble_eq_true rfl) (Nat.le_of_ble_eq_true rfl) rfl w_163 dX1_precedence_308 ?_
    refine c_acmp_eq (tgt := 339) X hP dX1_precedence_311 rfl (fun hc => ?_) (fun hc => ?_)
    · have h := ip hc h
      refine c_aload_n hx hb dX1_precedence_339 rfl (lv_at hl 1 rfl) ?_
      obtain ⟨v3, hv3, h⟩ := ob h
      refine c_gI X hP hv3 (Nat.le_of_ble_eq_true rfl) (Nat.le_of_ble_eq_true rfl) rfl w_161 dX1_precedence_340 ?_
      refine c_aload_n hx hb dX1_precedence_343 rfl (lv_at hl 2 rfl) ?_
      obtain ⟨v4, hv4, h⟩ := ob h
      refine c_gI X hP hv4 (Nat.le_of_ble_eq_true rfl) (Nat.le_of_ble_eq_true rfl) rfl w_161 dX1_precedence_344 ?_
      refine lv_icmp_le (tgt := 355) hx hb dX1_precedence_347 rfl (fun hc => ?_) (fun hc => ?_)
      · have h := ip hc h
        refine lv_bipush (v := ((-6):Int32)) hx hb dX1_precedence_355 (by decide) ?_
        exact N_X1_precedence_357 X hP hS (lv_sub hl [] rfl) h
      · have h := ine hc h
        refine lv_bipush (v := (6:Int32)) hx hb dX1_precedence_350 (by decide) ?_
        refine lv_goto (tgt := 357) hx hb dX1_precedence_352 rfl ?_
        exact N_X1_precedence_357 X hP hS (lv_sub hl [] rfl) h
    · have h := ine hc h
      refine c_aload_n hx hb dX1_precedence_314 rfl (lv_at hl 1 rfl) ?_
      obtain ⟨v5, hv5, h⟩ := ob h
      refine c_gR X hP hv5 (Nat.le_of_ble_eq_true rfl) (Nat.le_of_ble_eq_true rfl) rfl w_163 dX1_precedence_315 ?_
      obtain ⟨v6, hv6, h⟩ := ob h
      refine c_gI X hP hv6 (Nat.le_of_ble_eq_true rfl) (Nat.le_of_ble_eq_true rfl) rfl w_1259 dX1_precedence_318 ?_
      refine c_aload_n hx hb dX1_precedence_321 rfl (lv_at hl 2 rfl) ?_
      obtain ⟨v7, hv7, h⟩ := ob h
      refine c_gR X hP hv7 (Nat.le_of_ble_eq_true rfl) (Nat.le_of_ble_eq_true rfl) rfl w_163 dX1_precedence_322 ?_
      obtain ⟨v8, hv8, h⟩ := ob h
      refine c_gI X hP hv8 (Nat.le_of_ble_eq_true rfl) (Nat.le_of_ble_eq_true rfl) rfl w_1259 dX1_precedence_325 ?_
      refine lv_icmp_le (tgt := 336) hx hb dX1_precedence_328 rfl (fun hc => ?_) (fun hc => ?_)
      · have h := ip hc h
        refine lv_bipush (v := ((-6):Int32)) hx hb dX1_precedence_336 (by decide) ?_
        exact N_X1_precedence_338 X hP hS (lv_sub hl [] rfl) h
      · have h := ine hc h
        refine lv_bipush (v := (6:Int32)) hx hb dX1_precedence_331 (by decide) ?_
        refine lv_goto (tgt := 338) hx hb dX1_precedence_333 rfl ?_
        exact N_X1_precedence_338 X hP hS (lv_sub hl [] rfl) h
  · have h := ine hc h
    refine lv_iload hx hb dX1_precedence_289 (lv_at hl 3 rfl) ?_
    refine lv_iload hx hb dX1_precedence_291 (lv_at hl 0 rfl) ?_
    refine lv_icmp_le (tgt := 300) hx hb dX1_precedence_293 rfl (fun hc => ?_) (fun hc => ?_)
    · have h := ip hc h
      refine lv_bipush (v := ((-5):Int32)) hx hb dX1_precedence_300 (by decide) ?_
      exact N_X1_precedence_302 X hP hS (lv_sub hl [] rfl) h
    · have h := ine hc h
      refine lv_iconst (v := (5:Int32)) hx hb dX1_precedence_296 (by decide) ?_
      refine lv_goto (tgt := 302) hx hb dX1_precedence_297 rfl ?_
      exact N_X1_precedence_302 X hP hS (lv_sub hl [] rfl) h
set_option maxRecDepth 20000 in
set_option maxHeartbeats 4000000 in
theorem N_X1_precedence_260 {p : Program} {l : Launch} {e : Env} {s : State} {m : MethodId} {args : Array Value} {below : List Frame} {meth : Method} {c : Code} {D : cD} {Φ : cG} {x0 : Nat}   {x1 : Option Nat} {x2 : Option Nat} {y0 : Int32} {σ : cS} {ls : Array Slot} {r : Int32} (X : cX p s m args meth c cX1_precedence 12 (some .int) RX1 D Φ) (hP : cP D Φ σ s.heap) (hS : va_S (cReg Φ) s.heap s.heap [])  (hl : lv_has ls 12 [(1, cv Φ x1), (2, cv Φ x2)]) (h : f_X1_precedence_260  x0 x1 x2 y0 σ = some r) : cWr p l e 0 0 s m args below meth c (some (.int r)) (F0 m 260 ls [.int y0]) := by
  have hx := X.1
  have hb := X.2.1
  have hown := X.2.2.2.1
  have hts := X.2.2.2.2.1
  have h : ((gR σ x2 6 2).bind (fun v1 => if v1 = none then (f_X1_precedence_280 x0 (x1) (x2) (y0) ((0:Int32)) σ) else ((gR σ x2 6 2).bind (fun v2 => (gI σ v2 7 6).bind (fun v3 => f_X1_precedence_280 x0 (x1) (x2) (y0) (v3) σ))))) = some r := h
  refine c_istore hx hb dX1_precedence_260 hl (Nat.le_of_ble_eq_true rfl) (lvKa rfl (lvKa rfl lvK0)) rfl (fun ls (hl : lv_has ls 12 [(10, .int y0), (1, cv Φ x1), (2, cv Φ x2)]) => ?_)
  refine c_aload_n hx hb dX1_precedence_262 rfl (lv_at hl 2 rfl) ?_
  obtain ⟨v1, hv1, h⟩ := ob h
  refine c_gR X hP hv1 (Nat.le_of_ble_eq_true rfl) (Nat.le_of_ble_eq_true rfl) rfl w_165 dX1_precedence_263 ?_
  refine c_ifnonnull (Φ := Φ) (tgt := 273) hx hb dX1_precedence_266 rfl (fun hc => ?_) (fun hc => ?_)
  · have h := ine hc h
    refine c_aload_n hx hb dX1_precedence_273 rfl (lv_at hl 2 rfl) ?_
    obtain ⟨v2, hv2, h⟩ := ob h
    refine c_gR X hP hv2 (Nat.le_of_ble_eq_true rfl) (Nat.le_of_ble_eq_true rfl) rfl w_165 dX1_precedence_274 ?_
    obtain ⟨v3, hv3, h⟩ := ob h
    refine c_gI X hP hv3 (Nat.le_of_ble_eq_true rfl) (Nat.le_of_ble_eq_true rfl) rfl w_422 dX1_precedence_277 ?_
    exact N_X1_precedence_280 X hP hS (lv_sub hl [1, 2, 0] rfl) h
  · have h := ip hc h
    refine lv_iconst (v := (0:Int32)) hx hb dX1_precedence_269 (by decide) ?_
    refine lv_goto (tgt := 280) hx hb dX1_precedence_270 rfl ?_
    exact N_X1_precedence_280 X hP hS (lv_sub hl [1, 2, 0] rfl) h
set_option maxRecDepth 20000 in
set_option maxHeartbeats 4000000 in
theorem N_X1_precedence_241 {p : Program} {l : Launch} {e : Env} {s : State} {m : MethodId} {args : Array Value} {below : List Frame} {meth : Method} {c : Code} {D : cD} {Φ : cG} {x0 : Nat}   {y0 : Int32} {σ : cS} {ls : Array Slot} {r : Int32} (X : cX p s m args meth c cX1_precedence 12 (some .int) RX1 D Φ) (hP : cP D Φ σ s.heap) (hS : va_S (cReg Φ) s.heap s.heap [])  (hl : lv_has ls 12 []) (h : f_X1_precedence_241  x0 y0 σ = some r) : cWr p l e 0 0 s m args below meth c (some (.int r)) (F0 m 241 ls [.int y0]) := by
  have hx := X.1
  have hb := X.2.1
  have hown := X.2.2.2.1
  have hts := X.2.2.2.2.1
  have h : (some y0) = some r := h
  obtain rfl := sj h
  exact c_ri X dX1_precedence_241
set_option maxRecDepth 20000 in
set_option maxHeartbeats 4000000 in
theorem N_X1_precedence_230 {p : Program} {l : Launch} {e : Env} {s : State} {m : MethodId} {args : Array Value} {below : List Frame} {meth : Method} {c : Code} {D : cD} {Φ : cG} {x0 : Nat}   {x4 : Int32} {y0 : Int32} {σ : cS} {ls : Array Slot} {r : Int32} (X : cX p s m args meth c cX1_precedence 12 (some .int) RX1 D Φ) (hP : cP D Φ σ s.heap) (hS : va_S (cReg Φ) s.heap s.heap [])  (hl : lv_has ls 12 [(4, .int x4)]) (h : f_X1_precedence_230  x0 x4 y0 σ = some r) : cWr p l e 0 0 s m args below meth c (some (.int r)) (F0 m 230 ls [.int y0]) := by
  have hx := X.1
  have hb := X.2.1
  have hown := X.2.2.2.1
  have hts := X.2.2.2.2.1
  have h : (if y0 = x4 then (f_X1_precedence_241 x0 (((-4):Int32)) σ) else (f_X1_precedence_241 x0 ((4:Int32)) σ)) = some r := h
  refine lv_iload hx hb dX1_precedence_230 (lv_at hl 0 rfl) ?_
  refine lv_icmp_eq (tgt := 239) hx hb dX1_precedence_232 rfl (fun hc => ?_) (fun hc => ?_)
  · have h := ip hc h
    refine lv_bipush (v := ((-4):Int32)) hx hb dX1_precedence_239 (by decide) ?_
    exact N_X1_precedence_241 X hP hS (lv_sub hl [] rfl) h
  · have h := ine hc h
    refine lv_iconst (v := (4:Int32)) hx hb dX1_precedence_235 (by decide) ?_
    refine lv_goto (tgt := 241) hx hb dX1_precedence_236 rfl ?_
    exact N_X1_precedence_241 X hP hS (lv_sub hl [] rfl) h
set_option maxRecDepth 20000 in
set_option maxHeartbeats 4000000 in
theorem N_X1_precedence_209 {p : Program} {l : Launch} {e : Env} {s : State} {m : MethodId} {args : Array Value} {below : List Frame} {meth : Method} {c : Code} {D : cD} {Φ : cG} {x0 : Nat}   {x1 : Option Nat} {x2 : Option Nat} {x4 : Int32} {x8 : Int32} {y0 : Int32} {σ : cS} {ls : Array Slot} {r : Int32} (X : cX p s m args meth c cX1_precedence 12 (some .int) RX1 D Φ) (hP : cP D Φ σ s.heap) (hS : va_S (cReg Φ) s.heap s.heap [])  (hl : lv_has ls 12 [(1, cv Φ x1), (2, cv Φ x2), (4, .int x4), (8, .int x8)]) (h : f_X1_precedence_209  x0 x1 x2 x4 x8 y0 σ = some r) : cWr p l e 0 0 s m args below meth c (some (.int r)) (F0 m 209 ls [.int y0]) := by
  have hx := X.1
  have hb := X.2.1
  have hown := X.2.2.2.1
  have hts := X.2.2.2.2.1
  have h : (if x8 = y0 then ((gR σ x1 6 2).bind (fun v1 => if v1 = none then (f_X1_precedence_260 x0 (x1) (x2) ((0:Int32)) σ) else ((gR σ x1 6 2).bind (fun v2 => (gI σ v2 7 6).bind (fun v3 => f_X1_precedence_260 x0 (x1) (x2) (v3) σ))))) else (if x8 ≤ y0 then (f_X1_precedence_230 x0 (x4) ((0:Int32)) σ) else (f_X1_precedence_230 x0 (x4) ((1:Int32)) σ))) = some r := h
  refine c_istore hx hb dX1_precedence_209 hl (Nat.le_of_ble_eq_true rfl) (lvKa rfl (lvKa rfl (lvKa rfl (lvKi lvK0)))) rfl (fun ls (hl : lv_has ls 12 [(9, .int y0), (1, cv Φ x1), (2, cv Φ x2), (4, .int x4), (8, .int x8)]) => ?_)
  refine lv_iload hx hb dX1_precedence_211 (lv_at hl 4 rfl) ?_
  refine lv_iload hx hb dX1_precedence_213 (lv_at hl 0 rfl) ?_
  refine lv_icmp_eq (tgt := 242) hx hb dX1_precedence_215 rfl (fun hc => ?_) (fun hc => ?_)
  · have h := ip hc h
    refine c_aload_n hx hb dX1_precedence_242 rfl (lv_at hl 1 rfl) ?_
    obtain ⟨v1, hv1, h⟩ := ob h
    refine c_gR X hP hv1 (Nat.le_of_ble_eq_true rfl) (Nat.le_of_ble_eq_true rfl) rfl w_165 dX1_precedence_243 ?_
    refine c_ifnonnull (Φ := Φ) (tgt := 253) hx hb dX1_precedence_246 rfl (fun hc => ?_) (fun hc => ?_)
    · have h := ine hc h
      refine c_aload_n hx hb dX1_precedence_253 rfl (lv_at hl 1 rfl) ?_
      obtain ⟨v2, hv2, h⟩ := ob h
      refine c_gR X hP hv2 (Nat.le_of_ble_eq_true rfl) (Nat.le_of_ble_eq_true rfl) rfl w_165 dX1_precedence_254 ?_
      obtain ⟨v3, hv3, h⟩ := ob h
      refine c_gI X hP hv3 (Nat.le_of_ble_eq_true rfl) (Nat.le_of_ble_eq_true rfl) rfl w_422 dX1_precedence_257 ?_
      exact N_X1_precedence_260 X hP hS (lv_sub hl [1, 2] rfl) h
    · have h := ip hc h
      refine lv_iconst (v := (0:Int32)) hx hb dX1_precedence_249 (by decide) ?_
      refine lv_goto (tgt := 260) hx hb dX1_precedence_250 rfl ?_
      exact N_X1_precedence_260 X hP hS (lv_sub hl [1, 2] rfl) h
  · have h := ine hc h
    refine lv_iload hx hb dX1_precedence_218 (lv_at hl 4 rfl) ?_
    refine lv_iload hx hb dX1_precedence_220 (lv_at hl 0 rfl) ?_
    refine lv_icmp_le (tgt := 229) hx hb dX1_precedence_222 rfl (fun hc => ?_) (fun hc => ?_)
    · have h := ip hc h
      refine lv_iconst (v := (0:Int32)) hx hb dX1_precedence_229 (by decide) ?_
      exact N_X1_precedence_230 X hP hS (lv_sub hl [3] rfl) h
    · have h := ine hc h
      refine lv_iconst (v := (1:Int32)) hx hb dX1_precedence_225 (by decide) ?_
      refine lv_goto (tgt := 230) hx hb dX1_precedence_226 rfl ?_
      exact N_X1_precedence_230 X hP hS (lv_sub hl [3] rfl) h
set_option maxRecDepth 20000 in
set_option maxHeartbeats 4000000 in
theorem N_X1_precedence_185 {p : Program} {l : Launch} {e : Env} {s : State} {m : MethodId} {args : Array Value} {below : List Frame} {meth : Method} {c : Code} {D : cD} {Φ : cG} {x0 : Nat}   {x1 : Option Nat} {x2 : Option Nat} {x4 : Int32} {y0 : Int32} {σ : cS} {ls : Array Slot} {r : Int32} (X : cX p s m args meth c cX1_precedence 12 (some .int) RX1 D Φ) (hP : cP D Φ σ s.heap) (hS : va_S (cReg Φ) s.heap s.heap [])  (hl : lv_has ls 12 [(1, cv Φ x1), (2, cv Φ x2), (4, .int x4)]) (h : f_X1_precedence_185  x0 x1 x2 x4 y0 σ = some r) : cWr p l e 0 0 s m args below meth c (some (.int r)) (F0 m 185 ls [.int y0]) := by
  have hx := X.1
  have hb := X.2.1
  have hown := X.2.2.2.1
  have hts := X.2.2.2.2.1
  have h : ((gR σ x2 6 1).bind (fun v1 => (gI σ v1 8 3).bind (fun v2 => if v2 = ((-1):Int32) then (f_X1_precedence_209 x0 (x1) (x2) (x4) (y0) ((4:Int32)) σ) else ((gR σ x2 6 1).bind (fun v3 => (gI σ v3 8 3).bind (fun v4 => f_X1_precedence_209 x0 (x1) (x2) (x4) (y0) (v4) σ)))))) = some r := h
  refine c_istore hx hb dX1_precedence_185 hl (Nat.le_of_ble_eq_true rfl) (lvKa rfl (lvKa rfl (lvKa rfl lvK0))) rfl (fun ls (hl : lv_has ls 12 [(8, .int y0), (1, cv Φ x1), (2, cv Φ x2), (4, .int x4)]) => ?_)
  refine c_aload_n hx hb dX1_precedence_187 rfl (lv_at hl 2 rfl) ?_
  obtain ⟨v1, hv1, h⟩ := ob h
  refine c_gR X hP hv1 (Nat.le_of_ble_eq_true rfl) (Nat.le_of_ble_eq_true rfl) rfl w_163 dX1_precedence_188 ?_
  obtain ⟨v2, hv2, h⟩ := ob h
  refine c_gI X hP hv2 (Nat.le_of_ble_eq_true rfl) (Nat.le_of_ble_eq_true rfl) rfl w_1265 dX1_precedence_191 ?_
  refine lv_iconst (v := ((-1):Int32)) hx hb dX1_precedence_194 (by decide) ?_
  refine lv_icmp_ne (tgt := 202) hx hb dX1_precedence_195 rfl (fun hc => ?_) (fun hc => ?_)
  · have h := ine hc h
    refine c_aload_n hx hb dX1_precedence_202 rfl (lv_at hl 2 rfl) ?_
    obtain ⟨v3, hv3, h⟩ := ob h
    refine c_gR X hP hv3 (Nat.le_of_ble_eq_true rfl) (Nat.le_of_ble_eq_true rfl) rfl w_163 dX1_precedence_203 ?_
    obtain ⟨v4, hv4, h⟩ := ob h
    refine c_gI X hP hv4 (Nat.le_of_ble_eq_true rfl) (Nat.le_of_ble_eq_true rfl) rfl w_1265 dX1_precedence_206 ?_
    exact N_X1_precedence_209 X hP hS (lv_sub hl [1, 2, 3, 0] rfl) h
  · have h := ip hc h
    refine lv_iconst (v := (4:Int32)) hx hb dX1_precedence_198 (by decide) ?_
    refine lv_goto (tgt := 209) hx hb dX1_precedence_199 rfl ?_
    exact N_X1_precedence_209 X hP hS (lv_sub hl [1, 2, 3, 0] rfl) h
set_option maxRecDepth 20000 in
set_option maxHeartbeats 4000000 in
theorem N_X1_precedence_134 {p : Program} {l : Launch} {e : Env} {s : State} {m : MethodId} {args : Array Value} {below : List Frame} {meth : Method} {c : Code} {D : cD} {Φ : cG} {x0 : Nat}   {y0 : Int32} {σ : cS} {ls : Array Slot} {r : Int32} (X : cX p s m args meth c cX1_precedence 12 (some .int) RX1 D Φ) (hP : cP D Φ σ s.heap) (hS : va_S (cReg Φ) s.heap s.heap [])  (hl : lv_has ls 12 []) (h : f_X1_precedence_134  x0 y0 σ = some r) : cWr p l e 0 0 s m args below meth c (some (.int r)) (F0 m 134 ls [.int y0]) := by
  have hx := X.1
  have hb := X.2.1
  have hown := X.2.2.2.1
  have hts := X.2.2.2.2.1
  have h : (some y0) = some r := h
  obtain rfl := sj h
  exact c_ri X dX1_precedence_134
set_option maxRecDepth 20000 in
set_option maxHeartbeats 4000000 in
theorem N_X1_precedence_123 {p : Program} {l : Launch} {e : Env} {s : State} {m : MethodId} {args : Array Value} {below : List Frame} {meth : Method} {c : Code} {D : cD} {Φ : cG} {x0 : Nat}   {x4 : Int32} {y0 : Int32} {σ : cS} {ls : Array Slot} {r : Int32} (X : cX p s m args meth c cX1_precedence 12 (some .int) RX1 D Φ) (hP : cP D Φ σ s.heap) (hS : va_S (cReg Φ) s.heap s.heap [])  (hl : lv_has ls 12 [(4, .int x4)]) (h : f_X1_precedence_123  x0 x4 y0 σ = some r) : cWr p l e 0 0 s m args below meth c (some (.int r)) (F0 m 123 ls [.int y0]) := by
  have hx := X.1
  have hb := X.2.1
  have hown := X.2.2.2.1
  have hts := X.2.2.2.2.1
  have h : (if y0 = x4 then (f_X1_precedence_134 x0 (((-2):Int32)) σ) else (f_X1_precedence_134 x0 ((2:Int32)) σ)) = some r := h
  refine lv_iload hx hb dX1_precedence_123 (lv_at hl 0 rfl) ?_
  refine lv_icmp_eq (tgt := 132) hx hb dX1_precedence_125 rfl (fun hc => ?_) (fun hc => ?_)
  · have h := ip hc h
    refine lv_bipush (v := ((-2):Int32)) hx hb dX1_precedence_132 (by decide) ?_
    exact N_X1_precedence_134 X hP hS (lv_sub hl [] rfl) h
  · have h := ine hc h
    refine lv_iconst (v := (2:Int32)) hx hb dX1_precedence_128 (by decide) ?_
    refine lv_goto (tgt := 134) hx hb dX1_precedence_129 rfl ?_
    exact N_X1_precedence_134 X hP hS (lv_sub hl [] rfl) h
set_option maxRecDepth 20000 in
set_option maxHeartbeats 4000000 in
theorem N_X1_precedence_95 {p : Program} {l : Launch} {e : Env} {s : State} {m : MethodId} {args : Array Value} {below : List Frame} {meth : Method} {c : Code} {D : cD} {Φ : cG} {x0 : Nat}   {y0 : Int32} {σ : cS} {ls : Array Slot} {r : Int32} (X : cX p s m args meth c cX1_precedence 12 (some .int) RX1 D Φ) (hP : cP D Φ σ s.heap) (hS : va_S (cReg Φ) s.heap s.heap [])  (hl : lv_has ls 12 []) (h : f_X1_precedence_95  x0 y0 σ = some r) : cWr p l e 0 0 s m args below meth c (some (.int r)) (F0 m 95 ls [.int y0]) := by
  have hx := X.1
  have hb := X.2.1
  have hown := X.2.2.2.1
  have hts := X.2.2.2.2.1
  have h : (some y0) = some r := h
  obtain rfl := sj h
  exact c_ri X dX1_precedence_95
set_option maxRecDepth 20000 in
set_option maxHeartbeats 4000000 in
theorem N_X1_precedence_74 {p : Program} {l : Launch} {e : Env} {s : State} {m : MethodId} {args : Array Value} {below : List Frame} {meth : Method} {c : Code} {D : cD} {Φ : cG} {x0 : Nat}   {x1 : Option Nat} {x2 : Option Nat} {x4 : Int32} {x6 : Int32} {y0 : Int32} {σ : cS} {ls : Array Slot} {r : Int32} (X : cX p s m args meth c cX1_precedence 12 (some .int) RX1 D Φ) (hP : cP D Φ σ s.heap) (hS : va_S (cReg Φ) s.heap s.heap [])  (hl : lv_has ls 12 [(1, cv Φ x1), (2, cv Φ x2), (4, .int x4), (6, .int x6)]) (h : f_X1_precedence_74  x0 x1 x2 x4 x6 y0 σ = some r) : cWr p l e 0 0 s m args below meth c (some (.int r)) (F0 m 74 ls [.int y0]) := by
  have hx := X.1
  have hb := X.2.1
  have hown := X.2.2.2.1
  have hts := X.2.2.2.2.1
  have h : (if x6 = y0 then ((gI σ x1 6 12).bind (fun v1 => (gI σ x2 6 12).bind (fun v2 => if v1 = v2 then ((gR σ x1 6 1).bind (fun v3 => if v3 = none then (f_X1_precedence_149 x0 (x1) σ) else ((gR σ x2 6 1).bind (fun v4 => if v4 = none then (f_X1_precedence_149 x0 (x1) σ) else ((gR σ x1 6 1).bind (fun v5 => (gI σ v5 8 3).bind (fun v6 => if v6 = ((-1):Int32) then (f_X1_precedence_185 x0 (x1) (x2) (x4) ((4:Int32)) σ) else ((gR σ x1 6 1).bind (fun v7 => (gI σ v7 8 3).bind (fun v8 => f_X1_precedence_185 x0 (x1) (x2) (x4) (v8) σ)))))))))) else ((gI σ x1 6 12).bind (fun v9 => (gI σ x2 6 12).bind (fun v10 => if v10 ≤ v9 then (f_X1_precedence_123 x0 (x4) ((0:Int32)) σ) else (f_X1_precedence_123 x0 (x4) ((1:Int32)) σ))))))) else (if x6 ≤ y0 then (f_X1_precedence_95 x0 (((-1):Int32)) σ) else (f_X1_precedence_95 x0 ((1:Int32)) σ))) = some r := h
  refine c_istore hx hb dX1_precedence_74 hl (Nat.le_of_ble_eq_true rfl) (lvKa rfl (lvKa rfl (lvKa rfl (lvKi lvK0)))) rfl (fun ls (hl : lv_has ls 12 [(7, .int y0), (1, cv Φ x1), (2, cv Φ x2), (4, .int x4), (6, .int x6)]) => ?_)
  refine lv_iload hx hb dX1_precedence_76 (lv_at hl 4 rfl) ?_
  refine lv_iload hx hb dX1_precedence_78 (lv_at hl 0 rfl) ?_
  refine lv_icmp_eq (tgt := 96) hx hb dX1_precedence_80 rfl (fun hc => ?_) (fun hc => ?_)
  · have h := ip hc h
    refine c_aload_n hx hb dX1_precedence_96 rfl (lv_at hl 1 rfl) ?_
    obtain ⟨v1, hv1, h⟩ := ob h
    refine c_gI X hP hv1 (Nat.le_of_ble_eq_true rfl) (Nat.le_of_ble_eq_true rfl) rfl w_187 dX1_precedence_97 ?_
    refine c_aload_n hx hb dX1_precedence_100 rfl (lv_at hl 2 rfl) ?_
    obtain ⟨v2, hv2, h⟩ := ob h
    refine c_gI X hP hv2 (Nat.le_of_ble_eq_true rfl) (Nat.le_of_ble_eq_true rfl) rfl w_187 dX1_precedence_101 ?_
    refine lv_icmp_eq (tgt := 135) hx hb dX1_precedence_104 rfl (fun hc => ?_) (fun hc => ?_)
    · have h := ip hc h
      refine c_aload_n hx hb dX1_precedence_135 rfl (lv_at hl 1 rfl) ?_
      obtain ⟨v3, hv3, h⟩ := ob h
      refine c_gR X hP hv3 (Nat.le_of_ble_eq_true rfl) (Nat.le_of_ble_eq_true rfl) rfl w_163 dX1_precedence_136 ?_
      refine c_ifnull (Φ := Φ) (tgt := 149) hx hb dX1_precedence_139 rfl (fun hc => ?_) (fun hc => ?_)
      · have h := ip hc h
        exact N_X1_precedence_149 X hP hS (lv_sub hl [1] rfl) h
      · have h := ine hc h
        refine c_aload_n hx hb dX1_precedence_142 rfl (lv_at hl 2 rfl) ?_
        obtain ⟨v4, hv4, h⟩ := ob h
        refine c_gR X hP hv4 (Nat.le_of_ble_eq_true rfl) (Nat.le_of_ble_eq_true rfl) rfl w_163 dX1_precedence_143 ?_
        refine c_ifnonnull (Φ := Φ) (tgt := 163) hx hb dX1_precedence_146 rfl (fun hc => ?_) (fun hc => ?_)
        · have h := ine hc h
          refine c_aload_n hx hb dX1_precedence_163 rfl (lv_at hl 1 rfl) ?_
          obtain ⟨v5, hv5, h⟩ := ob h
          refine c_gR X hP hv5 (Nat.le_of_ble_eq_true rfl) (Nat.le_of_ble_eq_true rfl) rfl w_163 dX1_precedence_164 ?_
          obtain ⟨v6, hv6, h⟩ := ob h
          refine c_gI X hP hv6 (Nat.le_of_ble_eq_true rfl) (Nat.le_of_ble_eq_true rfl) rfl w_1265 dX1_precedence_167 ?_
          refine lv_iconst (v := ((-1):Int32)) hx hb dX1_precedence_170 (by decide) ?_
          refine lv_icmp_ne (tgt := 178) hx hb dX1_precedence_171 rfl (fun hc => ?_) (fun hc => ?_)
          · have h := ine hc h
            refine c_aload_n hx hb dX1_precedence_178 rfl (lv_at hl 1 rfl) ?_
            obtain ⟨v7, hv7, h⟩ := ob h
            refine c_gR X hP hv7 (Nat.le_of_ble_eq_true rfl) (Nat.le_of_ble_eq_true rfl) rfl w_163 dX1_precedence_179 ?_
            obtain ⟨v8, hv8, h⟩ := ob h
            refine c_gI X hP hv8 (Nat.le_of_ble_eq_true rfl) (Nat.le_of_ble_eq_true rfl) rfl w_1265 dX1_precedence_182 ?_
            exact N_X1_precedence_185 X hP hS (lv_sub hl [1, 2, 3] rfl) h
          · have h := ip hc h
            refine lv_iconst (v := (4:Int32)) hx hb dX1_precedence_174 (by decide) ?_
            refine lv_goto (tgt := 185) hx hb dX1_precedence_175 rfl ?_
            exact N_X1_precedence_185 X hP hS (lv_sub hl [1, 2, 3] rfl) h
        · have h := ip hc h
          exact N_X1_precedence_149 X hP hS (lv_sub hl [1] rfl) h
    · have h := ine hc h
      refine c_aload_n hx hb dX1_precedence_107 rfl (lv_at hl 1 rfl) ?_
      obtain ⟨v9, hv9, h⟩ := ob h
      refine c_gI X hP hv9 (Nat.le_of_ble_eq_true rfl) (Nat.le_of_ble_eq_true rfl) rfl w_187 dX1_precedence_108 ?_
      refine c_aload_n hx hb dX1_precedence_111 rfl (lv_at hl 2 rfl) ?_
      obtain ⟨v10, hv10, h⟩ := ob h
      refine c_gI X hP hv10 (Nat.le_of_ble_eq_true rfl) (Nat.le_of_ble_eq_true rfl) rfl w_187 dX1_precedence_112 ?_
      refine lv_icmp_ge (tgt := 122) hx hb dX1_precedence_115 rfl (fun hc => ?_) (fun hc => ?_)
      · have h := ip hc h
        refine lv_iconst (v := (0:Int32)) hx hb dX1_precedence_122 (by decide) ?_
        exact N_X1_precedence_123 X hP hS (lv_sub hl [3] rfl) h
      · have h := ine hc h
        refine lv_iconst (v := (1:Int32)) hx hb dX1_precedence_118 (by decide) ?_
        refine lv_goto (tgt := 123) hx hb dX1_precedence_119 rfl ?_
        exact N_X1_precedence_123 X hP hS (lv_sub hl [3] rfl) h
  · have h := ine hc h
    refine lv_iload hx hb dX1_precedence_83 (lv_at hl 4 rfl) ?_
    refine lv_iload hx hb dX1_precedence_85 (lv_at hl 0 rfl) ?_
    refine lv_icmp_le (tgt := 94) hx hb dX1_precedence_87 rfl (fun hc => ?_) (fun hc => ?_)
    · have h := ip hc h
      refine lv_iconst (v := ((-1):Int32)) hx hb dX1_precedence_94 (by decide) ?_
      exact N_X1_precedence_95 X hP hS (lv_sub hl [] rfl) h
    · have h := ine hc h
      refine lv_iconst (v := (1:Int32)) hx hb dX1_precedence_90 (by decide) ?_
      refine lv_goto (tgt := 95) hx hb dX1_precedence_91 rfl ?_
      exact N_X1_precedence_95 X hP hS (lv_sub hl [] rfl) h
set_option maxRecDepth 20000 in
set_option maxHeartbeats 4000000 in
theorem N_X1_precedence_54 {p : Program} {l : Launch} {e : Env} {s : State} {m : MethodId} {args : Array Value} {below : List Frame} {meth : Method} {c : Code} {D : cD} {Φ : cG} {x0 : Nat}   {x1 : Option Nat} {x2 : Option Nat} {x4 : Int32} {x5 : Int32} {y0 : Int32} {σ : cS} {ls : Array Slot} {r : Int32} (X : cX p s m args meth c cX1_precedence 12 (some .int) RX1 D Φ) (hP : cP D Φ σ s.heap) (hS : va_S (cReg Φ) s.heap s.heap [])  (hl : lv_has ls 12 [(1, cv Φ x1), (2, cv Φ x2), (4, .int x4), (5, .int x5)]) (h : f_X1_precedence_54  x0 x1 x2 x4 x5 y0 σ = some r) : cWr p l e 0 0 s m args below meth c (some (.int r)) (F0 m 54 ls [.int y0]) := by
  have hx := X.1
  have hb := X.2.1
  have hown := X.2.2.2.1
  have hts := X.2.2.2.2.1
  have h : (if x5 = (0:Int32) then ((gI σ x2 6 3).bind (fun v1 => f_X1_precedence_74 x0 (x1) (x2) (x4) (y0) (v1) σ)) else ((gI σ x2 6 3).bind (fun v2 => f_X1_precedence_74 x0 (x1) (x2) (x4) (y0) (((5:Int32) - v2)) σ))) = some r := h
  refine c_istore hx hb dX1_precedence_54 hl (Nat.le_of_ble_eq_true rfl) (lvKa rfl (lvKa rfl (lvKa rfl (lvKi lvK0)))) rfl (fun ls (hl : lv_has ls 12 [(6, .int y0), (1, cv Φ x1), (2, cv Φ x2), (4, .int x4), (5, .int x5)]) => ?_)
  refine lv_iload hx hb dX1_precedence_56 (lv_at hl 4 rfl) ?_
  refine lv_if_eq (tgt := 70) hx hb dX1_precedence_58 rfl (fun hc => ?_) (fun hc => ?_)
  · have h := ip hc h
    refine c_aload_n hx hb dX1_precedence_70 rfl (lv_at hl 2 rfl) ?_
    obtain ⟨v1, hv1, h⟩ := ob h
    refine c_gI X hP hv1 (Nat.le_of_ble_eq_true rfl) (Nat.le_of_ble_eq_true rfl) rfl w_167 dX1_precedence_71 ?_
    exact N_X1_precedence_74 X hP hS (lv_sub hl [1, 2, 3, 0] rfl) h
  · have h := ine hc h
    refine lv_iconst (v := (5:Int32)) hx hb dX1_precedence_61 (by decide) ?_
    refine c_aload_n hx hb dX1_precedence_62 rfl (lv_at hl 2 rfl) ?_
    obtain ⟨v2, hv2, h⟩ := ob h
    refine c_gI X hP hv2 (Nat.le_of_ble_eq_true rfl) (Nat.le_of_ble_eq_true rfl) rfl w_167 dX1_precedence_63 ?_
    refine lv_isub hx hb dX1_precedence_66 ?_
    refine lv_goto (tgt := 74) hx hb dX1_precedence_67 rfl ?_
    exact N_X1_precedence_74 X hP hS (lv_sub hl [1, 2, 3, 0] rfl) h
set_option maxRecDepth 20000 in
set_option maxHeartbeats 4000000 in
theorem N_X1_precedence_34 {p : Program} {l : Launch} {e : Env} {s : State} {m : MethodId} {args : Array Value} {below : List Frame} {meth : Method} {c : Code} {D : cD} {Φ : cG} {x0 : Nat}   {x1 : Option Nat} {x2 : Option Nat} {x4 : Int32} {y0 : Int32} {σ : cS} {ls : Array Slot} {r : Int32} (X : cX p s m args meth c cX1_precedence 12 (some .int) RX1 D Φ) (hP : cP D Φ σ s.heap) (hS : va_S (cReg Φ) s.heap s.heap [])  (hl : lv_has ls 12 [(1, cv Φ x1), (2, cv Φ x2), (4, .int x4)]) (h : f_X1_precedence_34  x0 x1 x2 x4 y0 σ = some r) : cWr p l e 0 0 s m args below meth c (some (.int r)) (F0 m 34 ls [.int y0]) := by
  have hx := X.1
  have hb := X.2.1
  have hown := X.2.2.2.1
  have hts := X.2.2.2.2.1
  have h : (if x4 = (0:Int32) then ((gI σ x1 6 3).bind (fun v1 => f_X1_precedence_54 x0 (x1) (x2) (x4) (y0) (v1) σ)) else ((gI σ x1 6 3).bind (fun v2 => f_X1_precedence_54 x0 (x1) (x2) (x4) (y0) (((5:Int32) - v2)) σ))) = some r := h
  refine c_istore hx hb dX1_precedence_34 hl (Nat.le_of_ble_eq_true rfl) (lvKa rfl (lvKa rfl (lvKi lvK0))) rfl (fun ls (hl : lv_has ls 12 [(5, .int y0), (1, cv Φ x1), (2, cv Φ x2), (4, .int x4)]) => ?_)
  refine lv_iload hx hb dX1_precedence_36 (lv_at hl 3 rfl) ?_
  refine lv_if_eq (tgt := 50) hx hb dX1_precedence_38 rfl (fun hc => ?_) (fun hc => ?_)
  · have h := ip hc h
    refine c_aload_n hx hb dX1_precedence_50 rfl (lv_at hl 1 rfl) ?_
    obtain ⟨v1, hv1, h⟩ := ob h
    refine c_gI X hP hv1 (Nat.le_of_ble_eq_true rfl) (Nat.le_of_ble_eq_true rfl) rfl w_167 dX1_precedence_51 ?_
    exact N_X1_precedence_54 X hP hS (lv_sub hl [1, 2, 3, 0] rfl) h
  · have h := ine hc h
    refine lv_iconst (v := (5:Int32)) hx hb dX1_precedence_41 (by decide) ?_
    refine c_aload_n hx hb dX1_precedence_42 rfl (lv_at hl 1 rfl) ?_
    obtain ⟨v2, hv2, h⟩ := ob h
    refine c_gI X hP hv2 (Nat.le_of_ble_eq_true rfl) (Nat.le_of_ble_eq_true rfl) rfl w_167 dX1_precedence_43 ?_
    refine lv_isub hx hb dX1_precedence_46 ?_
    refine lv_goto (tgt := 54) hx hb dX1_precedence_47 rfl ?_
    exact N_X1_precedence_54 X hP hS (lv_sub hl [1, 2, 3, 0] rfl) h
set_option maxRecDepth 20000 in
set_option maxHeartbeats 4000000 in
theorem N_X1_precedence_16 {p : Program} {l : Launch} {e : Env} {s : State} {m : MethodId} {args : Array Value} {below : List Frame} {meth : Method} {c : Code} {D : cD} {Φ : cG} {x0 : Nat}   {x1 : Option Nat} {x2 : Option Nat} {x3 : Int32} {y0 : Int32} {σ : cS} {ls : Array Slot} {r : Int32} (X : cX p s m args meth c cX1_precedence 12 (some .int) RX1 D Φ) (hP : cP D Φ σ s.heap) (hS : va_S (cReg Φ) s.heap s.heap [])  (hl : lv_has ls 12 [(1, cv Φ x1), (2, cv Φ x2), (3, .int x3)]) (h : f_X1_precedence_16  x0 x1 x2 x3 y0 σ = some r) : cWr p l e 0 0 s m args below meth c (some (.int r)) (F0 m 16 ls [.int y0]) := by
  have hx := X.1
  have hb := X.2.1
  have hown := X.2.2.2.1
  have hts := X.2.2.2.2.1
  have h : ((gI σ x2 6 7).bind (fun v1 => if ((v1 >>> (x3 &&& 31)) &&& (1:Int32)) = (0:Int32) then (f_X1_precedence_34 x0 (x1) (x2) (y0) ((0:Int32)) σ) else (f_X1_precedence_34 x0 (x1) (x2) (y0) ((1:Int32)) σ))) = some r := h
  refine c_istore hx hb dX1_precedence_16 hl (Nat.le_of_ble_eq_true rfl) (lvKa rfl (lvKa rfl (lvKi lvK0))) rfl (fun ls (hl : lv_has ls 12 [(4, .int y0), (1, cv Φ x1), (2, cv Φ x2), (3, .int x3)]) => ?_)
  refine c_aload_n hx hb dX1_precedence_18 rfl (lv_at hl 2 rfl) ?_
  obtain ⟨v1, hv1, h⟩ := ob h
  refine c_gI X hP hv1 (Nat.le_of_ble_eq_true rfl) (Nat.le_of_ble_eq_true rfl) rfl w_177 dX1_precedence_19 ?_
  refine lv_iload_n hx hb dX1_precedence_22 rfl (lv_at hl 3 rfl) ?_
  refine lv_ishr hx hb dX1_precedence_23 ?_
  refine lv_iconst (v := (1:Int32)) hx hb dX1_precedence_24 (by decide) ?_
  refine lv_iand hx hb dX1_precedence_25 ?_
  refine lv_if_eq (tgt := 33) hx hb dX1_precedence_26 rfl (fun hc => ?_) (fun hc => ?_)
  · have h := ip hc h
    refine lv_iconst (v := (0:Int32)) hx hb dX1_precedence_33 (by decide) ?_
    exact N_X1_precedence_34 X hP hS (lv_sub hl [1, 2, 0] rfl) h
  · have h := ine hc h
    refine lv_iconst (v := (1:Int32)) hx hb dX1_precedence_29 (by decide) ?_
    refine lv_goto (tgt := 34) hx hb dX1_precedence_30 rfl ?_
    exact N_X1_precedence_34 X hP hS (lv_sub hl [1, 2, 0] rfl) h
set_option maxRecDepth 20000 in
set_option maxHeartbeats 4000000 in
theorem K_X1_precedence (l : Launch) (D : cD) (Φ : cG) (σ : cS) (x0 : Nat) (x1 : Option Nat) (x2 : Option Nat) (x3 : Int32) {r : Int32} (h : f_X1_precedence x0 x1 x2 x3 σ = some r) : Met l yX1_precedence (Cond.code yX1_precedence cX1_precedence 12 (some .int) :: BG) (rA 0 0 0 0) (cPc D Φ σ [cv Φ (some x0), cv Φ x1, cv Φ x2, .int x3]) (cQr (some (.int r))) 0 0 (fun _ => False) := by
  refine Met.ofW (cc := cX1_precedence) (maxL := 12) (ret := (some .int)) (by decide) rfl ?_
  intro p e s m args below meth c s₁ B hml hv
  obtain ⟨rfl, hP, hK, hZ⟩ := hv
  have X : cX p s m [cv Φ (some x0), cv Φ x1, cv Φ x2, .int x3].toArray meth c cX1_precedence 12 (some .int) RX1 D Φ := cX_of B hml hK hZ
  have hx := X.1
  have hb := X.2.1
  have hown := X.2.2.2.1
  have hts := X.2.2.2.2.1
  have hl := lv_entry [cv Φ (some x0), cv Φ x1, cv Φ x2, .int x3] (n := 12) (by simp only [lgs_r, lgs_i, lgs_l, lgs_0, List.length]; exact Nat.le_of_ble_eq_true rfl)
  rw [lg_entry_eq]
  generalize (lg_sl [cv Φ (some x0), cv Φ x1, cv Φ x2, .int x3] ++ List.replicate (12 - (lg_sl [cv Φ (some x0), cv Φ x1, cv Φ x2, .int x3]).length) Slot.unset).toArray = ls at hl ⊢
  simp only [lv_args_r, lv_args_i, lv_args_l, lv_args_0] at hl
  have hl : lv_has ls 12 [(0, cv Φ (some x0)), (1, cv Φ x1), (2, cv Φ x2), (3, .int x3)] := hl
  have hS : va_S (cReg Φ) s.heap s.heap [] := va_S.rf
  show cWr p l e 0 0 s m [cv Φ (some x0), cv Φ x1, cv Φ x2, .int x3].toArray below meth c (some (.int r)) (F0 m 0 ls [])
  have h : ((gI σ x1 6 7).bind (fun v1 => if ((v1 >>> (x3 &&& 31)) &&& (1:Int32)) = (0:Int32) then (f_X1_precedence_16 x0 (x1) (x2) (x3) ((0:Int32)) σ) else (f_X1_precedence_16 x0 (x1) (x2) (x3) ((1:Int32)) σ))) = some r := h
  refine c_aload_n hx hb dX1_precedence_0 rfl (lv_at hl 1 rfl) ?_
  obtain ⟨v1, hv1, h⟩ := ob h
  refine c_gI X hP hv1 (Nat.le_of_ble_eq_true rfl) (Nat.le_of_ble_eq_true rfl) rfl w_177 dX1_precedence_1 ?_
  refine lv_iload_n hx hb dX1_precedence_4 rfl (lv_at hl 3 rfl) ?_
  refine lv_ishr hx hb dX1_precedence_5 ?_
  refine lv_iconst (v := (1:Int32)) hx hb dX1_precedence_6 (by decide) ?_
  refine lv_iand hx hb dX1_precedence_7 ?_
  refine lv_if_eq (tgt := 15) hx hb dX1_precedence_8 rfl (fun hc => ?_) (fun hc => ?_)
  · have h := ip hc h
    refine lv_iconst (v := (0:Int32)) hx hb dX1_precedence_15 (by decide) ?_
    exact N_X1_precedence_16 X hP hS (lv_sub hl [1, 2, 3] rfl) h
  · have h := ine hc h
    refine lv_iconst (v := (1:Int32)) hx hb dX1_precedence_11 (by decide) ?_
    refine lv_goto (tgt := 16) hx hb dX1_precedence_12 rfl ?_
    exact N_X1_precedence_16 X hP hS (lv_sub hl [1, 2, 3] rfl) h
theorem ww_X1_precedence : Cond.instanceMethod yX1_precedence ∈ BG ∧ Cond.selects (yX1_precedence).cls yX1_precedence yX1_precedence ∈ BG ∧ Cond.initialized (yX1_precedence).cls ∈ BG ∧ Cond.code yX1_precedence cX1_precedence 12 (some .int) ∈ BG := ⟨w_1007, w_33, w_64, w_1008⟩
theorem hy_X1_precedence : (yX1_precedence).cls ≠ "java/lang/invoke/MethodHandle" ∧ (yX1_precedence).cls ≠ "java/lang/invoke/VarHandle" ∧ (parseMethodDescriptor (yX1_precedence).desc).map (fun d => d.parameters.length) = some 3 := ⟨by decide, by decide, by decide +kernel⟩
def f_X1_winner_104 (k33 : Int32 → Int64 → Int32 → Option Nat → Option Nat → Option (Option Nat)) (x0 : Nat) (x2 : Int32) (x3 : Int64) (x5 : Int32) (x6 : Option Nat) (x7 : Option Nat) (σ : cS) : Option (Option Nat) := (gR σ x7 6 14).bind (fun v1 => k33 (x2) (x3) (x5) (x6) (v1))
def f_X1_winner_100 (k33 : Int32 → Int64 → Int32 → Option Nat → Option Nat → Option (Option Nat)) (x0 : Nat) (x2 : Int32) (x3 : Int64) (x5 : Int32) (x7 : Option Nat) (σ : cS) : Option (Option Nat) := f_X1_winner_104 k33 x0 (x2) (x3) (x5) (x7) (x7) σ
def f_X1_winner_76 (k33 : Int32 → Int64 → Int32 → Option Nat → Option Nat → Option (Option Nat)) (x0 : Nat) (x2 : Int32) (x3 : Int64) (x5 : Int32) (x6 : Option Nat) (x7 : Option Nat) (y0 : Int32) (σ : cS) : Option (Option Nat) := if y0 = (0:Int32) then (f_X1_winner_104 k33 x0 (x2) (x3) (x5) (x6) (x7) σ) else (if x6 = none then (f_X1_winner_100 k33 x0 (x2) (x3) (x5) (x7) σ) else ((rc σ (some x0) 1).bind (fun v1 => (f_X1_precedence v1 (x7) (x6) (x2) σ).bind (fun v2 => if v2 ≤ (0:Int32) then (f_X1_winner_104 k33 x0 (x2) (x3) (x5) (x6) (x7) σ) else (f_X1_winner_100 k33 x0 (x2) (x3) (x5) (x7) σ)))))
def f_X1_winner_75 (k33 : Int32 → Int64 → Int32 → Option Nat → Option Nat → Option (Option Nat)) (x0 : Nat) (x2 : Int32) (x3 : Int64) (x5 : Int32) (x6 : Option Nat) (x7 : Option Nat) (σ : cS) : Option (Option Nat) := f_X1_winner_76 k33 x0 (x2) (x3) (x5) (x6) (x7) ((0:Int32)) σ
def f_X1_winner_33  (x0 : Nat) : Nat → Int32 → Int64 → Int32 → Option Nat → Option Nat → cS → Option (Option Nat)
  | 0, _, _, _, _, _, _ => none
  | n + 1, x2, x3, x5, x6, x7, σ => if x7 = none then (some x6) else ((gI σ x7 6 0).bind (fun v1 => if (lg_cmp ((x3 >>> ((v1).toInt64 &&& 63)) &&& (1:Int64)) (0:Int64)) = (0:Int32) then (f_X1_winner_75 (fun z0 z1 z2 z3 z4 => f_X1_winner_33 x0 n z0 z1 z2 z3 z4 σ) x0 (x2) (x3) (x5) (x6) (x7) σ) else ((rc σ x7 6).bind (fun v2 => (f_X6_declares v2 (x2) σ).bind (fun v3 => if v3 = (0:Int32) then (f_X1_winner_75 (fun z0 z1 z2 z3 z4 => f_X1_winner_33 x0 n z0 z1 z2 z3 z4 σ) x0 (x2) (x3) (x5) (x6) (x7) σ) else ((gI σ x7 6 3).bind (fun v4 => if x5 ≤ v4 then (f_X1_winner_75 (fun z0 z1 z2 z3 z4 => f_X1_winner_33 x0 n z0 z1 z2 z3 z4 σ) x0 (x2) (x3) (x5) (x6) (x7) σ) else (f_X1_winner_76 (fun z0 z1 z2 z3 z4 => f_X1_winner_33 x0 n z0 z1 z2 z3 z4 σ) x0 (x2) (x3) (x5) (x6) (x7) ((1:Int32)) σ))))))))
def f_X1_winner_25  (x0 : Nat) (x2 : Int32) (x3 : Int64) (x5 : Int32) (y0 : Option Nat) (σ : cS) : Option (Option Nat) := (gR σ (some x0) 1 6).bind (fun v1 => f_X1_winner_33 x0 4000 (x2) (x3) (x5) (y0) (v1) σ)
def f_X1_winner_24  (x0 : Nat) (x2 : Int32) (x3 : Int64) (x5 : Int32) (σ : cS) : Option (Option Nat) := f_X1_winner_25 x0 (x2) (x3) (x5) (none) σ
def f_X1_winner (x0 : Nat) (x1 : Option Nat) (x2 : Int32) (x3 : Int64) (x5 : Int32) (σ : cS) : Option (Option Nat) := if x5 ≤ (2:Int32) then (f_X1_winner_24 x0 (x2) (x3) (x5) σ) else ((gR σ x1 3 18).bind (fun v1 => (rc σ v1 6).bind (fun v2 => (f_X6_declares v2 (x2) σ).bind (fun v3 => if v3 = (0:Int32) then (f_X1_winner_24 x0 (x2) (x3) (x5) σ) else ((gR σ x1 3 18).bind (fun v4 => f_X1_winner_25 x0 (x2) (x3) (x5) (v4) σ))))))
set_option maxRecDepth 20000 in
set_option maxHeartbeats 4000000 in
theorem N_X1_winner_104 {p : Program} {l : Launch} {e : Env} {s : State} {m : MethodId} {args : Array Value} {below : List Frame} {meth : Method} {c : Code} {D : cD} {Φ : cG} {x0 : Nat} {k33 : Int32 → Int64 → Int32 → Option Nat → Option Nat → Option (Option Nat)}  {x2 : Int32} {x3 : Int64} {x5 : Int32} {x6 : Option Nat} {x7 : Option Nat} {σ : cS} {ls : Array Slot} {r : Option Nat} (X : cX p s m args meth c cX1_winner 9 (some (.object "Cascadery$Rule")) RX1 D Φ) (hP : cP D Φ σ s.heap) (hS : va_S (cReg Φ) s.heap s.heap []) (hk33 : ∀ {x2 : Int32} {x3 : Int64} {x5 : Int32} {x6 : Option Nat} {x7 : Option Nat} {ls : Array Slot}, lv_has ls 9 [(0, cv Φ (some x0)), (2, .int x2), (3, .long x3), (5, .int x5), (6, cv Φ x6), (7, cv Φ x7)] → k33 x2 x3 x5 x6 x7 = some r → cWr p l e 1 31 s m args below meth c (some (cv Φ r)) (F0 m 33 ls [])) (hl : lv_has ls 9 [(0, cv Φ (some x0)), (2, .int x2), (3, .long x3), (5, .int x5), (6, cv Φ x6), (7, cv Φ x7)]) (h : f_X1_winner_104 k33 x0 x2 x3 x5 x6 x7 σ = some r) : cWr p l e 1 31 s m args below meth c (some (cv Φ r)) (F0 m 104 ls []) := by
  have hx := X.1
  have hb := X.2.1
  have hown := X.2.2.2.1
  have hts := X.2.2.2.2.1
  have h : ((gR σ x7 6 14).bind (fun v1 => k33 (x2) (x3) (x5) (x6) (v1))) = some r := h
  refine c_aload hx hb dX1_winner_104 (lv_at hl 5 rfl) ?_
  obtain ⟨v1, hv1, h⟩ := ob h
  refine c_gR X hP hv1 (Nat.le_of_ble_eq_true rfl) (Nat.le_of_ble_eq_true rfl) rfl w_190 dX1_winner_106 ?_
  refine c_astore hx hb dX1_winner_109 hl (Nat.le_of_ble_eq_true rfl) (lvKa rfl (lvKa rfl (lvKa rfl (lvKa rfl (lvKr (lvKa rfl lvK0)))))) rfl (fun ls (hl : lv_has ls 9 [(7, cv Φ v1), (0, cv Φ (some x0)), (2, .int x2), (3, .long x3), (5, .int x5), (6, cv Φ x6)]) => ?_)
  refine lv_goto (tgt := 33) hx hb dX1_winner_111 rfl ?_
  exact hk33 (lv_sub hl [1, 2, 3, 4, 5, 0] rfl) h
set_option maxRecDepth 20000 in
set_option maxHeartbeats 4000000 in
theorem N_X1_winner_100 {p : Program} {l : Launch} {e : Env} {s : State} {m : MethodId} {args : Array Value} {below : List Frame} {meth : Method} {c : Code} {D : cD} {Φ : cG} {x0 : Nat} {k33 : Int32 → Int64 → Int32 → Option Nat → Option Nat → Option (Option Nat)}  {x2 : Int32} {x3 : Int64} {x5 : Int32} {x7 : Option Nat} {σ : cS} {ls : Array Slot} {r : Option Nat} (X : cX p s m args meth c cX1_winner 9 (some (.object "Cascadery$Rule")) RX1 D Φ) (hP : cP D Φ σ s.heap) (hS : va_S (cReg Φ) s.heap s.heap []) (hk33 : ∀ {x2 : Int32} {x3 : Int64} {x5 : Int32} {x6 : Option Nat} {x7 : Option Nat} {ls : Array Slot}, lv_has ls 9 [(0, cv Φ (some x0)), (2, .int x2), (3, .long x3), (5, .int x5), (6, cv Φ x6), (7, cv Φ x7)] → k33 x2 x3 x5 x6 x7 = some r → cWr p l e 1 31 s m args below meth c (some (cv Φ r)) (F0 m 33 ls [])) (hl : lv_has ls 9 [(0, cv Φ (some x0)), (2, .int x2), (3, .long x3), (5, .int x5), (7, cv Φ x7)]) (h : f_X1_winner_100 k33 x0 x2 x3 x5 x7 σ = some r) : cWr p l e 1 31 s m args below meth c (some (cv Φ r)) (F0 m 100 ls []) := by
  have hx := X.1
  have hb := X.2.1
  have hown := X.2.2.2.1
  have hts := X.2.2.2.2.1
  have h : (f_X1_winner_104 k33 x0 (x2) (x3) (x5) (x7) (x7) σ) = some r := h
  refine c_aload hx hb dX1_winner_100 (lv_at hl 4 rfl) ?_
  refine c_astore hx hb dX1_winner_102 hl (Nat.le_of_ble_eq_true rfl) (lvKa rfl (lvKa rfl (lvKa rfl (lvKi (lvKa rfl lvK0))))) rfl (fun ls (hl : lv_has ls 9 [(6, cv Φ x7), (0, cv Φ (some x0)), (2, .int x2), (3, .long x3), (5, .int x5), (7, cv Φ x7)]) => ?_)
  exact N_X1_winner_104 X hP hS hk33 (lv_sub hl [1, 2, 3, 4, 0, 5] rfl) h
set_option maxRecDepth 20000 in
set_option maxHeartbeats 4000000 in
theorem N_X1_winner_76 {p : Program} {l : Launch} {e : Env} {s : State} {m : MethodId} {args : Array Value} {below : List Frame} {meth : Method} {c : Code} {D : cD} {Φ : cG} {x0 : Nat} {k33 : Int32 → Int64 → Int32 → Option Nat → Option Nat → Option (Option Nat)}  {x2 : Int32} {x3 : Int64} {x5 : Int32} {x6 : Option Nat} {x7 : Option Nat} {y0 : Int32} {σ : cS} {ls : Array Slot} {r : Option Nat} (X : cX p s m args meth c cX1_winner 9 (some (.object "Cascadery$Rule")) RX1 D Φ) (hP : cP D Φ σ s.heap) (hS : va_S (cReg Φ) s.heap s.heap []) (hk33 : ∀ {x2 : Int32} {x3 : Int64} {x5 : Int32} {x6 : Option Nat} {x7 : Option Nat} {ls : Array Slot}, lv_has ls 9 [(0, cv Φ (some x0)), (2, .int x2), (3, .long x3), (5, .int x5), (6, cv Φ x6), (7, cv Φ x7)] → k33 x2 x3 x5 x6 x7 = some r → cWr p l e 1 31 s m args below meth c (some (cv Φ r)) (F0 m 33 ls [])) (hl : lv_has ls 9 [(0, cv Φ (some x0)), (2, .int x2), (3, .long x3), (5, .int x5), (6, cv Φ x6), (7, cv Φ x7)]) (h : f_X1_winner_76 k33 x0 x2 x3 x5 x6 x7 y0 σ = some r) : cWr p l e 1 31 s m args below meth c (some (cv Φ r)) (F0 m 76 ls [.int y0]) := by
  have hx := X.1
  have hb := X.2.1
  have hown := X.2.2.2.1
  have hts := X.2.2.2.2.1
  have h : (if y0 = (0:Int32) then (f_X1_winner_104 k33 x0 (x2) (x3) (x5) (x6) (x7) σ) else (if x6 = none then (f_X1_winner_100 k33 x0 (x2) (x3) (x5) (x7) σ) else ((rc σ (some x0) 1).bind (fun v1 => (f_X1_precedence v1 (x7) (x6) (x2) σ).bind (fun v2 => if v2 ≤ (0:Int32) then (f_X1_winner_104 k33 x0 (x2) (x3) (x5) (x6) (x7) σ) else (f_X1_winner_100 k33 x0 (x2) (x3) (x5) (x7) σ)))))) = some r := h
  refine c_istore hx hb dX1_winner_76 hl (Nat.le_of_ble_eq_true rfl) (lvKa rfl (lvKa rfl (lvKa rfl (lvKa rfl (lvKa rfl (lvKr lvK0)))))) rfl (fun ls (hl : lv_has ls 9 [(8, .int y0), (0, cv Φ (some x0)), (2, .int x2), (3, .long x3), (5, .int x5), (6, cv Φ x6), (7, cv Φ x7)]) => ?_)
  refine lv_iload hx hb dX1_winner_78 (lv_at hl 0 rfl) ?_
  refine lv_if_eq (tgt := 104) hx hb dX1_winner_80 rfl (fun hc => ?_) (fun hc => ?_)
  · have h := ip hc h
    exact N_X1_winner_104 X hP hS hk33 (lv_sub hl [1, 2, 3, 4, 5, 6] rfl) h
  · have h := ine hc h
    refine c_aload hx hb dX1_winner_83 (lv_at hl 5 rfl) ?_
    refine c_ifnull (Φ := Φ) (tgt := 100) hx hb dX1_winner_85 rfl (fun hc => ?_) (fun hc => ?_)
    · have h := ip hc h
      exact N_X1_winner_100 X hP hS hk33 (lv_sub hl [1, 2, 3, 4, 6] rfl) h
    · have h := ine hc h
      refine c_aload_n hx hb dX1_winner_88 rfl (lv_at hl 1 rfl) ?_
      refine c_aload hx hb dX1_winner_89 (lv_at hl 6 rfl) ?_
      refine c_aload hx hb dX1_winner_91 (lv_at hl 5 rfl) ?_
      refine lv_iload_n hx hb dX1_winner_93 rfl (lv_at hl 2 rfl) ?_
      obtain ⟨v1, hv1, h⟩ := ob h
      obtain ⟨v2, hv2, h⟩ := ob h
      refine c_cr (c_runV X (K_X1_precedence l D Φ σ v1 (x7) (x6) (x2) hv2) hv1 ⟨Nat.le_of_ble_eq_true rfl, by decide⟩ ⟨w_1005, ww_X1_precedence⟩ rfl hy_X1_precedence rfl ⟨(Nat.le_of_ble_eq_true rfl), (Nat.le_of_ble_eq_true rfl)⟩ hP hS hl.1 (Nat.le_of_ble_eq_true rfl) dX1_winner_94 rfl ⟨(Nat.le_of_ble_eq_true rfl), (Nat.le_of_ble_eq_true rfl)⟩) ?_
      refine lv_if_le (tgt := 104) hx hb dX1_winner_97 rfl (fun hc => ?_) (fun hc => ?_)
      · have h := ip hc h
        exact N_X1_winner_104 X hP hS hk33 (lv_sub hl [1, 2, 3, 4, 5, 6] rfl) h
      · have h := ine hc h
        exact N_X1_winner_100 X hP hS hk33 (lv_sub hl [1, 2, 3, 4, 6] rfl) h
set_option maxRecDepth 20000 in
set_option maxHeartbeats 4000000 in
theorem N_X1_winner_75 {p : Program} {l : Launch} {e : Env} {s : State} {m : MethodId} {args : Array Value} {below : List Frame} {meth : Method} {c : Code} {D : cD} {Φ : cG} {x0 : Nat} {k33 : Int32 → Int64 → Int32 → Option Nat → Option Nat → Option (Option Nat)}  {x2 : Int32} {x3 : Int64} {x5 : Int32} {x6 : Option Nat} {x7 : Option Nat} {σ : cS} {ls : Array Slot} {r : Option Nat} (X : cX p s m args meth c cX1_winner 9 (some (.object "Cascadery$Rule")) RX1 D Φ) (hP : cP D Φ σ s.heap) (hS : va_S (cReg Φ) s.heap s.heap []) (hk33 : ∀ {x2 : Int32} {x3 : Int64} {x5 : Int32} {x6 : Option Nat} {x7 : Option Nat} {ls : Array Slot}, lv_has ls 9 [(0, cv Φ (some x0)), (2, .int x2), (3, .long x3), (5, .int x5), (6, cv Φ x6), (7, cv Φ x7)] → k33 x2 x3 x5 x6 x7 = some r → cWr p l e 1 31 s m args below meth c (some (cv Φ r)) (F0 m 33 ls [])) (hl : lv_has ls 9 [(0, cv Φ (some x0)), (2, .int x2), (3, .long x3), (5, .int x5), (6, cv Φ x6), (7, cv Φ x7)]) (h : f_X1_winner_75 k33 x0 x2 x3 x5 x6 x7 σ = some r) : cWr p l e 1 31 s m args below meth c (some (cv Φ r)) (F0 m 75 ls []) := by
  have hx := X.1
  have hb := X.2.1
  have hown := X.2.2.2.1
  have hts := X.2.2.2.2.1
  have h : (f_X1_winner_76 k33 x0 (x2) (x3) (x5) (x6) (x7) ((0:Int32)) σ) = some r := h
  refine lv_iconst (v := (0:Int32)) hx hb dX1_winner_75 (by decide) ?_
  exact N_X1_winner_76 X hP hS hk33 (lv_sub hl [0, 1, 2, 3, 4, 5] rfl) h
set_option maxRecDepth 20000 in
set_option maxHeartbeats 4000000 in
theorem N_X1_winner_33 {p : Program} {l : Launch} {e : Env} {s : State} {m : MethodId} {args : Array Value} {below : List Frame} {meth : Method} {c : Code} {D : cD} {Φ : cG} {x0 : Nat}  {n : Nat} {x2 : Int32} {x3 : Int64} {x5 : Int32} {x6 : Option Nat} {x7 : Option Nat} {σ : cS} {ls : Array Slot} {r : Option Nat} (X : cX p s m args meth c cX1_winner 9 (some (.object "Cascadery$Rule")) RX1 D Φ) (hP : cP D Φ σ s.heap) (hS : va_S (cReg Φ) s.heap s.heap [])  (hl : lv_has ls 9 [(0, cv Φ (some x0)), (2, .int x2), (3, .long x3), (5, .int x5), (6, cv Φ x6), (7, cv Φ x7)]) (h : f_X1_winner_33  x0 n x2 x3 x5 x6 x7 σ = some r) : cWr p l e 1 31 s m args below meth c (some (cv Φ r)) (F0 m 33 ls []) := by
  have hx := X.1
  have hb := X.2.1
  have hown := X.2.2.2.1
  have hts := X.2.2.2.2.1
  induction n generalizing x2 x3 x5 x6 x7 ls with
  | zero => exact absurd (show none = some r from h) (by simp)
  | succ n ih =>
    have h : (if x7 = none then (some x6) else ((gI σ x7 6 0).bind (fun v1 => if (lg_cmp ((x3 >>> ((v1).toInt64 &&& 63)) &&& (1:Int64)) (0:Int64)) = (0:Int32) then (f_X1_winner_75 (fun z0 z1 z2 z3 z4 => f_X1_winner_33 x0 n z0 z1 z2 z3 z4 σ) x0 (x2) (x3) (x5) (x6) (x7) σ) else ((rc σ x7 6).bind (fun v2 => (f_X6_declares v2 (x2) σ).bind (fun v3 => if v3 = (0:Int32) then (f_X1_winner_75 (fun z0 z1 z2 z3 z4 => f_X1_winner_33 x0 n z0 z1 z2 z3 z4 σ) x0 (x2) (x3) (x5) (x6) (x7) σ) else ((gI σ x7 6 3).bind (fun v4 => if x5 ≤ v4 then (f_X1_winner_75 (fun z0 z1 z2 z3 z4 => f_X1_winner_33 x0 n z0 z1 z2 z3 z4 σ) x0 (x2) (x3) (x5) (x6) (x7) σ) else (f_X1_winner_76 (fun z0 z1 z2 z3 z4 => f_X1_winner_33 x0 n z0 z1 z2 z3 z4 σ) x0 (x2) (x3) (x5) (x6) (x7) ((1:Int32)) σ))))))))) = some r := h
    refine c_aload hx hb dX1_winner_33 (lv_at hl 5 rfl) ?_
    refine c_ifnull (Φ := Φ) (tgt := 114) hx hb dX1_winner_35 rfl (fun hc => ?_) (fun hc => ?_)
    · have h := ip hc h
      refine c_aload hx hb dX1_winner_114 (lv_at hl 4 rfl) ?_
      obtain rfl := sj h
      exact c_ra X dX1_winner_116
    · have h := ine hc h
      refine lv_lload_n hx hb dX1_winner_38 rfl (lv_at hl 2 rfl) ?_
      refine c_aload hx hb dX1_winner_39 (lv_at hl 5 rfl) ?_
      obtain ⟨v1, hv1, h⟩ := ob h
      refine c_gI X hP hv1 (Nat.le_of_ble_eq_true rfl) (Nat.le_of_ble_eq_true rfl) rfl w_161 dX1_winner_41 ?_
      refine lv_lshr hx hb dX1_winner_44 rfl ?_
      refine lv_lconst (v := (1:Int64)) hx hb dX1_winner_45 (by decide) ?_
      refine lv_land hx hb dX1_winner_46 ?_
      refine lv_lconst (v := (0:Int64)) hx hb dX1_winner_47 (by decide) ?_
      refine W.lcmp hx hb dX1_winner_48 ?_
      refine lv_if_eq (tgt := 75) hx hb dX1_winner_49 rfl (fun hc => ?_) (fun hc => ?_)
      · have h := ip hc h
        exact N_X1_winner_75 X hP hS ih (lv_sub hl [0, 1, 2, 3, 4, 5] rfl) h
      · have h := ine hc h
        refine c_aload hx hb dX1_winner_52 (lv_at hl 5 rfl) ?_
        refine lv_iload_n hx hb dX1_winner_54 rfl (lv_at hl 1 rfl) ?_
        obtain ⟨v2, hv2, h⟩ := ob h
        obtain ⟨v3, hv3, h⟩ := ob h
        refine c_cr (c_runV X (K_X6_declares l D Φ σ v2 (x2) hv3) hv2 ⟨Nat.le_of_ble_eq_true rfl, by decide⟩ ⟨w_1001, ww_X6_declares⟩ rfl hy_X6_declares rfl ⟨(Nat.le_of_ble_eq_true rfl), (Nat.le_of_ble_eq_true rfl)⟩ hP hS hl.1 (Nat.le_of_ble_eq_true rfl) dX1_winner_55 rfl ⟨(Nat.le_of_ble_eq_true rfl), (Nat.le_of_ble_eq_true rfl)⟩) ?_
        refine lv_if_eq (tgt := 75) hx hb dX1_winner_58 rfl (fun hc => ?_) (fun hc => ?_)
        · have h := ip hc h
          exact N_X1_winner_75 X hP hS ih (lv_sub hl [0, 1, 2, 3, 4, 5] rfl) h
        · have h := ine hc h
          refine c_aload hx hb dX1_winner_61 (lv_at hl 5 rfl) ?_
          obtain ⟨v4, hv4, h⟩ := ob h
          refine c_gI X hP hv4 (Nat.le_of_ble_eq_true rfl) (Nat.le_of_ble_eq_true rfl) rfl w_167 dX1_winner_63 ?_
          refine lv_iload hx hb dX1_winner_66 (lv_at hl 3 rfl) ?_
          refine lv_icmp_ge (tgt := 75) hx hb dX1_winner_68 rfl (fun hc => ?_) (fun hc => ?_)
          · have h := ip hc h
            exact N_X1_winner_75 X hP hS ih (lv_sub hl [0, 1, 2, 3, 4, 5] rfl) h
          · have h := ine hc h
            refine lv_iconst (v := (1:Int32)) hx hb dX1_winner_71 (by decide) ?_
            refine lv_goto (tgt := 76) hx hb dX1_winner_72 rfl ?_
            exact N_X1_winner_76 X hP hS ih (lv_sub hl [0, 1, 2, 3, 4, 5] rfl) h
set_option maxRecDepth 20000 in
set_option maxHeartbeats 4000000 in
theorem N_X1_winner_25 {p : Program} {l : Launch} {e : Env} {s : State} {m : MethodId} {args : Array Value} {below : List Frame} {meth : Method} {c : Code} {D : cD} {Φ : cG} {x0 : Nat}   {x2 : Int32} {x3 : Int64} {x5 : Int32} {y0 : Option Nat} {σ : cS} {ls : Array Slot} {r : Option Nat} (X : cX p s m args meth c cX1_winner 9 (some (.object "Cascadery$Rule")) RX1 D Φ) (hP : cP D Φ σ s.heap) (hS : va_S (cReg Φ) s.heap s.heap [])  (hl : lv_has ls 9 [(0, cv Φ (some x0)), (2, .int x2), (3, .long x3), (5, .int x5)]) (h : f_X1_winner_25  x0 x2 x3 x5 y0 σ = some r) : cWr p l e 1 31 s m args below meth c (some (cv Φ r)) (F0 m 25 ls [cv Φ y0]) := by
  have hx := X.1
  have hb := X.2.1
  have hown := X.2.2.2.1
  have hts := X.2.2.2.2.1
  have h : ((gR σ (some x0) 1 6).bind (fun v1 => f_X1_winner_33 x0 4000 (x2) (x3) (x5) (y0) (v1) σ)) = some r := h
  refine c_astore hx hb dX1_winner_25 hl (Nat.le_of_ble_eq_true rfl) (lvKa rfl (lvKa rfl (lvKa rfl (lvKi lvK0)))) rfl (fun ls (hl : lv_has ls 9 [(6, cv Φ y0), (0, cv Φ (some x0)), (2, .int x2), (3, .long x3), (5, .int x5)]) => ?_)
  refine c_aload_n hx hb dX1_winner_27 rfl (lv_at hl 1 rfl) ?_
  obtain ⟨v1, hv1, h⟩ := ob h
  refine c_gR X hP hv1 (Nat.le_of_ble_eq_true rfl) (Nat.le_of_ble_eq_true rfl) rfl w_506 dX1_winner_28 ?_
  refine c_astore hx hb dX1_winner_31 hl (Nat.le_of_ble_eq_true rfl) (lvKr (lvKa rfl (lvKa rfl (lvKa rfl (lvKa rfl lvK0))))) rfl (fun ls (hl : lv_has ls 9 [(7, cv Φ v1), (6, cv Φ y0), (0, cv Φ (some x0)), (2, .int x2), (3, .long x3), (5, .int x5)]) => ?_)
  exact N_X1_winner_33 X hP hS (lv_sub hl [2, 3, 4, 5, 1, 0] rfl) h
set_option maxRecDepth 20000 in
set_option maxHeartbeats 4000000 in
theorem N_X1_winner_24 {p : Program} {l : Launch} {e : Env} {s : State} {m : MethodId} {args : Array Value} {below : List Frame} {meth : Method} {c : Code} {D : cD} {Φ : cG} {x0 : Nat}   {x2 : Int32} {x3 : Int64} {x5 : Int32} {σ : cS} {ls : Array Slot} {r : Option Nat} (X : cX p s m args meth c cX1_winner 9 (some (.object "Cascadery$Rule")) RX1 D Φ) (hP : cP D Φ σ s.heap) (hS : va_S (cReg Φ) s.heap s.heap [])  (hl : lv_has ls 9 [(0, cv Φ (some x0)), (2, .int x2), (3, .long x3), (5, .int x5)]) (h : f_X1_winner_24  x0 x2 x3 x5 σ = some r) : cWr p l e 1 31 s m args below meth c (some (cv Φ r)) (F0 m 24 ls []) := by
  have hx := X.1
  have hb := X.2.1
  have hown := X.2.2.2.1
  have hts := X.2.2.2.2.1
  have h : (f_X1_winner_25 x0 (x2) (x3) (x5) (none) σ) = some r := h
  refine c_null (Φ := Φ) hx hb dX1_winner_24 ?_
  exact N_X1_winner_25 X hP hS (lv_sub hl [0, 1, 2, 3] rfl) h
set_option maxRecDepth 20000 in
set_option maxHeartbeats 4000000 in
theorem K_X1_winner (l : Launch) (D : cD) (Φ : cG) (σ : cS) (x0 : Nat) (x1 : Option Nat) (x2 : Int32) (x3 : Int64) (x5 : Int32) {r : Option Nat} (h : f_X1_winner x0 x1 x2 x3 x5 σ = some r) : Met l yX1_winner (Cond.code yX1_winner cX1_winner 9 (some (.object "Cascadery$Rule")) :: BG) (rA 1 0 0 31) (cPc D Φ σ [cv Φ (some x0), cv Φ x1, .int x2, .long x3, .int x5]) (cQr (some (cv Φ r))) 0 0 (fun _ => False) := by
  refine Met.ofW (cc := cX1_winner) (maxL := 9) (ret := (some (.object "Cascadery$Rule"))) (by decide) rfl ?_
  intro p e s m args below meth c s₁ B hml hv
  obtain ⟨rfl, hP, hK, hZ⟩ := hv
  have X : cX p s m [cv Φ (some x0), cv Φ x1, .int x2, .long x3, .int x5].toArray meth c cX1_winner 9 (some (.object "Cascadery$Rule")) RX1 D Φ := cX_of B hml hK hZ
  have hx := X.1
  have hb := X.2.1
  have hown := X.2.2.2.1
  have hts := X.2.2.2.2.1
  have hl := lv_entry [cv Φ (some x0), cv Φ x1, .int x2, .long x3, .int x5] (n := 9) (by simp only [lgs_r, lgs_i, lgs_l, lgs_0, List.length]; exact Nat.le_of_ble_eq_true rfl)
  rw [lg_entry_eq]
  generalize (lg_sl [cv Φ (some x0), cv Φ x1, .int x2, .long x3, .int x5] ++ List.replicate (9 - (lg_sl [cv Φ (some x0), cv Φ x1, .int x2, .long x3, .int x5]).length) Slot.unset).toArray = ls at hl ⊢
  simp only [lv_args_r, lv_args_i, lv_args_l, lv_args_0] at hl
  have hl : lv_has ls 9 [(0, cv Φ (some x0)), (1, cv Φ x1), (2, .int x2), (3, .long x3), (5, .int x5)] := hl
  have hS : va_S (cReg Φ) s.heap s.heap [] := va_S.rf
  show cWr p l e 1 31 s m [cv Φ (some x0), cv Φ x1, .int x2, .long x3, .int x5].toArray below meth c (some (cv Φ r)) (F0 m 0 ls [])
  have h : (if x5 ≤ (2:Int32) then (f_X1_winner_24 x0 (x2) (x3) (x5) σ) else ((gR σ x1 3 18).bind (fun v1 => (rc σ v1 6).bind (fun v2 => (f_X6_declares v2 (x2) σ).bind (fun v3 => if v3 = (0:Int32) then (f_X1_winner_24 x0 (x2) (x3) (x5) σ) else ((gR σ x1 3 18).bind (fun v4 => f_X1_winner_25 x0 (x2) (x3) (x5) (v4) σ))))))) = some r := h
  refine lv_iconst (v := (2:Int32)) hx hb dX1_winner_0 (by decide) ?_
  refine lv_iload hx hb dX1_winner_1 (lv_at hl 4 rfl) ?_
  refine lv_icmp_ge (tgt := 24) hx hb dX1_winner_3 rfl (fun hc => ?_) (fun hc => ?_)
  · have h := ip hc h
    exact N_X1_winner_24 X hP hS (lv_sub hl [0, 2, 3, 4] rfl) h
  · have h := ine hc h
    refine c_aload_n hx hb dX1_winner_6 rfl (lv_at hl 1 rfl) ?_
    obtain ⟨v1, hv1, h⟩ := ob h
    refine c_gR X hP hv1 (Nat.le_of_ble_eq_true rfl) (Nat.le_of_ble_eq_true rfl) rfl w_278 dX1_winner_7 ?_
    refine lv_iload_n hx hb dX1_winner_10 rfl (lv_at hl 2 rfl) ?_
    obtain ⟨v2, hv2, h⟩ := ob h
    obtain ⟨v3, hv3, h⟩ := ob h
    refine c_cr (c_runV X (K_X6_declares l D Φ σ v2 (x2) hv3) hv2 ⟨Nat.le_of_ble_eq_true rfl, by decide⟩ ⟨w_1001, ww_X6_declares⟩ rfl hy_X6_declares rfl ⟨(Nat.le_of_ble_eq_true rfl), (Nat.le_of_ble_eq_true rfl)⟩ hP hS hl.1 (Nat.le_of_ble_eq_true rfl) dX1_winner_11 rfl ⟨(Nat.le_of_ble_eq_true rfl), (Nat.le_of_ble_eq_true rfl)⟩) ?_
    refine lv_if_eq (tgt := 24) hx hb dX1_winner_14 rfl (fun hc => ?_) (fun hc => ?_)
    · have h := ip hc h
      exact N_X1_winner_24 X hP hS (lv_sub hl [0, 2, 3, 4] rfl) h
    · have h := ine hc h
      refine c_aload_n hx hb dX1_winner_17 rfl (lv_at hl 1 rfl) ?_
      obtain ⟨v4, hv4, h⟩ := ob h
      refine c_gR X hP hv4 (Nat.le_of_ble_eq_true rfl) (Nat.le_of_ble_eq_true rfl) rfl w_278 dX1_winner_18 ?_
      refine lv_goto (tgt := 25) hx hb dX1_winner_21 rfl ?_
      exact N_X1_winner_25 X hP hS (lv_sub hl [0, 2, 3, 4] rfl) h
theorem ww_X1_winner : Cond.instanceMethod yX1_winner ∈ BG ∧ Cond.selects (yX1_winner).cls yX1_winner yX1_winner ∈ BG ∧ Cond.initialized (yX1_winner).cls ∈ BG ∧ Cond.code yX1_winner cX1_winner 9 (some (.object "Cascadery$Rule")) ∈ BG := ⟨w_999, w_32, w_64, w_1000⟩
theorem hy_X1_winner : (yX1_winner).cls ≠ "java/lang/invoke/MethodHandle" ∧ (yX1_winner).cls ≠ "java/lang/invoke/VarHandle" ∧ (parseMethodDescriptor (yX1_winner).desc).map (fun d => d.parameters.length) = some 4 := ⟨by decide, by decide, by decide +kernel⟩
def f_X1_gather_76 (k10 : Option Nat → Int64 → Int32 → cS → Option (cS)) (x0 : Nat) (x1 : Option Nat) (x3 : Int64) (x5 : Int32) (x6 : Option Nat) (σ : cS) : Option (cS) := (gR σ (some x0) 1 13).bind (fun v1 => (sR σ v1 6 x5 x6).bind (fun v2 => k10 (x1) (x3) ((x5 + (1:Int32))) v2))
def f_X1_gather_31 (k10 : Option Nat → Int64 → Int32 → cS → Option (cS)) (x0 : Nat) : Nat → Option Nat → Int64 → Int32 → Option Nat → Int32 → cS → Option (cS)
  | 0, _, _, _, _, _, _ => none
  | n + 1, x1, x3, x5, x6, x7, σ => if (2:Int32) < x7 then (f_X1_gather_76 k10 x0 (x1) (x3) (x5) (x6) σ) else (if x6 = none then (f_X1_gather_76 k10 x0 (x1) (x3) (x5) (x6) σ) else ((gR σ x6 6 8).bind (fun v1 => (aI σ v1 x5).bind (fun v2 => if v2 = (10:Int32) then ((gI σ x6 6 3).bind (fun v3 => (rc σ (some x0) 1).bind (fun v4 => (f_X1_winner v4 (x1) (x5) (x3) (v3) σ).bind (fun v5 => f_X1_gather_31 k10 x0 n (x1) (x3) (x5) (v5) ((x7 + (1:Int32))) σ)))) else (f_X1_gather_76 k10 x0 (x1) (x3) (x5) (x6) σ)))))
def f_X1_gather_10  (x0 : Nat) : Nat → Option Nat → Int64 → Int32 → cS → Option (cS)
  | 0, _, _, _, _ => none
  | n + 1, x1, x3, x5, σ => if (15:Int32) ≤ x5 then (some σ) else ((rc σ (some x0) 1).bind (fun v1 => (f_X1_winner v1 (x1) (x5) (x3) ((3:Int32)) σ).bind (fun v2 => f_X1_gather_31 (f_X1_gather_10 x0 n) x0 4000 (x1) (x3) (x5) (v2) ((0:Int32)) σ)))
def f_X1_gather (x0 : Nat) (x1 : Option Nat) (x2 : Option Nat) (σ : cS) : Option (cS) := (rc σ (some x0) 1).bind (fun v1 => (f_X1_applying v1 (x1) (x2) σ).bind (fun v2 => f_X1_gather_10 x0 4000 (x1) (v2) ((0:Int32)) σ))
set_option maxRecDepth 20000 in
set_option maxHeartbeats 4000000 in
theorem N_X1_gather_76 {p : Program} {l : Launch} {e : Env} {s : State} {m : MethodId} {args : Array Value} {below : List Frame} {meth : Method} {c : Code} {D : cD} {Φ : cG} {x0 : Nat} {k10 : Option Nat → Int64 → Int32 → cS → Option (cS)}  {x1 : Option Nat} {x3 : Int64} {x5 : Int32} {x6 : Option Nat} {σ : cS} {H : Heap} {locs : List Loc} {ls : Array Slot} {q : cS} (X : cX p s m args meth c cX1_gather 8 none RX1 D Φ) (hP : cP D Φ σ H) (hS : va_S (cReg Φ) s.heap H locs) (hk10 : ∀ {x1 : Option Nat} {x3 : Int64} {x5 : Int32} {σ : cS} {H : Heap} {locs : List Loc} {ls : Array Slot}, cP D Φ σ H → va_S (cReg Φ) s.heap H locs → lv_has ls 8 [(0, cv Φ (some x0)), (1, cv Φ x1), (3, .long x3), (5, .int x5)] → k10 x1 x3 x5 σ = some q → cWw p l e 2 0 0 59 s m args below meth c D Φ q none H locs 0 0 (F0 m 10 ls [])) (hl : lv_has ls 8 [(0, cv Φ (some x0)), (1, cv Φ x1), (3, .long x3), (5, .int x5), (6, cv Φ x6)]) (h : f_X1_gather_76 k10 x0 x1 x3 x5 x6 σ = some q) : cWw p l e 2 0 0 59 s m args below meth c D Φ q none H locs 0 0 (F0 m 76 ls []) := by
  have hx := X.1
  have hb := X.2.1
  have hown := X.2.2.2.1
  have hts := X.2.2.2.2.1
  have h : ((gR σ (some x0) 1 13).bind (fun v1 => (sR σ v1 6 x5 x6).bind (fun v2 => k10 (x1) (x3) ((x5 + (1:Int32))) v2))) = some q := h
  refine c_aload_n hx hb dX1_gather_76 rfl (lv_at hl 0 rfl) ?_
  obtain ⟨v1, hv1, h⟩ := ob h
  refine c_gR X hP hv1 (Nat.le_of_ble_eq_true rfl) (Nat.le_of_ble_eq_true rfl) rfl w_518 dX1_gather_77 ?_
  refine lv_iload hx hb dX1_gather_80 (lv_at hl 3 rfl) ?_
  refine c_aload hx hb dX1_gather_82 (lv_at hl 4 rfl) ?_
  obtain ⟨v2, hv2, h⟩ := ob h
  refine c_astq X hP hS hv2 ⟨Nat.le_of_ble_eq_true rfl, by decide⟩ rfl dX1_gather_84 (fun H locs hP hS => ?_)
  refine c_iinc (v := (x5 + (1:Int32))) hx hb dX1_gather_85 hl (k := 3) rfl rfl (Nat.le_of_ble_eq_true rfl) (lvKa rfl (lvKa rfl (lvKa rfl (lvKa rfl (lvKa rfl lvK0))))) rfl (fun ls (hl : lv_has ls 8 [(5, .int (x5 + (1:Int32))), (0, cv Φ (some x0)), (1, cv Φ x1), (3, .long x3), (6, cv Φ x6)]) => ?_)
  refine lv_goto (tgt := 10) hx hb dX1_gather_88 rfl ?_
  exact hk10 hP hS (lv_sub hl [1, 2, 3, 0] rfl) h
set_option maxRecDepth 20000 in
set_option maxHeartbeats 4000000 in
theorem N_X1_gather_31 {p : Program} {l : Launch} {e : Env} {s : State} {m : MethodId} {args : Array Value} {below : List Frame} {meth : Method} {c : Code} {D : cD} {Φ : cG} {x0 : Nat} {k10 : Option Nat → Int64 → Int32 → cS → Option (cS)} {n : Nat} {x1 : Option Nat} {x3 : Int64} {x5 : Int32} {x6 : Option Nat} {x7 : Int32} {σ : cS} {H : Heap} {locs : List Loc} {ls : Array Slot} {q : cS} (X : cX p s m args meth c cX1_gather 8 none RX1 D Φ) (hP : cP D Φ σ H) (hS : va_S (cReg Φ) s.heap H locs) (hk10 : ∀ {x1 : Option Nat} {x3 : Int64} {x5 : Int32} {σ : cS} {H : Heap} {locs : List Loc} {ls : Array Slot}, cP D Φ σ H → va_S (cReg Φ) s.heap H locs → lv_has ls 8 [(0, cv Φ (some x0)), (1, cv Φ x1), (3, .long x3), (5, .int x5)] → k10 x1 x3 x5 σ = some q → cWw p l e 2 0 0 59 s m args below meth c D Φ q none H locs 0 0 (F0 m 10 ls [])) (hl : lv_has ls 8 [(0, cv Φ (some x0)), (1, cv Φ x1), (3, .long x3), (5, .int x5), (6, cv Φ x6), (7, .int x7)]) (h : f_X1_gather_31 k10 x0 n x1 x3 x5 x6 x7 σ = some q) : cWw p l e 2 0 0 59 s m args below meth c D Φ q none H locs 0 0 (F0 m 31 ls []) := by
  have hx := X.1
  have hb := X.2.1
  have hown := X.2.2.2.1
  have hts := X.2.2.2.2.1
  induction n generalizing x1 x3 x5 x6 x7 σ H locs ls with
  | zero => exact absurd (show none = some q from h) (by simp)
  | succ n ih =>
    have h : (if (2:Int32) < x7 then (f_X1_gather_76 k10 x0 (x1) (x3) (x5) (x6) σ) else (if x6 = none then (f_X1_gather_76 k10 x0 (x1) (x3) (x5) (x6) σ) else ((gR σ x6 6 8).bind (fun v1 => (aI σ v1 x5).bind (fun v2 => if v2 = (10:Int32) then ((gI σ x6 6 3).bind (fun v3 => (rc σ (some x0) 1).bind (fun v4 => (f_X1_winner v4 (x1) (x5) (x3) (v3) σ).bind (fun v5 => f_X1_gather_31 k10 x0 n (x1) (x3) (x5) (v5) ((x7 + (1:Int32))) σ)))) else (f_X1_gather_76 k10 x0 (x1) (x3) (x5) (x6) σ)))))) = some q := h
    refine lv_iload hx hb dX1_gather_31 (lv_at hl 5 rfl) ?_
    refine lv_iconst (v := (2:Int32)) hx hb dX1_gather_33 (by decide) ?_
    refine lv_icmp_gt (tgt := 76) hx hb dX1_gather_34 rfl (fun hc => ?_) (fun hc => ?_)
    · have h := ip hc h
      exact N_X1_gather_76 X hP hS hk10 (lv_sub hl [0, 1, 2, 3, 4] rfl) h
    · have h := ine hc h
      refine c_aload hx hb dX1_gather_37 (lv_at hl 4 rfl) ?_
      refine c_ifnull (Φ := Φ) (tgt := 76) hx hb dX1_gather_39 rfl (fun hc => ?_) (fun hc => ?_)
      · have h := ip hc h
        exact N_X1_gather_76 X hP hS hk10 (lv_sub hl [0, 1, 2, 3, 4] rfl) h
      · have h := ine hc h
        refine c_aload hx hb dX1_gather_42 (lv_at hl 4 rfl) ?_
        obtain ⟨v1, hv1, h⟩ := ob h
        refine c_gR X hP hv1 (Nat.le_of_ble_eq_true rfl) (Nat.le_of_ble_eq_true rfl) rfl w_180 dX1_gather_44 ?_
        refine lv_iload hx hb dX1_gather_47 (lv_at hl 3 rfl) ?_
        obtain ⟨v2, hv2, h⟩ := ob h
        refine c_ald X hP hv2 dX1_gather_49 ?_
        refine lv_bipush (v := (10:Int32)) hx hb dX1_gather_50 (by decide) ?_
        refine lv_icmp_ne (tgt := 76) hx hb dX1_gather_52 rfl (fun hc => ?_) (fun hc => ?_)
        · have h := ine hc h
          exact N_X1_gather_76 X hP hS hk10 (lv_sub hl [0, 1, 2, 3, 4] rfl) h
        · have h := ip hc h
          refine c_aload_n hx hb dX1_gather_55 rfl (lv_at hl 0 rfl) ?_
          refine c_aload_n hx hb dX1_gather_56 rfl (lv_at hl 1 rfl) ?_
          refine lv_iload hx hb dX1_gather_57 (lv_at hl 3 rfl) ?_
          refine lv_lload_n hx hb dX1_gather_59 rfl (lv_at hl 2 rfl) ?_
          refine c_aload hx hb dX1_gather_60 (lv_at hl 4 rfl) ?_
          obtain ⟨v3, hv3, h⟩ := ob h
          refine c_gI X hP hv3 (Nat.le_of_ble_eq_true rfl) (Nat.le_of_ble_eq_true rfl) rfl w_167 dX1_gather_62 ?_
          obtain ⟨v4, hv4, h⟩ := ob h
          obtain ⟨v5, hv5, h⟩ := ob h
          refine c_cr (c_runV X (K_X1_winner l D Φ σ v4 (x1) (x5) (x3) (v3) hv5) hv4 ⟨Nat.le_of_ble_eq_true rfl, by decide⟩ ⟨w_997, ww_X1_winner⟩ rfl hy_X1_winner rfl ⟨(Nat.le_of_ble_eq_true rfl), (Nat.le_of_ble_eq_true rfl)⟩ hP hS hl.1 (Nat.le_of_ble_eq_true rfl) dX1_gather_65 rfl ⟨(Nat.le_of_ble_eq_true rfl), (Nat.le_of_ble_eq_true rfl)⟩) ?_
          refine c_astore hx hb dX1_gather_68 hl (Nat.le_of_ble_eq_true rfl) (lvKa rfl (lvKa rfl (lvKa rfl (lvKi (lvKa rfl (lvKa rfl lvK0)))))) rfl (fun ls (hl : lv_has ls 8 [(6, cv Φ v5), (0, cv Φ (some x0)), (1, cv Φ x1), (3, .long x3), (5, .int x5), (7, .int x7)]) => ?_)
          refine c_iinc (v := (x7 + (1:Int32))) hx hb dX1_gather_70 hl (k := 5) rfl rfl (Nat.le_of_ble_eq_true rfl) (lvKr (lvKa rfl (lvKa rfl (lvKa rfl (lvKa rfl (lvKa rfl lvK0)))))) rfl (fun ls (hl : lv_has ls 8 [(7, .int (x7 + (1:Int32))), (6, cv Φ v5), (0, cv Φ (some x0)), (1, cv Φ x1), (3, .long x3), (5, .int x5)]) => ?_)
          refine lv_goto (tgt := 31) hx hb dX1_gather_73 rfl ?_
          exact ih hP hS (lv_sub hl [2, 3, 4, 5, 1, 0] rfl) h
set_option maxRecDepth 20000 in
set_option maxHeartbeats 4000000 in
theorem N_X1_gather_10 {p : Program} {l : Launch} {e : Env} {s : State} {m : MethodId} {args : Array Value} {below : List Frame} {meth : Method} {c : Code} {D : cD} {Φ : cG} {x0 : Nat}  {n : Nat} {x1 : Option Nat} {x3 : Int64} {x5 : Int32} {σ : cS} {H : Heap} {locs : List Loc} {ls : Array Slot} {q : cS} (X : cX p s m args meth c cX1_gather 8 none RX1 D Φ) (hP : cP D Φ σ H) (hS : va_S (cReg Φ) s.heap H locs)  (hl : lv_has ls 8 [(0, cv Φ (some x0)), (1, cv Φ x1), (3, .long x3), (5, .int x5)]) (h : f_X1_gather_10  x0 n x1 x3 x5 σ = some q) : cWw p l e 2 0 0 59 s m args below meth c D Φ q none H locs 0 0 (F0 m 10 ls []) := by
  have hx := X.1
  have hb := X.2.1
  have hown := X.2.2.2.1
  have hts := X.2.2.2.2.1
  induction n generalizing x1 x3 x5 σ H locs ls with
  | zero => exact absurd (show none = some q from h) (by simp)
  | succ n ih =>
    have h : (if (15:Int32) ≤ x5 then (some σ) else ((rc σ (some x0) 1).bind (fun v1 => (f_X1_winner v1 (x1) (x5) (x3) ((3:Int32)) σ).bind (fun v2 => f_X1_gather_31 (f_X1_gather_10 x0 n) x0 4000 (x1) (x3) (x5) (v2) ((0:Int32)) σ)))) = some q := h
    refine lv_iload hx hb dX1_gather_10 (lv_at hl 3 rfl) ?_
    refine lv_bipush (v := (15:Int32)) hx hb dX1_gather_12 (by decide) ?_
    refine lv_icmp_ge (tgt := 91) hx hb dX1_gather_14 rfl (fun hc => ?_) (fun hc => ?_)
    · have h := ip hc h
      obtain rfl := sj h
      exact c_wv X hP hS (Nat.le_of_ble_eq_true rfl) (Nat.le_of_ble_eq_true rfl) dX1_gather_91
    · have h := ine hc h
      refine c_aload_n hx hb dX1_gather_17 rfl (lv_at hl 0 rfl) ?_
      refine c_aload_n hx hb dX1_gather_18 rfl (lv_at hl 1 rfl) ?_
      refine lv_iload hx hb dX1_gather_19 (lv_at hl 3 rfl) ?_
      refine lv_lload_n hx hb dX1_gather_21 rfl (lv_at hl 2 rfl) ?_
      refine lv_iconst (v := (3:Int32)) hx hb dX1_gather_22 (by decide) ?_
      obtain ⟨v1, hv1, h⟩ := ob h
      obtain ⟨v2, hv2, h⟩ := ob h
      refine c_cr (c_runV X (K_X1_winner l D Φ σ v1 (x1) (x5) (x3) ((3:Int32)) hv2) hv1 ⟨Nat.le_of_ble_eq_true rfl, by decide⟩ ⟨w_997, ww_X1_winner⟩ rfl hy_X1_winner rfl ⟨(Nat.le_of_ble_eq_true rfl), (Nat.le_of_ble_eq_true rfl)⟩ hP hS hl.1 (Nat.le_of_ble_eq_true rfl) dX1_gather_23 rfl ⟨(Nat.le_of_ble_eq_true rfl), (Nat.le_of_ble_eq_true rfl)⟩) ?_
      refine c_astore hx hb dX1_gather_26 hl (Nat.le_of_ble_eq_true rfl) (lvKa rfl (lvKa rfl (lvKa rfl (lvKi lvK0)))) rfl (fun ls (hl : lv_has ls 8 [(6, cv Φ v2), (0, cv Φ (some x0)), (1, cv Φ x1), (3, .long x3), (5, .int x5)]) => ?_)
      refine lv_iconst (v := (0:Int32)) hx hb dX1_gather_28 (by decide) ?_
      refine c_istore hx hb dX1_gather_29 hl (Nat.le_of_ble_eq_true rfl) (lvKr (lvKa rfl (lvKa rfl (lvKa rfl (lvKa rfl lvK0))))) rfl (fun ls (hl : lv_has ls 8 [(7, .int (0:Int32)), (6, cv Φ v2), (0, cv Φ (some x0)), (1, cv Φ x1), (3, .long x3), (5, .int x5)]) => ?_)
      exact N_X1_gather_31 X hP hS ih (lv_sub hl [2, 3, 4, 5, 1, 0] rfl) h
set_option maxRecDepth 20000 in
set_option maxHeartbeats 4000000 in
theorem K_X1_gather (l : Launch) (D : cD) (Φ : cG) (σ : cS) (x0 : Nat) (x1 : Option Nat) (x2 : Option Nat) {q : cS} (h : f_X1_gather x0 x1 x2 σ = some q) : Met l yX1_gather (Cond.code yX1_gather cX1_gather 8 none :: BG) (rA 2 0 0 59) (cPc D Φ σ [cv Φ (some x0), cv Φ x1, cv Φ x2]) (cQw D Φ q none) 0 0 (cReg Φ) := by
  refine Met.ofW (cc := cX1_gather) (maxL := 8) (ret := none) (by decide) rfl ?_
  intro p e s m args below meth c s₁ B hml hv
  obtain ⟨rfl, hP, hK, hZ⟩ := hv
  have X : cX p s m [cv Φ (some x0), cv Φ x1, cv Φ x2].toArray meth c cX1_gather 8 none RX1 D Φ := cX_of B hml hK hZ
  have hx := X.1
  have hb := X.2.1
  have hown := X.2.2.2.1
  have hts := X.2.2.2.2.1
  have hl := lv_entry [cv Φ (some x0), cv Φ x1, cv Φ x2] (n := 8) (by simp only [lgs_r, lgs_i, lgs_l, lgs_0, List.length]; exact Nat.le_of_ble_eq_true rfl)
  rw [lg_entry_eq]
  generalize (lg_sl [cv Φ (some x0), cv Φ x1, cv Φ x2] ++ List.replicate (8 - (lg_sl [cv Φ (some x0), cv Φ x1, cv Φ x2]).length) Slot.unset).toArray = ls at hl ⊢
  simp only [lv_args_r, lv_args_i, lv_args_l, lv_args_0] at hl
  have hl : lv_has ls 8 [(0, cv Φ (some x0)), (1, cv Φ x1), (2, cv Φ x2)] := hl
  have hS : va_S (cReg Φ) s.heap s.heap [] := va_S.rf
  show cWw p l e 2 0 0 59 s m [cv Φ (some x0), cv Φ x1, cv Φ x2].toArray below meth c D Φ q none s.heap [] 0 0 (F0 m 0 ls [])
  have h : ((rc σ (some x0) 1).bind (fun v1 => (f_X1_applying v1 (x1) (x2) σ).bind (fun v2 => f_X1_gather_10 x0 4000 (x1) (v2) ((0:Int32)) σ))) = some q := h
  refine c_aload_n hx hb dX1_gather_0 rfl (lv_at hl 0 rfl) ?_
  refine c_aload_n hx hb dX1_gather_1 rfl (lv_at hl 1 rfl) ?_
  refine c_aload_n hx hb dX1_gather_2 rfl (lv_at hl 2 rfl) ?_
  obtain ⟨v1, hv1, h⟩ := ob h
  obtain ⟨v2, hv2, h⟩ := ob h
  refine c_cr (c_runV X (K_X1_applying l D Φ σ v1 (x1) (x2) hv2) hv1 ⟨Nat.le_of_ble_eq_true rfl, by decide⟩ ⟨w_989, ww_X1_applying⟩ rfl hy_X1_applying rfl ⟨(Nat.le_of_ble_eq_true rfl), (Nat.le_of_ble_eq_true rfl)⟩ hP hS hl.1 (Nat.le_of_ble_eq_true rfl) dX1_gather_3 rfl ⟨(Nat.le_of_ble_eq_true rfl), (Nat.le_of_ble_eq_true rfl)⟩) ?_
  refine c_lstore_n hx hb dX1_gather_6 rfl hl (Nat.le_of_ble_eq_true rfl) (lvKa rfl (lvKa rfl (lvKr lvK0))) rfl (fun ls (hl : lv_has ls 8 [(3, .long v2), (0, cv Φ (some x0)), (1, cv Φ x1), (2, cv Φ x2)]) => ?_)
  refine lv_iconst (v := (0:Int32)) hx hb dX1_gather_7 (by decide) ?_
  refine c_istore hx hb dX1_gather_8 hl (Nat.le_of_ble_eq_true rfl) (lvKa rfl (lvKa rfl (lvKa rfl (lvKa rfl lvK0)))) rfl (fun ls (hl : lv_has ls 8 [(5, .int (0:Int32)), (3, .long v2), (0, cv Φ (some x0)), (1, cv Φ x1), (2, cv Φ x2)]) => ?_)
  exact N_X1_gather_10 X hP hS (lv_sub hl [2, 3, 1, 0] rfl) h
theorem ww_X1_gather : Cond.instanceMethod yX1_gather ∈ BG ∧ Cond.selects (yX1_gather).cls yX1_gather yX1_gather ∈ BG ∧ Cond.initialized (yX1_gather).cls ∈ BG ∧ Cond.code yX1_gather cX1_gather 8 none ∈ BG := ⟨w_986, w_987, w_64, w_988⟩
theorem hy_X1_gather : (yX1_gather).cls ≠ "java/lang/invoke/MethodHandle" ∧ (yX1_gather).cls ≠ "java/lang/invoke/VarHandle" ∧ (parseMethodDescriptor (yX1_gather).desc).map (fun d => d.parameters.length) = some 2 := ⟨by decide, by decide, by decide +kernel⟩
def f_X1_reason_68  (x0 : Nat) (y0 : Int32) (σ : cS) : Option (Int32) := some y0
def f_X1_reason_56  (x0 : Nat)  (σ : cS) : Option (Int32) := f_X1_reason_68 x0 ((0:Int32)) σ
def f_X1_reason (x0 : Nat) (x1 : Option Nat) (x2 : Option Nat) (x3 : Int32) (x4 : Option Nat) (σ : cS) : Option (Int32) := (rc σ x1 6).bind (fun v1 => (f_X6_declares v1 (x3) σ).bind (fun v2 => if v2 = (0:Int32) then (some (11:Int32)) else ((rc σ (some x0) 1).bind (fun v3 => (f_X1_hindrance v3 (x1) (x2) (x4) σ).bind (fun v4 => if v4 = (0:Int32) then ((rc σ (some x0) 1).bind (fun v5 => (f_X1_applying v5 (x2) (x4) σ).bind (fun v6 => (rc σ (some x0) 1).bind (fun v7 => (f_X1_winner v7 (x2) (x3) (v6) ((3:Int32)) σ).bind (fun v8 => if v8 = none then (f_X1_reason_56 x0 σ) else (if v8 = x1 then (f_X1_reason_56 x0 σ) else ((rc σ (some x0) 1).bind (fun v9 => (f_X1_precedence v9 (v8) (x1) (x3) σ).bind (fun v10 => f_X1_reason_68 x0 (v10) σ))))))))) else (some v4))))))
set_option maxRecDepth 20000 in
set_option maxHeartbeats 4000000 in
theorem N_X1_reason_68 {p : Program} {l : Launch} {e : Env} {s : State} {m : MethodId} {args : Array Value} {below : List Frame} {meth : Method} {c : Code} {D : cD} {Φ : cG} {x0 : Nat}   {y0 : Int32} {σ : cS} {ls : Array Slot} {r : Int32} (X : cX p s m args meth c cX1_reason 7 (some .int) RX1 D Φ) (hP : cP D Φ σ s.heap) (hS : va_S (cReg Φ) s.heap s.heap [])  (hl : lv_has ls 7 []) (h : f_X1_reason_68  x0 y0 σ = some r) : cWr p l e 3 65 s m args below meth c (some (.int r)) (F0 m 68 ls [.int y0]) := by
  have hx := X.1
  have hb := X.2.1
  have hown := X.2.2.2.1
  have hts := X.2.2.2.2.1
  have h : (some y0) = some r := h
  obtain rfl := sj h
  exact c_ri X dX1_reason_68
set_option maxRecDepth 20000 in
set_option maxHeartbeats 4000000 in
theorem N_X1_reason_56 {p : Program} {l : Launch} {e : Env} {s : State} {m : MethodId} {args : Array Value} {below : List Frame} {meth : Method} {c : Code} {D : cD} {Φ : cG} {x0 : Nat}    {σ : cS} {ls : Array Slot} {r : Int32} (X : cX p s m args meth c cX1_reason 7 (some .int) RX1 D Φ) (hP : cP D Φ σ s.heap) (hS : va_S (cReg Φ) s.heap s.heap [])  (hl : lv_has ls 7 []) (h : f_X1_reason_56  x0  σ = some r) : cWr p l e 3 65 s m args below meth c (some (.int r)) (F0 m 56 ls []) := by
  have hx := X.1
  have hb := X.2.1
  have hown := X.2.2.2.1
  have hts := X.2.2.2.2.1
  have h : (f_X1_reason_68 x0 ((0:Int32)) σ) = some r := h
  refine lv_iconst (v := (0:Int32)) hx hb dX1_reason_56 (by decide) ?_
  refine lv_goto (tgt := 68) hx hb dX1_reason_57 rfl ?_
  exact N_X1_reason_68 X hP hS (lv_sub hl [] rfl) h
set_option maxRecDepth 20000 in
set_option maxHeartbeats 4000000 in
theorem K_X1_reason (l : Launch) (D : cD) (Φ : cG) (σ : cS) (x0 : Nat) (x1 : Option Nat) (x2 : Option Nat) (x3 : Int32) (x4 : Option Nat) {r : Int32} (h : f_X1_reason x0 x1 x2 x3 x4 σ = some r) : Met l yX1_reason (Cond.code yX1_reason cX1_reason 7 (some .int) :: BG) (rA 3 0 0 65) (cPc D Φ σ [cv Φ (some x0), cv Φ x1, cv Φ x2, .int x3, cv Φ x4]) (cQr (some (.int r))) 0 0 (fun _ => False) := by
  refine Met.ofW (cc := cX1_reason) (maxL := 7) (ret := (some .int)) (by decide) rfl ?_
  intro p e s m args below meth c s₁ B hml hv
  obtain ⟨rfl, hP, hK, hZ⟩ := hv
  have X : cX p s m [cv Φ (some x0), cv Φ x1, cv Φ x2, .int x3, cv Φ x4].toArray meth c cX1_reason 7 (some .int) RX1 D Φ := cX_of B hml hK hZ
  have hx := X.1
  have hb := X.2.1
  have hown := X.2.2.2.1
  have hts := X.2.2.2.2.1
  have hl := lv_entry [cv Φ (some x0), cv Φ x1, cv Φ x2, .int x3, cv Φ x4] (n := 7) (by simp only [lgs_r, lgs_i, lgs_l, lgs_0, List.length]; exact Nat.le_of_ble_eq_true rfl)
  rw [lg_entry_eq]
  generalize (lg_sl [cv Φ (some x0), cv Φ x1, cv Φ x2, .int x3, cv Φ x4] ++ List.replicate (7 - (lg_sl [cv Φ (some x0), cv Φ x1, cv Φ x2, .int x3, cv Φ x4]).length) Slot.unset).toArray = ls at hl ⊢
  simp only [lv_args_r, lv_args_i, lv_args_l, lv_args_0] at hl
  have hl : lv_has ls 7 [(0, cv Φ (some x0)), (1, cv Φ x1), (2, cv Φ x2), (3, .int x3), (4, cv Φ x4)] := hl
  have hS : va_S (cReg Φ) s.heap s.heap [] := va_S.rf
  show cWr p l e 3 65 s m [cv Φ (some x0), cv Φ x1, cv Φ x2, .int x3, cv Φ x4].toArray below meth c (some (.int r)) (F0 m 0 ls [])
  have h : ((rc σ x1 6).bind (fun v1 => (f_X6_declares v1 (x3) σ).bind (fun v2 => if v2 = (0:Int32) then (some (11:Int32)) else ((rc σ (some x0) 1).bind (fun v3 => (f_X1_hindrance v3 (x1) (x2) (x4) σ).bind (fun v4 => if v4 = (0:Int32) then ((rc σ (some x0) 1).bind (fun v5 => (f_X1_applying v5 (x2) (x4) σ).bind (fun v6 => (rc σ (some x0) 1).bind (fun v7 => (f_X1_winner v7 (x2) (x3) (v6) ((3:Int32)) σ).bind (fun v8 => if v8 = none then (f_X1_reason_56 x0 σ) else (if v8 = x1 then (f_X1_reason_56 x0 σ) else ((rc σ (some x0) 1).bind (fun v9 => (f_X1_precedence v9 (v8) (x1) (x3) σ).bind (fun v10 => f_X1_reason_68 x0 (v10) σ))))))))) else (some v4))))))) = some r := h
  refine c_aload_n hx hb dX1_reason_0 rfl (lv_at hl 1 rfl) ?_
  refine lv_iload_n hx hb dX1_reason_1 rfl (lv_at hl 3 rfl) ?_
  obtain ⟨v1, hv1, h⟩ := ob h
  obtain ⟨v2, hv2, h⟩ := ob h
  refine c_cr (c_runV X (K_X6_declares l D Φ σ v1 (x3) hv2) hv1 ⟨Nat.le_of_ble_eq_true rfl, by decide⟩ ⟨w_1001, ww_X6_declares⟩ rfl hy_X6_declares rfl ⟨(Nat.le_of_ble_eq_true rfl), (Nat.le_of_ble_eq_true rfl)⟩ hP hS hl.1 (Nat.le_of_ble_eq_true rfl) dX1_reason_2 rfl ⟨(Nat.le_of_ble_eq_true rfl), (Nat.le_of_ble_eq_true rfl)⟩) ?_
  refine lv_if_ne (tgt := 11) hx hb dX1_reason_5 rfl (fun hc => ?_) (fun hc => ?_)
  · have h := ine hc h
    refine c_aload_n hx hb dX1_reason_11 rfl (lv_at hl 0 rfl) ?_
    refine c_aload_n hx hb dX1_reason_12 rfl (lv_at hl 1 rfl) ?_
    refine c_aload_n hx hb dX1_reason_13 rfl (lv_at hl 2 rfl) ?_
    refine c_aload hx hb dX1_reason_14 (lv_at hl 4 rfl) ?_
    obtain ⟨v3, hv3, h⟩ := ob h
    obtain ⟨v4, hv4, h⟩ := ob h
    refine c_cr (c_runV X (K_X1_hindrance l D Φ σ v3 (x1) (x2) (x4) hv4) hv3 ⟨Nat.le_of_ble_eq_true rfl, by decide⟩ ⟨w_1192, ww_X1_hindrance⟩ rfl hy_X1_hindrance rfl ⟨(Nat.le_of_ble_eq_true rfl), (Nat.le_of_ble_eq_true rfl)⟩ hP hS hl.1 (Nat.le_of_ble_eq_true rfl) dX1_reason_16 rfl ⟨(Nat.le_of_ble_eq_true rfl), (Nat.le_of_ble_eq_true rfl)⟩) ?_
    refine c_istore hx hb dX1_reason_19 hl (Nat.le_of_ble_eq_true rfl) (lvKa rfl (lvKa rfl (lvKa rfl (lvKa rfl (lvKr lvK0))))) rfl (fun ls (hl : lv_has ls 7 [(5, .int v4), (0, cv Φ (some x0)), (1, cv Φ x1), (2, cv Φ x2), (3, .int x3), (4, cv Φ x4)]) => ?_)
    refine lv_iload hx hb dX1_reason_21 (lv_at hl 0 rfl) ?_
    refine lv_if_eq (tgt := 29) hx hb dX1_reason_23 rfl (fun hc => ?_) (fun hc => ?_)
    · have h := ip hc h
      refine c_aload_n hx hb dX1_reason_29 rfl (lv_at hl 1 rfl) ?_
      refine c_aload_n hx hb dX1_reason_30 rfl (lv_at hl 3 rfl) ?_
      refine lv_iload_n hx hb dX1_reason_31 rfl (lv_at hl 4 rfl) ?_
      refine c_aload_n hx hb dX1_reason_32 rfl (lv_at hl 1 rfl) ?_
      refine c_aload_n hx hb dX1_reason_33 rfl (lv_at hl 3 rfl) ?_
      refine c_aload hx hb dX1_reason_34 (lv_at hl 5 rfl) ?_
      obtain ⟨v5, hv5, h⟩ := ob h
      obtain ⟨v6, hv6, h⟩ := ob h
      refine c_cr (c_runV X (K_X1_applying l D Φ σ v5 (x2) (x4) hv6) hv5 ⟨Nat.le_of_ble_eq_true rfl, by decide⟩ ⟨w_989, ww_X1_applying⟩ rfl hy_X1_applying rfl ⟨(Nat.le_of_ble_eq_true rfl), (Nat.le_of_ble_eq_true rfl)⟩ hP hS hl.1 (Nat.le_of_ble_eq_true rfl) dX1_reason_36 rfl ⟨(Nat.le_of_ble_eq_true rfl), (Nat.le_of_ble_eq_true rfl)⟩) ?_
      refine lv_iconst (v := (3:Int32)) hx hb dX1_reason_39 (by decide) ?_
      obtain ⟨v7, hv7, h⟩ := ob h
      obtain ⟨v8, hv8, h⟩ := ob h
      refine c_cr (c_runV X (K_X1_winner l D Φ σ v7 (x2) (x3) (v6) ((3:Int32)) hv8) hv7 ⟨Nat.le_of_ble_eq_true rfl, by decide⟩ ⟨w_997, ww_X1_winner⟩ rfl hy_X1_winner rfl ⟨(Nat.le_of_ble_eq_true rfl), (Nat.le_of_ble_eq_true rfl)⟩ hP hS hl.1 (Nat.le_of_ble_eq_true rfl) dX1_reason_40 rfl ⟨(Nat.le_of_ble_eq_true rfl), (Nat.le_of_ble_eq_true rfl)⟩) ?_
      refine c_astore hx hb dX1_reason_43 hl (Nat.le_of_ble_eq_true rfl) (lvKi (lvKa rfl (lvKa rfl (lvKa rfl (lvKa rfl (lvKa rfl lvK0)))))) rfl (fun ls (hl : lv_has ls 7 [(6, cv Φ v8), (5, .int v4), (0, cv Φ (some x0)), (1, cv Φ x1), (2, cv Φ x2), (3, .int x3), (4, cv Φ x4)]) => ?_)
      refine c_aload hx hb dX1_reason_45 (lv_at hl 0 rfl) ?_
      refine c_ifnull (Φ := Φ) (tgt := 56) hx hb dX1_reason_47 rfl (fun hc => ?_) (fun hc => ?_)
      · have h := ip hc h
        exact N_X1_reason_56 X hP hS (lv_sub hl [] rfl) h
      · have h := ine hc h
        refine c_aload hx hb dX1_reason_50 (lv_at hl 0 rfl) ?_
        refine c_aload_n hx hb dX1_reason_52 rfl (lv_at hl 3 rfl) ?_
        refine c_acmp_ne (tgt := 60) X hP dX1_reason_53 rfl (fun hc => ?_) (fun hc => ?_)
        · have h := ine hc h
          refine c_aload_n hx hb dX1_reason_60 rfl (lv_at hl 2 rfl) ?_
          refine c_aload hx hb dX1_reason_61 (lv_at hl 0 rfl) ?_
          refine c_aload_n hx hb dX1_reason_63 rfl (lv_at hl 3 rfl) ?_
          refine lv_iload_n hx hb dX1_reason_64 rfl (lv_at hl 5 rfl) ?_
          obtain ⟨v9, hv9, h⟩ := ob h
          obtain ⟨v10, hv10, h⟩ := ob h
          refine c_cr (c_runV X (K_X1_precedence l D Φ σ v9 (v8) (x1) (x3) hv10) hv9 ⟨Nat.le_of_ble_eq_true rfl, by decide⟩ ⟨w_1005, ww_X1_precedence⟩ rfl hy_X1_precedence rfl ⟨(Nat.le_of_ble_eq_true rfl), (Nat.le_of_ble_eq_true rfl)⟩ hP hS hl.1 (Nat.le_of_ble_eq_true rfl) dX1_reason_65 rfl ⟨(Nat.le_of_ble_eq_true rfl), (Nat.le_of_ble_eq_true rfl)⟩) ?_
          exact N_X1_reason_68 X hP hS (lv_sub hl [] rfl) h
        · have h := ip hc h
          exact N_X1_reason_56 X hP hS (lv_sub hl [] rfl) h
    · have h := ine hc h
      refine lv_iload hx hb dX1_reason_26 (lv_at hl 0 rfl) ?_
      obtain rfl := sj h
      exact c_ri X dX1_reason_28
  · have h := ip hc h
    refine lv_bipush (v := (11:Int32)) hx hb dX1_reason_8 (by decide) ?_
    obtain rfl := sj h
    exact c_ri X dX1_reason_10
theorem ww_X1_reason : Cond.instanceMethod yX1_reason ∈ BG ∧ Cond.selects (yX1_reason).cls yX1_reason yX1_reason ∈ BG ∧ Cond.initialized (yX1_reason).cls ∈ BG ∧ Cond.code yX1_reason cX1_reason 7 (some .int) ∈ BG := ⟨w_1189, w_1190, w_64, w_1191⟩
theorem hy_X1_reason : (yX1_reason).cls ≠ "java/lang/invoke/MethodHandle" ∧ (yX1_reason).cls ≠ "java/lang/invoke/VarHandle" ∧ (parseMethodDescriptor (yX1_reason).desc).map (fun d => d.parameters.length) = some 4 := ⟨by decide, by decide, by decide +kernel⟩
def f_X2_init (x0 : Nat) (x1 : Int32) (σ : cS) : Option (cS) := (pR (na σ 20 4) (some x0) 2 1 (some (σ).2)).bind (fun v1 => (pR (na v1 20 4) (some x0) 2 2 (some (v1).2)).bind (fun v2 => (pR (na v2 20 4) (some x0) 2 3 (some (v2).2)).bind (fun v3 => (pI v3 (some x0) 2 0 x1).bind (fun v4 => some v4))))
set_option maxRecDepth 20000 in
set_option maxHeartbeats 4000000 in
theorem K_X2_init (l : Launch) (D : cD) (Φ : cG) (σ : cS) (x0 : Nat) (x1 : Int32) {q : cS} (h : f_X2_init x0 x1 σ = some q) : Met l yX2_init (Cond.code yX2_init cX2_init 2 none :: BG) (rA 1 3 12 20) (cPc D Φ σ [cv Φ (some x0), .int x1]) (cQw D Φ q none) 3 12 (cReg Φ) := by
  refine Met.ofW (cc := cX2_init) (maxL := 2) (ret := none) (by decide) rfl ?_
  intro p e s m args below meth c s₁ B hml hv
  obtain ⟨rfl, hP, hK, hZ⟩ := hv
  have X : cX p s m [cv Φ (some x0), .int x1].toArray meth c cX2_init 2 none RX2 D Φ := cX_of B hml hK hZ
  have hin : meth.name = "<init>" := (name_of_methodNamed B.named B.method).1
  have hx := X.1
  have hb := X.2.1
  have hown := X.2.2.2.1
  have hts := X.2.2.2.2.1
  have hl := lv_entry [cv Φ (some x0), .int x1] (n := 2) (by simp only [lgs_r, lgs_i, lgs_l, lgs_0, List.length]; exact Nat.le_of_ble_eq_true rfl)
  rw [lg_entry_eq]
  generalize (lg_sl [cv Φ (some x0), .int x1] ++ List.replicate (2 - (lg_sl [cv Φ (some x0), .int x1]).length) Slot.unset).toArray = ls at hl ⊢
  simp only [lv_args_r, lv_args_i, lv_args_l, lv_args_0] at hl
  have hl : lv_has ls 2 [(0, cv Φ (some x0)), (1, .int x1)] := hl
  have hS : va_S (cReg Φ) s.heap s.heap [] := va_S.rf
  show cWw p l e 1 3 12 20 s m [cv Φ (some x0), .int x1].toArray below meth c D Φ q none s.heap [] 0 0 (F0 m 0 ls [])
  have h : ((pR (na σ 20 4) (some x0) 2 1 (some (σ).2)).bind (fun v1 => (pR (na v1 20 4) (some x0) 2 2 (some (v1).2)).bind (fun v2 => (pR (na v2 20 4) (some x0) 2 3 (some (v2).2)).bind (fun v3 => (pI v3 (some x0) 2 0 x1).bind (fun v4 => some v4))))) = some q := h
  refine c_aload_n hx hb dX2_init_0 rfl (lv_at hl 0 rfl) ?_
  refine W.objInit hx hb hown (hts _ w_366) (hts _ w_oi) (hts _ w_oc) rfl (hl.1.trans X.2.2.1.symm) rfl dX2_init_1 (Nat.le_of_ble_eq_true rfl) (Nat.le_of_ble_eq_true rfl) ?_
  refine W.eq (g2 := F0 m 4 ls []) rfl ?_
  refine c_aload_n hx hb dX2_init_4 rfl (lv_at hl 0 rfl) ?_
  refine lv_iconst (v := (4:Int32)) hx hb dX2_init_5 (by decide) ?_
  refine c_newa X hP hS (N := 4) w_141 (by decide) rfl (Nat.le_of_ble_eq_true rfl) (Nat.le_of_ble_eq_true rfl) (Nat.le_of_ble_eq_true rfl) dX2_init_6 (fun H hP hS => ?_)
  obtain ⟨v1, hv1, h⟩ := ob h
  refine c_pR X hP hS hv1 (Nat.le_of_ble_eq_true rfl) (Nat.le_of_ble_eq_true rfl) rfl (Or.inr ⟨rfl, hin, rfl⟩) w_369 dX2_init_8 (fun H locs hP hS => ?_)
  refine c_aload_n hx hb dX2_init_11 rfl (lv_at hl 0 rfl) ?_
  refine lv_iconst (v := (4:Int32)) hx hb dX2_init_12 (by decide) ?_
  refine c_newa X hP hS (N := 4) w_141 (by decide) rfl (Nat.le_of_ble_eq_true rfl) (Nat.le_of_ble_eq_true rfl) (Nat.le_of_ble_eq_true rfl) dX2_init_13 (fun H hP hS => ?_)
  obtain ⟨v2, hv2, h⟩ := ob h
  refine c_pR X hP hS hv2 (Nat.le_of_ble_eq_true rfl) (Nat.le_of_ble_eq_true rfl) rfl (Or.inr ⟨rfl, hin, rfl⟩) w_372 dX2_init_15 (fun H locs hP hS => ?_)
  refine c_aload_n hx hb dX2_init_18 rfl (lv_at hl 0 rfl) ?_
  refine lv_iconst (v := (4:Int32)) hx hb dX2_init_19 (by decide) ?_
  refine c_newa X hP hS (N := 4) w_141 (by decide) rfl (Nat.le_of_ble_eq_true rfl) (Nat.le_of_ble_eq_true rfl) (Nat.le_of_ble_eq_true rfl) dX2_init_20 (fun H hP hS => ?_)
  obtain ⟨v3, hv3, h⟩ := ob h
  refine c_pR X hP hS hv3 (Nat.le_of_ble_eq_true rfl) (Nat.le_of_ble_eq_true rfl) rfl (Or.inr ⟨rfl, hin, rfl⟩) w_375 dX2_init_22 (fun H locs hP hS => ?_)
  refine c_aload_n hx hb dX2_init_25 rfl (lv_at hl 0 rfl) ?_
  refine lv_iload_n hx hb dX2_init_26 rfl (lv_at hl 1 rfl) ?_
  obtain ⟨v4, hv4, h⟩ := ob h
  refine c_pI X hP hS hv4 (Nat.le_of_ble_eq_true rfl) (Nat.le_of_ble_eq_true rfl) rfl rfl (Or.inr ⟨rfl, hin, rfl⟩) w_367 dX2_init_27 (fun H locs hP hS => ?_)
  obtain rfl := sj h
  exact c_wv X hP hS (Nat.le_of_ble_eq_true rfl) (Nat.le_of_ble_eq_true rfl) dX2_init_30
theorem ww_X2_init : Cond.instanceMethod yX2_init ∈ BG ∧ Cond.initialized (yX2_init).cls ∈ BG ∧ Cond.code yX2_init cX2_init 2 none ∈ BG := ⟨w_364, w_63, w_365⟩
theorem hy_X2_init : (yX2_init).cls ≠ "java/lang/invoke/MethodHandle" ∧ (yX2_init).cls ≠ "java/lang/invoke/VarHandle" ∧ (parseMethodDescriptor (yX2_init).desc).map (fun d => d.parameters.length) = some 1 := ⟨by decide, by decide, by decide +kernel⟩
def f_X9_init (x0 : Nat)  (σ : cS) : Option (cS) := (pR (na σ 20 15) (some x0) 9 0 (some (σ).2)).bind (fun v1 => (pR (na v1 20 5) (some x0) 9 5 (some (v1).2)).bind (fun v2 => (pR (na v2 20 5) (some x0) 9 6 (some (v2).2)).bind (fun v3 => (pR (na v3 20 5) (some x0) 9 7 (some (v3).2)).bind (fun v4 => some v4))))
set_option maxRecDepth 20000 in
set_option maxHeartbeats 4000000 in
theorem K_X9_init (l : Launch) (D : cD) (Φ : cG) (σ : cS) (x0 : Nat)  {q : cS} (h : f_X9_init x0  σ = some q) : Met l yX9_init (Cond.code yX9_init cX9_init 1 none :: BG) (rA 1 4 30 20) (cPc D Φ σ [cv Φ (some x0)]) (cQw D Φ q none) 4 30 (cReg Φ) := by
  refine Met.ofW (cc := cX9_init) (maxL := 1) (ret := none) (by decide) rfl ?_
  intro p e s m args below meth c s₁ B hml hv
  obtain ⟨rfl, hP, hK, hZ⟩ := hv
  have X : cX p s m [cv Φ (some x0)].toArray meth c cX9_init 1 none RX9 D Φ := cX_of B hml hK hZ
  have hin : meth.name = "<init>" := (name_of_methodNamed B.named B.method).1
  have hx := X.1
  have hb := X.2.1
  have hown := X.2.2.2.1
  have hts := X.2.2.2.2.1
  have hl := lv_entry [cv Φ (some x0)] (n := 1) (by simp only [lgs_r, lgs_i, lgs_l, lgs_0, List.length]; exact Nat.le_of_ble_eq_true rfl)
  rw [lg_entry_eq]
  generalize (lg_sl [cv Φ (some x0)] ++ List.replicate (1 - (lg_sl [cv Φ (some x0)]).length) Slot.unset).toArray = ls at hl ⊢
  simp only [lv_args_r, lv_args_i, lv_args_l, lv_args_0] at hl
  have hl : lv_has ls 1 [(0, cv Φ (some x0))] := hl
  have hS : va_S (cReg Φ) s.heap s.heap [] := va_S.rf
  show cWw p l e 1 4 30 20 s m [cv Φ (some x0)].toArray below meth c D Φ q none s.heap [] 0 0 (F0 m 0 ls [])
  have h : ((pR (na σ 20 15) (some x0) 9 0 (some (σ).2)).bind (fun v1 => (pR (na v1 20 5) (some x0) 9 5 (some (v1).2)).bind (fun v2 => (pR (na v2 20 5) (some x0) 9 6 (some (v2).2)).bind (fun v3 => (pR (na v3 20 5) (some x0) 9 7 (some (v3).2)).bind (fun v4 => some v4))))) = some q := h
  refine c_aload_n hx hb dX9_init_0 rfl (lv_at hl 0 rfl) ?_
  refine W.objInit hx hb hown (hts _ w_92) (hts _ w_oi) (hts _ w_oc) rfl (hl.1.trans X.2.2.1.symm) rfl dX9_init_1 (Nat.le_of_ble_eq_true rfl) (Nat.le_of_ble_eq_true rfl) ?_
  refine W.eq (g2 := F0 m 4 ls []) rfl ?_
  refine c_aload_n hx hb dX9_init_4 rfl (lv_at hl 0 rfl) ?_
  refine lv_bipush (v := (15:Int32)) hx hb dX9_init_5 (by decide) ?_
  refine c_newa X hP hS (N := 15) w_141 (by decide) rfl (Nat.le_of_ble_eq_true rfl) (Nat.le_of_ble_eq_true rfl) (Nat.le_of_ble_eq_true rfl) dX9_init_7 (fun H hP hS => ?_)
  obtain ⟨v1, hv1, h⟩ := ob h
  refine c_pR X hP hS hv1 (Nat.le_of_ble_eq_true rfl) (Nat.le_of_ble_eq_true rfl) rfl (Or.inr ⟨rfl, hin, rfl⟩) w_93 dX9_init_9 (fun H locs hP hS => ?_)
  refine c_aload_n hx hb dX9_init_12 rfl (lv_at hl 0 rfl) ?_
  refine lv_iconst (v := (5:Int32)) hx hb dX9_init_13 (by decide) ?_
  refine c_newa X hP hS (N := 5) w_141 (by decide) rfl (Nat.le_of_ble_eq_true rfl) (Nat.le_of_ble_eq_true rfl) (Nat.le_of_ble_eq_true rfl) dX9_init_14 (fun H hP hS => ?_)
  obtain ⟨v2, hv2, h⟩ := ob h
  refine c_pR X hP hS hv2 (Nat.le_of_ble_eq_true rfl) (Nat.le_of_ble_eq_true rfl) rfl (Or.inr ⟨rfl, hin, rfl⟩) w_103 dX9_init_16 (fun H locs hP hS => ?_)
  refine c_aload_n hx hb dX9_init_19 rfl (lv_at hl 0 rfl) ?_
  refine lv_iconst (v := (5:Int32)) hx hb dX9_init_20 (by decide) ?_
  refine c_newa X hP hS (N := 5) w_141 (by decide) rfl (Nat.le_of_ble_eq_true rfl) (Nat.le_of_ble_eq_true rfl) (Nat.le_of_ble_eq_true rfl) dX9_init_21 (fun H hP hS => ?_)
  obtain ⟨v3, hv3, h⟩ := ob h
  refine c_pR X hP hS hv3 (Nat.le_of_ble_eq_true rfl) (Nat.le_of_ble_eq_true rfl) rfl (Or.inr ⟨rfl, hin, rfl⟩) w_104 dX9_init_23 (fun H locs hP hS => ?_)
  refine c_aload_n hx hb dX9_init_26 rfl (lv_at hl 0 rfl) ?_
  refine lv_iconst (v := (5:Int32)) hx hb dX9_init_27 (by decide) ?_
  refine c_newa X hP hS (N := 5) w_141 (by decide) rfl (Nat.le_of_ble_eq_true rfl) (Nat.le_of_ble_eq_true rfl) (Nat.le_of_ble_eq_true rfl) dX9_init_28 (fun H hP hS => ?_)
  obtain ⟨v4, hv4, h⟩ := ob h
  refine c_pR X hP hS hv4 (Nat.le_of_ble_eq_true rfl) (Nat.le_of_ble_eq_true rfl) rfl (Or.inr ⟨rfl, hin, rfl⟩) w_105 dX9_init_30 (fun H locs hP hS => ?_)
  obtain rfl := sj h
  exact c_wv X hP hS (Nat.le_of_ble_eq_true rfl) (Nat.le_of_ble_eq_true rfl) dX9_init_33
theorem ww_X9_init : Cond.instanceMethod yX9_init ∈ BG ∧ Cond.initialized (yX9_init).cls ∈ BG ∧ Cond.code yX9_init cX9_init 1 none ∈ BG := ⟨w_90, w_57, w_91⟩
theorem hy_X9_init : (yX9_init).cls ≠ "java/lang/invoke/MethodHandle" ∧ (yX9_init).cls ≠ "java/lang/invoke/VarHandle" ∧ (parseMethodDescriptor (yX9_init).desc).map (fun d => d.parameters.length) = some 0 := ⟨by decide, by decide, by decide +kernel⟩
def f_X3_init (x0 : Nat) (x1 : Int32) (x2 : Int32) (σ : cS) : Option (cS) := (pI σ (some x0) 3 4 ((-1):Int32)).bind (fun v1 => (pI v1 (some x0) 3 5 ((-1):Int32)).bind (fun v2 => (pI v2 (some x0) 3 6 ((-1):Int32)).bind (fun v3 => (pI v3 (some x0) 3 14 (1:Int32)).bind (fun v4 => (rc (nw v4 6) (some (v4).2) 6).bind (fun v5 => (f_X6_init v5 (((-1):Int32)) (none) (none) (nw v4 6)).bind (fun v6 => (pR v6 (some x0) 3 18 (some (v4).2)).bind (fun v7 => (rc (nw v7 9) (some (v7).2) 9).bind (fun v8 => (f_X9_init v8  (nw v7 9)).bind (fun v9 => (pR v9 (some x0) 3 19 (some (v7).2)).bind (fun v10 => (pI v10 (some x0) 3 0 x1).bind (fun v11 => (pI v11 (some x0) 3 1 x2).bind (fun v12 => some v12))))))))))))
set_option maxRecDepth 20000 in
set_option maxHeartbeats 4000000 in
theorem K_X3_init (l : Launch) (D : cD) (Φ : cG) (σ : cS) (x0 : Nat) (x1 : Int32) (x2 : Int32) {q : cS} (h : f_X3_init x0 x1 x2 σ = some q) : Met l yX3_init (Cond.code yX3_init cX3_init 3 none :: BG) (rA 2 10 119 43) (cPc D Φ σ [cv Φ (some x0), .int x1, .int x2]) (cQw D Φ q none) 10 119 (cReg Φ) := by
  refine Met.ofW (cc := cX3_init) (maxL := 3) (ret := none) (by decide) rfl ?_
  intro p e s m args below meth c s₁ B hml hv
  obtain ⟨rfl, hP, hK, hZ⟩ := hv
  have X : cX p s m [cv Φ (some x0), .int x1, .int x2].toArray meth c cX3_init 3 none RX3 D Φ := cX_of B hml hK hZ
  have hin : meth.name = "<init>" := (name_of_methodNamed B.named B.method).1
  have hx := X.1
  have hb := X.2.1
  have hown := X.2.2.2.1
  have hts := X.2.2.2.2.1
  have hl := lv_entry [cv Φ (some x0), .int x1, .int x2] (n := 3) (by simp only [lgs_r, lgs_i, lgs_l, lgs_0, List.length]; exact Nat.le_of_ble_eq_true rfl)
  rw [lg_entry_eq]
  generalize (lg_sl [cv Φ (some x0), .int x1, .int x2] ++ List.replicate (3 - (lg_sl [cv Φ (some x0), .int x1, .int x2]).length) Slot.unset).toArray = ls at hl ⊢
  simp only [lv_args_r, lv_args_i, lv_args_l, lv_args_0] at hl
  have hl : lv_has ls 3 [(0, cv Φ (some x0)), (1, .int x1), (2, .int x2)] := hl
  have hS : va_S (cReg Φ) s.heap s.heap [] := va_S.rf
  show cWw p l e 2 10 119 43 s m [cv Φ (some x0), .int x1, .int x2].toArray below meth c D Φ q none s.heap [] 0 0 (F0 m 0 ls [])
  have h : ((pI σ (some x0) 3 4 ((-1):Int32)).bind (fun v1 => (pI v1 (some x0) 3 5 ((-1):Int32)).bind (fun v2 => (pI v2 (some x0) 3 6 ((-1):Int32)).bind (fun v3 => (pI v3 (some x0) 3 14 (1:Int32)).bind (fun v4 => (rc (nw v4 6) (some (v4).2) 6).bind (fun v5 => (f_X6_init v5 (((-1):Int32)) (none) (none) (nw v4 6)).bind (fun v6 => (pR v6 (some x0) 3 18 (some (v4).2)).bind (fun v7 => (rc (nw v7 9) (some (v7).2) 9).bind (fun v8 => (f_X9_init v8  (nw v7 9)).bind (fun v9 => (pR v9 (some x0) 3 19 (some (v7).2)).bind (fun v10 => (pI v10 (some x0) 3 0 x1).bind (fun v11 => (pI v11 (some x0) 3 1 x2).bind (fun v12 => some v12))))))))))))) = some q := h
  refine c_aload_n hx hb dX3_init_0 rfl (lv_at hl 0 rfl) ?_
  refine W.objInit hx hb hown (hts _ w_153) (hts _ w_oi) (hts _ w_oc) rfl (hl.1.trans X.2.2.1.symm) rfl dX3_init_1 (Nat.le_of_ble_eq_true rfl) (Nat.le_of_ble_eq_true rfl) ?_
  refine W.eq (g2 := F0 m 4 ls []) rfl ?_
  refine c_aload_n hx hb dX3_init_4 rfl (lv_at hl 0 rfl) ?_
  refine lv_iconst (v := ((-1):Int32)) hx hb dX3_init_5 (by decide) ?_
  obtain ⟨v1, hv1, h⟩ := ob h
  refine c_pI X hP hS hv1 (Nat.le_of_ble_eq_true rfl) (Nat.le_of_ble_eq_true rfl) rfl rfl (Or.inl rfl) w_237 dX3_init_6 (fun H locs hP hS => ?_)
  refine c_aload_n hx hb dX3_init_9 rfl (lv_at hl 0 rfl) ?_
  refine lv_iconst (v := ((-1):Int32)) hx hb dX3_init_10 (by decide) ?_
  obtain ⟨v2, hv2, h⟩ := ob h
  refine c_pI X hP hS hv2 (Nat.le_of_ble_eq_true rfl) (Nat.le_of_ble_eq_true rfl) rfl rfl (Or.inl rfl) w_240 dX3_init_11 (fun H locs hP hS => ?_)
  refine c_aload_n hx hb dX3_init_14 rfl (lv_at hl 0 rfl) ?_
  refine lv_iconst (v := ((-1):Int32)) hx hb dX3_init_15 (by decide) ?_
  obtain ⟨v3, hv3, h⟩ := ob h
  refine c_pI X hP hS hv3 (Nat.le_of_ble_eq_true rfl) (Nat.le_of_ble_eq_true rfl) rfl rfl (Or.inl rfl) w_244 dX3_init_16 (fun H locs hP hS => ?_)
  refine c_aload_n hx hb dX3_init_19 rfl (lv_at hl 0 rfl) ?_
  refine lv_iconst (v := (1:Int32)) hx hb dX3_init_20 (by decide) ?_
  obtain ⟨v4, hv4, h⟩ := ob h
  refine c_pI X hP hS hv4 (Nat.le_of_ble_eq_true rfl) (Nat.le_of_ble_eq_true rfl) rfl rfl (Or.inl rfl) w_267 dX3_init_21 (fun H locs hP hS => ?_)
  refine c_aload_n hx hb dX3_init_24 rfl (lv_at hl 0 rfl) ?_
  refine c_new X hP hS (ci := 6) ⟨Nat.le_of_ble_eq_true rfl, by decide⟩ ⟨w_154, w_155, w_60⟩ (Nat.le_of_ble_eq_true rfl) (Nat.le_of_ble_eq_true rfl) dX3_init_25 (fun H hP hS => ?_)
  refine c_dupq hx hb dX3_init_28 ?_
  refine lv_iconst (v := ((-1):Int32)) hx hb dX3_init_29 (by decide) ?_
  refine c_null (Φ := Φ) hx hb dX3_init_30 ?_
  refine c_null (Φ := Φ) hx hb dX3_init_31 ?_
  obtain ⟨v5, hv5, h⟩ := ob h
  obtain ⟨v6, hv6, h⟩ := ob h
  refine c_cw (c_runI X (K_X6_init l D Φ (nw v4 6) v5 (((-1):Int32)) (none) (none) hv6) hv5 (Nat.le_of_ble_eq_true rfl) ⟨w_156, ww_X6_init⟩ rfl rfl hy_X6_init rfl ⟨(Nat.le_of_ble_eq_true rfl), (Nat.le_of_ble_eq_true rfl)⟩ hP hS hl.1 (Nat.le_of_ble_eq_true rfl) dX3_init_32 rfl ⟨(Nat.le_of_ble_eq_true rfl), (Nat.le_of_ble_eq_true rfl)⟩) hS (fun H locs hP hS => ?_)
  refine W.eq (g2 := F0 m 35 ls [cv Φ (some (v4).2), cv Φ (some x0)]) rfl ?_
  obtain ⟨v7, hv7, h⟩ := ob h
  refine c_pR X hP hS hv7 (Nat.le_of_ble_eq_true rfl) (Nat.le_of_ble_eq_true rfl) rfl (Or.inr ⟨rfl, hin, rfl⟩) w_277 dX3_init_35 (fun H locs hP hS => ?_)
  refine c_aload_n hx hb dX3_init_38 rfl (lv_at hl 0 rfl) ?_
  refine c_new X hP hS (ci := 9) ⟨Nat.le_of_ble_eq_true rfl, by decide⟩ ⟨w_222, w_88, w_57⟩ (Nat.le_of_ble_eq_true rfl) (Nat.le_of_ble_eq_true rfl) dX3_init_39 (fun H hP hS => ?_)
  refine c_dupq hx hb dX3_init_42 ?_
  obtain ⟨v8, hv8, h⟩ := ob h
  obtain ⟨v9, hv9, h⟩ := ob h
  refine c_cw (c_runIN X (K_X9_init l D Φ (nw v7 9) v8  hv9) hv8 (Nat.le_of_ble_eq_true rfl) ⟨cn_1, ww_X9_init⟩ rfl rfl hy_X9_init rfl ⟨(Nat.le_of_ble_eq_true rfl), (Nat.le_of_ble_eq_true rfl)⟩ hP hS hl.1 (Nat.le_of_ble_eq_true rfl) dX3_init_43 rfl ⟨(Nat.le_of_ble_eq_true rfl), (Nat.le_of_ble_eq_true rfl)⟩) hS (fun H locs hP hS => ?_)
  refine W.eq (g2 := F0 m 46 ls [cv Φ (some (v7).2), cv Φ (some x0)]) rfl ?_
  obtain ⟨v10, hv10, h⟩ := ob h
  refine c_pR X hP hS hv10 (Nat.le_of_ble_eq_true rfl) (Nat.le_of_ble_eq_true rfl) rfl (Or.inr ⟨rfl, hin, rfl⟩) w_281 dX3_init_46 (fun H locs hP hS => ?_)
  refine c_aload_n hx hb dX3_init_49 rfl (lv_at hl 0 rfl) ?_
  refine lv_iload_n hx hb dX3_init_50 rfl (lv_at hl 1 rfl) ?_
  obtain ⟨v11, hv11, h⟩ := ob h
  refine c_pI X hP hS hv11 (Nat.le_of_ble_eq_true rfl) (Nat.le_of_ble_eq_true rfl) rfl rfl (Or.inr ⟨rfl, hin, rfl⟩) w_224 dX3_init_51 (fun H locs hP hS => ?_)
  refine c_aload_n hx hb dX3_init_54 rfl (lv_at hl 0 rfl) ?_
  refine lv_iload_n hx hb dX3_init_55 rfl (lv_at hl 2 rfl) ?_
  obtain ⟨v12, hv12, h⟩ := ob h
  refine c_pI X hP hS hv12 (Nat.le_of_ble_eq_true rfl) (Nat.le_of_ble_eq_true rfl) rfl rfl (Or.inr ⟨rfl, hin, rfl⟩) w_229 dX3_init_56 (fun H locs hP hS => ?_)
  obtain rfl := sj h
  exact c_wv X hP hS (Nat.le_of_ble_eq_true rfl) (Nat.le_of_ble_eq_true rfl) dX3_init_59
theorem ww_X3_init : Cond.instanceMethod yX3_init ∈ BG ∧ Cond.initialized (yX3_init).cls ∈ BG ∧ Cond.code yX3_init cX3_init 3 none ∈ BG := ⟨w_151, w_59, w_152⟩
theorem hy_X3_init : (yX3_init).cls ≠ "java/lang/invoke/MethodHandle" ∧ (yX3_init).cls ≠ "java/lang/invoke/VarHandle" ∧ (parseMethodDescriptor (yX3_init).desc).map (fun d => d.parameters.length) = some 2 := ⟨by decide, by decide, by decide +kernel⟩
def f_X3_above_18  (x0 : Nat) (y0 : Option Nat) (σ : cS) : Option (Option Nat) := some y0
def f_X3_above (x0 : Nat)  (σ : cS) : Option (Option Nat) := (gR σ (some x0) 3 8).bind (fun v1 => if v1 = none then ((gR σ (some x0) 3 9).bind (fun v2 => f_X3_above_18 x0 (v2) σ)) else ((gR σ (some x0) 3 8).bind (fun v3 => f_X3_above_18 x0 (v3) σ)))
set_option maxRecDepth 20000 in
set_option maxHeartbeats 4000000 in
theorem N_X3_above_18 {p : Program} {l : Launch} {e : Env} {s : State} {m : MethodId} {args : Array Value} {below : List Frame} {meth : Method} {c : Code} {D : cD} {Φ : cG} {x0 : Nat}   {y0 : Option Nat} {σ : cS} {ls : Array Slot} {r : Option Nat} (X : cX p s m args meth c cX3_above 1 (some (.object "Cascadery$Element")) RX3 D Φ) (hP : cP D Φ σ s.heap) (hS : va_S (cReg Φ) s.heap s.heap [])  (hl : lv_has ls 1 []) (h : f_X3_above_18  x0 y0 σ = some r) : cWr p l e 0 0 s m args below meth c (some (cv Φ r)) (F0 m 18 ls [cv Φ y0]) := by
  have hx := X.1
  have hb := X.2.1
  have hown := X.2.2.2.1
  have hts := X.2.2.2.2.1
  have h : (some y0) = some r := h
  obtain rfl := sj h
  exact c_ra X dX3_above_18
set_option maxRecDepth 20000 in
set_option maxHeartbeats 4000000 in
theorem K_X3_above (l : Launch) (D : cD) (Φ : cG) (σ : cS) (x0 : Nat)  {r : Option Nat} (h : f_X3_above x0  σ = some r) : Met l yX3_above (Cond.code yX3_above cX3_above 1 (some (.object "Cascadery$Element")) :: BG) (rA 0 0 0 0) (cPc D Φ σ [cv Φ (some x0)]) (cQr (some (cv Φ r))) 0 0 (fun _ => False) := by
  refine Met.ofW (cc := cX3_above) (maxL := 1) (ret := (some (.object "Cascadery$Element"))) (by decide) rfl ?_
  intro p e s m args below meth c s₁ B hml hv
  obtain ⟨rfl, hP, hK, hZ⟩ := hv
  have X : cX p s m [cv Φ (some x0)].toArray meth c cX3_above 1 (some (.object "Cascadery$Element")) RX3 D Φ := cX_of B hml hK hZ
  have hx := X.1
  have hb := X.2.1
  have hown := X.2.2.2.1
  have hts := X.2.2.2.2.1
  have hl := lv_entry [cv Φ (some x0)] (n := 1) (by simp only [lgs_r, lgs_i, lgs_l, lgs_0, List.length]; exact Nat.le_of_ble_eq_true rfl)
  rw [lg_entry_eq]
  generalize (lg_sl [cv Φ (some x0)] ++ List.replicate (1 - (lg_sl [cv Φ (some x0)]).length) Slot.unset).toArray = ls at hl ⊢
  simp only [lv_args_r, lv_args_i, lv_args_l, lv_args_0] at hl
  have hl : lv_has ls 1 [(0, cv Φ (some x0))] := hl
  have hS : va_S (cReg Φ) s.heap s.heap [] := va_S.rf
  show cWr p l e 0 0 s m [cv Φ (some x0)].toArray below meth c (some (cv Φ r)) (F0 m 0 ls [])
  have h : ((gR σ (some x0) 3 8).bind (fun v1 => if v1 = none then ((gR σ (some x0) 3 9).bind (fun v2 => f_X3_above_18 x0 (v2) σ)) else ((gR σ (some x0) 3 8).bind (fun v3 => f_X3_above_18 x0 (v3) σ)))) = some r := h
  refine c_aload_n hx hb dX3_above_0 rfl (lv_at hl 0 rfl) ?_
  obtain ⟨v1, hv1, h⟩ := ob h
  refine c_gR X hP hv1 (Nat.le_of_ble_eq_true rfl) (Nat.le_of_ble_eq_true rfl) rfl w_250 dX3_above_1 ?_
  refine c_ifnull (Φ := Φ) (tgt := 14) hx hb dX3_above_4 rfl (fun hc => ?_) (fun hc => ?_)
  · have h := ip hc h
    refine c_aload_n hx hb dX3_above_14 rfl (lv_at hl 0 rfl) ?_
    obtain ⟨v2, hv2, h⟩ := ob h
    refine c_gR X hP hv2 (Nat.le_of_ble_eq_true rfl) (Nat.le_of_ble_eq_true rfl) rfl w_254 dX3_above_15 ?_
    exact N_X3_above_18 X hP hS (lv_sub hl [] rfl) h
  · have h := ine hc h
    refine c_aload_n hx hb dX3_above_7 rfl (lv_at hl 0 rfl) ?_
    obtain ⟨v3, hv3, h⟩ := ob h
    refine c_gR X hP hv3 (Nat.le_of_ble_eq_true rfl) (Nat.le_of_ble_eq_true rfl) rfl w_250 dX3_above_8 ?_
    refine lv_goto (tgt := 18) hx hb dX3_above_11 rfl ?_
    exact N_X3_above_18 X hP hS (lv_sub hl [] rfl) h
theorem ww_X3_above : Cond.instanceMethod yX3_above ∈ BG ∧ Cond.selects (yX3_above).cls yX3_above yX3_above ∈ BG ∧ Cond.initialized (yX3_above).cls ∈ BG ∧ Cond.code yX3_above cX3_above 1 (some (.object "Cascadery$Element")) ∈ BG := ⟨w_770, w_771, w_59, w_772⟩
theorem hy_X3_above : (yX3_above).cls ≠ "java/lang/invoke/MethodHandle" ∧ (yX3_above).cls ≠ "java/lang/invoke/VarHandle" ∧ (parseMethodDescriptor (yX3_above).desc).map (fun d => d.parameters.length) = some 0 := ⟨by decide, by decide, by decide +kernel⟩
def f_X3_looksLike_116  (x0 : Nat) (y0 : Int32) (σ : cS) : Option (Int32) := rz y0
def f_X3_looksLike_115  (x0 : Nat)  (σ : cS) : Option (Int32) := f_X3_looksLike_116 x0 ((0:Int32)) σ
def f_X3_looksLike (x0 : Nat) (x1 : Option Nat) (σ : cS) : Option (Int32) := (gI σ (some x0) 3 1).bind (fun v1 => (gI σ x1 3 1).bind (fun v2 => if v1 = v2 then ((gI σ (some x0) 3 2).bind (fun v3 => (gI σ x1 3 2).bind (fun v4 => if v3 = v4 then ((gI σ (some x0) 3 3).bind (fun v5 => (gI σ x1 3 3).bind (fun v6 => if v5 = v6 then ((gI σ (some x0) 3 4).bind (fun v7 => (gI σ x1 3 4).bind (fun v8 => if v7 = v8 then ((gI σ (some x0) 3 5).bind (fun v9 => (gI σ x1 3 5).bind (fun v10 => if v9 = v10 then ((gI σ (some x0) 3 6).bind (fun v11 => (gI σ x1 3 6).bind (fun v12 => if v11 = v12 then ((gR σ (some x0) 3 16).bind (fun v13 => (gR σ x1 3 16).bind (fun v14 => if v13 = v14 then ((gR σ (some x0) 3 18).bind (fun v15 => (gI σ v15 6 6).bind (fun v16 => if v16 = (0:Int32) then ((gR σ x1 3 18).bind (fun v17 => (gI σ v17 6 6).bind (fun v18 => if v18 = (0:Int32) then ((gI σ (some x0) 3 7).bind (fun v19 => if v19 = (0:Int32) then ((gI σ x1 3 7).bind (fun v20 => if v20 = (0:Int32) then (f_X3_looksLike_116 x0 ((1:Int32)) σ) else (f_X3_looksLike_115 x0 σ))) else (f_X3_looksLike_115 x0 σ))) else (f_X3_looksLike_115 x0 σ)))) else (f_X3_looksLike_115 x0 σ)))) else (f_X3_looksLike_115 x0 σ)))) else (f_X3_looksLike_115 x0 σ)))) else (f_X3_looksLike_115 x0 σ)))) else (f_X3_looksLike_115 x0 σ)))) else (f_X3_looksLike_115 x0 σ)))) else (f_X3_looksLike_115 x0 σ)))) else (f_X3_looksLike_115 x0 σ)))
set_option maxRecDepth 20000 in
set_option maxHeartbeats 4000000 in
theorem N_X3_looksLike_116 {p : Program} {l : Launch} {e : Env} {s : State} {m : MethodId} {args : Array Value} {below : List Frame} {meth : Method} {c : Code} {D : cD} {Φ : cG} {x0 : Nat}   {y0 : Int32} {σ : cS} {ls : Array Slot} {r : Int32} (X : cX p s m args meth c cX3_looksLike 2 (some .boolean) RX3 D Φ) (hP : cP D Φ σ s.heap) (hS : va_S (cReg Φ) s.heap s.heap [])  (hl : lv_has ls 2 []) (h : f_X3_looksLike_116  x0 y0 σ = some r) : cWr p l e 0 0 s m args below meth c (some (.int r)) (F0 m 116 ls [.int y0]) := by
  have hx := X.1
  have hb := X.2.1
  have hown := X.2.2.2.1
  have hts := X.2.2.2.2.1
  have h : (rz y0) = some r := h
  obtain ⟨hz, rfl⟩ := rz_spec h
  exact c_rz X hz dX3_looksLike_116
set_option maxRecDepth 20000 in
set_option maxHeartbeats 4000000 in
theorem N_X3_looksLike_115 {p : Program} {l : Launch} {e : Env} {s : State} {m : MethodId} {args : Array Value} {below : List Frame} {meth : Method} {c : Code} {D : cD} {Φ : cG} {x0 : Nat}    {σ : cS} {ls : Array Slot} {r : Int32} (X : cX p s m args meth c cX3_looksLike 2 (some .boolean) RX3 D Φ) (hP : cP D Φ σ s.heap) (hS : va_S (cReg Φ) s.heap s.heap [])  (hl : lv_has ls 2 []) (h : f_X3_looksLike_115  x0  σ = some r) : cWr p l e 0 0 s m args below meth c (some (.int r)) (F0 m 115 ls []) := by
  have hx := X.1
  have hb := X.2.1
  have hown := X.2.2.2.1
  have hts := X.2.2.2.2.1
  have h : (f_X3_looksLike_116 x0 ((0:Int32)) σ) = some r := h
  refine lv_iconst (v := (0:Int32)) hx hb dX3_looksLike_115 (by decide) ?_
  exact N_X3_looksLike_116 X hP hS (lv_sub hl [] rfl) h
set_option maxRecDepth 20000 in
set_option maxHeartbeats 4000000 in
theorem K_X3_looksLike (l : Launch) (D : cD) (Φ : cG) (σ : cS) (x0 : Nat) (x1 : Option Nat) {r : Int32} (h : f_X3_looksLike x0 x1 σ = some r) : Met l yX3_looksLike (Cond.code yX3_looksLike cX3_looksLike 2 (some .boolean) :: BG) (rA 0 0 0 0) (cPc D Φ σ [cv Φ (some x0), cv Φ x1]) (cQr (some (.int r))) 0 0 (fun _ => False) := by
  refine Met.ofW (cc := cX3_looksLike) (maxL := 2) (ret := (some .boolean)) (by decide) rfl ?_
  intro p e s m args below meth c s₁ B hml hv
  obtain ⟨rfl, hP, hK, hZ⟩ := hv
  have X : cX p s m [cv Φ (some x0), cv Φ x1].toArray meth c cX3_looksLike 2 (some .boolean) RX3 D Φ := cX_of B hml hK hZ
  have hx := X.1
  have hb := X.2.1
  have hown := X.2.2.2.1
  have hts := X.2.2.2.2.1
  have hl := lv_entry [cv Φ (some x0), cv Φ x1] (n := 2) (by simp only [lgs_r, lgs_i, lgs_l, lgs_0, List.length]; exact Nat.le_of_ble_eq_true rfl)
  rw [lg_entry_eq]
  generalize (lg_sl [cv Φ (some x0), cv Φ x1] ++ List.replicate (2 - (lg_sl [cv Φ (some x0), cv Φ x1]).length) Slot.unset).toArray = ls at hl ⊢
  simp only [lv_args_r, lv_args_i, lv_args_l, lv_args_0] at hl
  have hl : lv_has ls 2 [(0, cv Φ (some x0)), (1, cv Φ x1)] := hl
  have hS : va_S (cReg Φ) s.heap s.heap [] := va_S.rf
  show cWr p l e 0 0 s m [cv Φ (some x0), cv Φ x1].toArray below meth c (some (.int r)) (F0 m 0 ls [])
  have h : ((gI σ (some x0) 3 1).bind (fun v1 => (gI σ x1 3 1).bind (fun v2 => if v1 = v2 then ((gI σ (some x0) 3 2).bind (fun v3 => (gI σ x1 3 2).bind (fun v4 => if v3 = v4 then ((gI σ (some x0) 3 3).bind (fun v5 => (gI σ x1 3 3).bind (fun v6 => if v5 = v6 then ((gI σ (some x0) 3 4).bind (fun v7 => (gI σ x1 3 4).bind (fun v8 => if v7 = v8 then ((gI σ (some x0) 3 5).bind (fun v9 => (gI σ x1 3 5).bind (fun v10 => if v9 = v10 then ((gI σ (some x0) 3 6).bind (fun v11 => (gI σ x1 3 6).bind (fun v12 => if v11 = v12 then ((gR σ (some x0) 3 16).bind (fun v13 => (gR σ x1 3 16).bind (fun v14 => if v13 = v14 then ((gR σ (some x0) 3 18).bind (fun v15 => (gI σ v15 6 6).bind (fun v16 => if v16 = (0:Int32) then ((gR σ x1 3 18).bind (fun v17 => (gI σ v17 6 6).bind (fun v18 => if v18 = (0:Int32) then ((gI σ (some x0) 3 7).bind (fun v19 => if v19 = (0:Int32) then ((gI σ x1 3 7).bind (fun v20 => if v20 = (0:Int32) then (f_X3_looksLike_116 x0 ((1:Int32)) σ) else (f_X3_looksLike_115 x0 σ))) else (f_X3_looksLike_115 x0 σ))) else (f_X3_looksLike_115 x0 σ)))) else (f_X3_looksLike_115 x0 σ)))) else (f_X3_looksLike_115 x0 σ)))) else (f_X3_looksLike_115 x0 σ)))) else (f_X3_looksLike_115 x0 σ)))) else (f_X3_looksLike_115 x0 σ)))) else (f_X3_looksLike_115 x0 σ)))) else (f_X3_looksLike_115 x0 σ)))) else (f_X3_looksLike_115 x0 σ)))) = some r := h
  refine c_aload_n hx hb dX3_looksLike_0 rfl (lv_at hl 0 rfl) ?_
  obtain ⟨v1, hv1, h⟩ := ob h
  refine c_gI X hP hv1 (Nat.le_of_ble_eq_true rfl) (Nat.le_of_ble_eq_true rfl) rfl w_229 dX3_looksLike_1 ?_
  refine c_aload_n hx hb dX3_looksLike_4 rfl (lv_at hl 1 rfl) ?_
  obtain ⟨v2, hv2, h⟩ := ob h
  refine c_gI X hP hv2 (Nat.le_of_ble_eq_true rfl) (Nat.le_of_ble_eq_true rfl) rfl w_229 dX3_looksLike_5 ?_
  refine lv_icmp_ne (tgt := 115) hx hb dX3_looksLike_8 rfl (fun hc => ?_) (fun hc => ?_)
  · have h := ine hc h
    exact N_X3_looksLike_115 X hP hS (lv_sub hl [] rfl) h
  · have h := ip hc h
    refine c_aload_n hx hb dX3_looksLike_11 rfl (lv_at hl 0 rfl) ?_
    obtain ⟨v3, hv3, h⟩ := ob h
    refine c_gI X hP hv3 (Nat.le_of_ble_eq_true rfl) (Nat.le_of_ble_eq_true rfl) rfl w_232 dX3_looksLike_12 ?_
    refine c_aload_n hx hb dX3_looksLike_15 rfl (lv_at hl 1 rfl) ?_
    obtain ⟨v4, hv4, h⟩ := ob h
    refine c_gI X hP hv4 (Nat.le_of_ble_eq_true rfl) (Nat.le_of_ble_eq_true rfl) rfl w_232 dX3_looksLike_16 ?_
    refine lv_icmp_ne (tgt := 115) hx hb dX3_looksLike_19 rfl (fun hc => ?_) (fun hc => ?_)
    · have h := ine hc h
      exact N_X3_looksLike_115 X hP hS (lv_sub hl [] rfl) h
    · have h := ip hc h
      refine c_aload_n hx hb dX3_looksLike_22 rfl (lv_at hl 0 rfl) ?_
      obtain ⟨v5, hv5, h⟩ := ob h
      refine c_gI X hP hv5 (Nat.le_of_ble_eq_true rfl) (Nat.le_of_ble_eq_true rfl) rfl w_235 dX3_looksLike_23 ?_
      refine c_aload_n hx hb dX3_looksLike_26 rfl (lv_at hl 1 rfl) ?_
      obtain ⟨v6, hv6, h⟩ := ob h
      refine c_gI X hP hv6 (Nat.le_of_ble_eq_true rfl) (Nat.le_of_ble_eq_true rfl) rfl w_235 dX3_looksLike_27 ?_
      refine lv_icmp_ne (tgt := 115) hx hb dX3_looksLike_30 rfl (fun hc => ?_) (fun hc => ?_)
      · have h := ine hc h
        exact N_X3_looksLike_115 X hP hS (lv_sub hl [] rfl) h
      · have h := ip hc h
        refine c_aload_n hx hb dX3_looksLike_33 rfl (lv_at hl 0 rfl) ?_
        obtain ⟨v7, hv7, h⟩ := ob h
        refine c_gI X hP hv7 (Nat.le_of_ble_eq_true rfl) (Nat.le_of_ble_eq_true rfl) rfl w_237 dX3_looksLike_34 ?_
        refine c_aload_n hx hb dX3_looksLike_37 rfl (lv_at hl 1 rfl) ?_
        obtain ⟨v8, hv8, h⟩ := ob h
        refine c_gI X hP hv8 (Nat.le_of_ble_eq_true rfl) (Nat.le_of_ble_eq_true rfl) rfl w_237 dX3_looksLike_38 ?_
        refine lv_icmp_ne (tgt := 115) hx hb dX3_looksLike_41 rfl (fun hc => ?_) (fun hc => ?_)
        · have h := ine hc h
          exact N_X3_looksLike_115 X hP hS (lv_sub hl [] rfl) h
        · have h := ip hc h
          refine c_aload_n hx hb dX3_looksLike_44 rfl (lv_at hl 0 rfl) ?_
          obtain ⟨v9, hv9, h⟩ := ob h
          refine c_gI X hP hv9 (Nat.le_of_ble_eq_true rfl) (Nat.le_of_ble_eq_true rfl) rfl w_240 dX3_looksLike_45 ?_
          refine c_aload_n hx hb dX3_looksLike_48 rfl (lv_at hl 1 rfl) ?_
          obtain ⟨v10, hv10, h⟩ := ob h
          refine c_gI X hP hv10 (Nat.le_of_ble_eq_true rfl) (Nat.le_of_ble_eq_true rfl) rfl w_240 dX3_looksLike_49 ?_
          refine lv_icmp_ne (tgt := 115) hx hb dX3_looksLike_52 rfl (fun hc => ?_) (fun hc => ?_)
          · have h := ine hc h
            exact N_X3_looksLike_115 X hP hS (lv_sub hl [] rfl) h
          · have h := ip hc h
            refine c_aload_n hx hb dX3_looksLike_55 rfl (lv_at hl 0 rfl) ?_
            obtain ⟨v11, hv11, h⟩ := ob h
            refine c_gI X hP hv11 (Nat.le_of_ble_eq_true rfl) (Nat.le_of_ble_eq_true rfl) rfl w_244 dX3_looksLike_56 ?_
            refine c_aload_n hx hb dX3_looksLike_59 rfl (lv_at hl 1 rfl) ?_
            obtain ⟨v12, hv12, h⟩ := ob h
            refine c_gI X hP hv12 (Nat.le_of_ble_eq_true rfl) (Nat.le_of_ble_eq_true rfl) rfl w_244 dX3_looksLike_60 ?_
            refine lv_icmp_ne (tgt := 115) hx hb dX3_looksLike_63 rfl (fun hc => ?_) (fun hc => ?_)
            · have h := ine hc h
              exact N_X3_looksLike_115 X hP hS (lv_sub hl [] rfl) h
            · have h := ip hc h
              refine c_aload_n hx hb dX3_looksLike_66 rfl (lv_at hl 0 rfl) ?_
              obtain ⟨v13, hv13, h⟩ := ob h
              refine c_gR X hP hv13 (Nat.le_of_ble_eq_true rfl) (Nat.le_of_ble_eq_true rfl) rfl w_272 dX3_looksLike_67 ?_
              refine c_aload_n hx hb dX3_looksLike_70 rfl (lv_at hl 1 rfl) ?_
              obtain ⟨v14, hv14, h⟩ := ob h
              refine c_gR X hP hv14 (Nat.le_of_ble_eq_true rfl) (Nat.le_of_ble_eq_true rfl) rfl w_272 dX3_looksLike_71 ?_
              refine c_acmp_ne (tgt := 115) X hP dX3_looksLike_74 rfl (fun hc => ?_) (fun hc => ?_)
              · have h := ine hc h
                exact N_X3_looksLike_115 X hP hS (lv_sub hl [] rfl) h
              · have h := ip hc h
                refine c_aload_n hx hb dX3_looksLike_77 rfl (lv_at hl 0 rfl) ?_
                obtain ⟨v15, hv15, h⟩ := ob h
                refine c_gR X hP hv15 (Nat.le_of_ble_eq_true rfl) (Nat.le_of_ble_eq_true rfl) rfl w_277 dX3_looksLike_78 ?_
                obtain ⟨v16, hv16, h⟩ := ob h
                refine c_gI X hP hv16 (Nat.le_of_ble_eq_true rfl) (Nat.le_of_ble_eq_true rfl) rfl w_174 dX3_looksLike_81 ?_
                refine lv_if_ne (tgt := 115) hx hb dX3_looksLike_84 rfl (fun hc => ?_) (fun hc => ?_)
                · have h := ine hc h
                  exact N_X3_looksLike_115 X hP hS (lv_sub hl [] rfl) h
                · have h := ip hc h
                  refine c_aload_n hx hb dX3_looksLike_87 rfl (lv_at hl 1 rfl) ?_
                  obtain ⟨v17, hv17, h⟩ := ob h
                  refine c_gR X hP hv17 (Nat.le_of_ble_eq_true rfl) (Nat.le_of_ble_eq_true rfl) rfl w_277 dX3_looksLike_88 ?_
                  obtain ⟨v18, hv18, h⟩ := ob h
                  refine c_gI X hP hv18 (Nat.le_of_ble_eq_true rfl) (Nat.le_of_ble_eq_true rfl) rfl w_174 dX3_looksLike_91 ?_
                  refine lv_if_ne (tgt := 115) hx hb dX3_looksLike_94 rfl (fun hc => ?_) (fun hc => ?_)
                  · have h := ine hc h
                    exact N_X3_looksLike_115 X hP hS (lv_sub hl [] rfl) h
                  · have h := ip hc h
                    refine c_aload_n hx hb dX3_looksLike_97 rfl (lv_at hl 0 rfl) ?_
                    obtain ⟨v19, hv19, h⟩ := ob h
                    refine c_gI X hP hv19 (Nat.le_of_ble_eq_true rfl) (Nat.le_of_ble_eq_true rfl) rfl w_248 dX3_looksLike_98 ?_
                    refine lv_if_ne (tgt := 115) hx hb dX3_looksLike_101 rfl (fun hc => ?_) (fun hc => ?_)
                    · have h := ine hc h
                      exact N_X3_looksLike_115 X hP hS (lv_sub hl [] rfl) h
                    · have h := ip hc h
                      refine c_aload_n hx hb dX3_looksLike_104 rfl (lv_at hl 1 rfl) ?_
                      obtain ⟨v20, hv20, h⟩ := ob h
                      refine c_gI X hP hv20 (Nat.le_of_ble_eq_true rfl) (Nat.le_of_ble_eq_true rfl) rfl w_248 dX3_looksLike_105 ?_
                      refine lv_if_ne (tgt := 115) hx hb dX3_looksLike_108 rfl (fun hc => ?_) (fun hc => ?_)
                      · have h := ine hc h
                        exact N_X3_looksLike_115 X hP hS (lv_sub hl [] rfl) h
                      · have h := ip hc h
                        refine lv_iconst (v := (1:Int32)) hx hb dX3_looksLike_111 (by decide) ?_
                        refine lv_goto (tgt := 116) hx hb dX3_looksLike_112 rfl ?_
                        exact N_X3_looksLike_116 X hP hS (lv_sub hl [] rfl) h
theorem ww_X3_looksLike : Cond.instanceMethod yX3_looksLike ∈ BG ∧ Cond.selects (yX3_looksLike).cls yX3_looksLike yX3_looksLike ∈ BG ∧ Cond.initialized (yX3_looksLike).cls ∈ BG ∧ Cond.code yX3_looksLike cX3_looksLike 2 (some .boolean) ∈ BG := ⟨w_1077, w_1078, w_59, w_1079⟩
theorem hy_X3_looksLike : (yX3_looksLike).cls ≠ "java/lang/invoke/MethodHandle" ∧ (yX3_looksLike).cls ≠ "java/lang/invoke/VarHandle" ∧ (parseMethodDescriptor (yX3_looksLike).desc).map (fun d => d.parameters.length) = some 1 := ⟨by decide, by decide, by decide +kernel⟩
def f_X7_init (x0 : Nat)  (σ : cS) : Option (cS) := (rc (nw σ 2) (some (σ).2) 2).bind (fun v1 => (f_X2_init v1 ((0:Int32)) (nw σ 2)).bind (fun v2 => (pR v2 (some x0) 7 0 (some (σ).2)).bind (fun v3 => (gR v3 (some x0) 7 0).bind (fun v4 => (pR v3 (some x0) 7 1 v4).bind (fun v5 => (pI v5 (some x0) 7 2 (1:Int32)).bind (fun v6 => (pI v6 (some x0) 7 3 ((-1):Int32)).bind (fun v7 => (pI v7 (some x0) 7 4 ((-1):Int32)).bind (fun v8 => some v8))))))))
set_option maxRecDepth 20000 in
set_option maxHeartbeats 4000000 in
theorem K_X7_init (l : Launch) (D : cD) (Φ : cG) (σ : cS) (x0 : Nat)  {q : cS} (h : f_X7_init x0  σ = some q) : Met l yX7_init (Cond.code yX7_init cX7_init 1 none :: BG) (rA 2 4 22 41) (cPc D Φ σ [cv Φ (some x0)]) (cQw D Φ q none) 4 22 (cReg Φ) := by
  refine Met.ofW (cc := cX7_init) (maxL := 1) (ret := none) (by decide) rfl ?_
  intro p e s m args below meth c s₁ B hml hv
  obtain ⟨rfl, hP, hK, hZ⟩ := hv
  have X : cX p s m [cv Φ (some x0)].toArray meth c cX7_init 1 none RX7 D Φ := cX_of B hml hK hZ
  have hin : meth.name = "<init>" := (name_of_methodNamed B.named B.method).1
  have hx := X.1
  have hb := X.2.1
  have hown := X.2.2.2.1
  have hts := X.2.2.2.2.1
  have hl := lv_entry [cv Φ (some x0)] (n := 1) (by simp only [lgs_r, lgs_i, lgs_l, lgs_0, List.length]; exact Nat.le_of_ble_eq_true rfl)
  rw [lg_entry_eq]
  generalize (lg_sl [cv Φ (some x0)] ++ List.replicate (1 - (lg_sl [cv Φ (some x0)]).length) Slot.unset).toArray = ls at hl ⊢
  simp only [lv_args_r, lv_args_i, lv_args_l, lv_args_0] at hl
  have hl : lv_has ls 1 [(0, cv Φ (some x0))] := hl
  have hS : va_S (cReg Φ) s.heap s.heap [] := va_S.rf
  show cWw p l e 2 4 22 41 s m [cv Φ (some x0)].toArray below meth c D Φ q none s.heap [] 0 0 (F0 m 0 ls [])
  have h : ((rc (nw σ 2) (some (σ).2) 2).bind (fun v1 => (f_X2_init v1 ((0:Int32)) (nw σ 2)).bind (fun v2 => (pR v2 (some x0) 7 0 (some (σ).2)).bind (fun v3 => (gR v3 (some x0) 7 0).bind (fun v4 => (pR v3 (some x0) 7 1 v4).bind (fun v5 => (pI v5 (some x0) 7 2 (1:Int32)).bind (fun v6 => (pI v6 (some x0) 7 3 ((-1):Int32)).bind (fun v7 => (pI v7 (some x0) 7 4 ((-1):Int32)).bind (fun v8 => some v8))))))))) = some q := h
  refine c_aload_n hx hb dX7_init_0 rfl (lv_at hl 0 rfl) ?_
  refine W.objInit hx hb hown (hts _ w_360) (hts _ w_oi) (hts _ w_oc) rfl (hl.1.trans X.2.2.1.symm) rfl dX7_init_1 (Nat.le_of_ble_eq_true rfl) (Nat.le_of_ble_eq_true rfl) ?_
  refine W.eq (g2 := F0 m 4 ls []) rfl ?_
  refine c_aload_n hx hb dX7_init_4 rfl (lv_at hl 0 rfl) ?_
  refine c_new X hP hS (ci := 2) ⟨Nat.le_of_ble_eq_true rfl, by decide⟩ ⟨w_361, w_362, w_63⟩ (Nat.le_of_ble_eq_true rfl) (Nat.le_of_ble_eq_true rfl) dX7_init_5 (fun H hP hS => ?_)
  refine c_dupq hx hb dX7_init_8 ?_
  refine lv_iconst (v := (0:Int32)) hx hb dX7_init_9 (by decide) ?_
  obtain ⟨v1, hv1, h⟩ := ob h
  obtain ⟨v2, hv2, h⟩ := ob h
  refine c_cw (c_runI X (K_X2_init l D Φ (nw σ 2) v1 ((0:Int32)) hv2) hv1 (Nat.le_of_ble_eq_true rfl) ⟨w_363, ww_X2_init⟩ rfl rfl hy_X2_init rfl ⟨(Nat.le_of_ble_eq_true rfl), (Nat.le_of_ble_eq_true rfl)⟩ hP hS hl.1 (Nat.le_of_ble_eq_true rfl) dX7_init_10 rfl ⟨(Nat.le_of_ble_eq_true rfl), (Nat.le_of_ble_eq_true rfl)⟩) hS (fun H locs hP hS => ?_)
  refine W.eq (g2 := F0 m 13 ls [cv Φ (some (σ).2), cv Φ (some x0)]) rfl ?_
  obtain ⟨v3, hv3, h⟩ := ob h
  refine c_pR X hP hS hv3 (Nat.le_of_ble_eq_true rfl) (Nat.le_of_ble_eq_true rfl) rfl (Or.inr ⟨rfl, hin, rfl⟩) w_409 dX7_init_13 (fun H locs hP hS => ?_)
  refine c_aload_n hx hb dX7_init_16 rfl (lv_at hl 0 rfl) ?_
  refine c_aload_n hx hb dX7_init_17 rfl (lv_at hl 0 rfl) ?_
  obtain ⟨v4, hv4, h⟩ := ob h
  refine c_gR X hP hv4 (Nat.le_of_ble_eq_true rfl) (Nat.le_of_ble_eq_true rfl) rfl w_409 dX7_init_18 ?_
  obtain ⟨v5, hv5, h⟩ := ob h
  refine c_pR X hP hS hv5 (Nat.le_of_ble_eq_true rfl) (Nat.le_of_ble_eq_true rfl) rfl (Or.inl rfl) w_411 dX7_init_21 (fun H locs hP hS => ?_)
  refine c_aload_n hx hb dX7_init_24 rfl (lv_at hl 0 rfl) ?_
  refine lv_iconst (v := (1:Int32)) hx hb dX7_init_25 (by decide) ?_
  obtain ⟨v6, hv6, h⟩ := ob h
  refine c_pI X hP hS hv6 (Nat.le_of_ble_eq_true rfl) (Nat.le_of_ble_eq_true rfl) rfl rfl (Or.inl rfl) w_413 dX7_init_26 (fun H locs hP hS => ?_)
  refine c_aload_n hx hb dX7_init_29 rfl (lv_at hl 0 rfl) ?_
  refine lv_iconst (v := ((-1):Int32)) hx hb dX7_init_30 (by decide) ?_
  obtain ⟨v7, hv7, h⟩ := ob h
  refine c_pI X hP hS hv7 (Nat.le_of_ble_eq_true rfl) (Nat.le_of_ble_eq_true rfl) rfl rfl (Or.inl rfl) w_415 dX7_init_31 (fun H locs hP hS => ?_)
  refine c_aload_n hx hb dX7_init_34 rfl (lv_at hl 0 rfl) ?_
  refine lv_iconst (v := ((-1):Int32)) hx hb dX7_init_35 (by decide) ?_
  obtain ⟨v8, hv8, h⟩ := ob h
  refine c_pI X hP hS hv8 (Nat.le_of_ble_eq_true rfl) (Nat.le_of_ble_eq_true rfl) rfl rfl (Or.inl rfl) w_417 dX7_init_36 (fun H locs hP hS => ?_)
  obtain rfl := sj h
  exact c_wv X hP hS (Nat.le_of_ble_eq_true rfl) (Nat.le_of_ble_eq_true rfl) dX7_init_39
theorem ww_X7_init : Cond.instanceMethod yX7_init ∈ BG ∧ Cond.initialized (yX7_init).cls ∈ BG ∧ Cond.code yX7_init cX7_init 1 none ∈ BG := ⟨w_358, w_62, w_359⟩
theorem hy_X7_init : (yX7_init).cls ≠ "java/lang/invoke/MethodHandle" ∧ (yX7_init).cls ≠ "java/lang/invoke/VarHandle" ∧ (parseMethodDescriptor (yX7_init).desc).map (fun d => d.parameters.length) = some 0 := ⟨by decide, by decide, by decide +kernel⟩
def f_X7_reachesOut_20  (x0 : Nat) (y0 : Int32) (σ : cS) : Option (Int32) := rz y0
def f_X7_reachesOut_15  (x0 : Nat)  (σ : cS) : Option (Int32) := f_X7_reachesOut_20 x0 ((1:Int32)) σ
def f_X7_reachesOut (x0 : Nat)  (σ : cS) : Option (Int32) := (gI σ (some x0) 7 5).bind (fun v1 => if v1 = (0:Int32) then ((gI σ (some x0) 7 4).bind (fun v2 => if v2 = ((-1):Int32) then (f_X7_reachesOut_20 x0 ((0:Int32)) σ) else (f_X7_reachesOut_15 x0 σ))) else (f_X7_reachesOut_15 x0 σ))
set_option maxRecDepth 20000 in
set_option maxHeartbeats 4000000 in
theorem N_X7_reachesOut_20 {p : Program} {l : Launch} {e : Env} {s : State} {m : MethodId} {args : Array Value} {below : List Frame} {meth : Method} {c : Code} {D : cD} {Φ : cG} {x0 : Nat}   {y0 : Int32} {σ : cS} {ls : Array Slot} {r : Int32} (X : cX p s m args meth c cX7_reachesOut 1 (some .boolean) RX7 D Φ) (hP : cP D Φ σ s.heap) (hS : va_S (cReg Φ) s.heap s.heap [])  (hl : lv_has ls 1 []) (h : f_X7_reachesOut_20  x0 y0 σ = some r) : cWr p l e 0 0 s m args below meth c (some (.int r)) (F0 m 20 ls [.int y0]) := by
  have hx := X.1
  have hb := X.2.1
  have hown := X.2.2.2.1
  have hts := X.2.2.2.2.1
  have h : (rz y0) = some r := h
  obtain ⟨hz, rfl⟩ := rz_spec h
  exact c_rz X hz dX7_reachesOut_20
set_option maxRecDepth 20000 in
set_option maxHeartbeats 4000000 in
theorem N_X7_reachesOut_15 {p : Program} {l : Launch} {e : Env} {s : State} {m : MethodId} {args : Array Value} {below : List Frame} {meth : Method} {c : Code} {D : cD} {Φ : cG} {x0 : Nat}    {σ : cS} {ls : Array Slot} {r : Int32} (X : cX p s m args meth c cX7_reachesOut 1 (some .boolean) RX7 D Φ) (hP : cP D Φ σ s.heap) (hS : va_S (cReg Φ) s.heap s.heap [])  (hl : lv_has ls 1 []) (h : f_X7_reachesOut_15  x0  σ = some r) : cWr p l e 0 0 s m args below meth c (some (.int r)) (F0 m 15 ls []) := by
  have hx := X.1
  have hb := X.2.1
  have hown := X.2.2.2.1
  have hts := X.2.2.2.2.1
  have h : (f_X7_reachesOut_20 x0 ((1:Int32)) σ) = some r := h
  refine lv_iconst (v := (1:Int32)) hx hb dX7_reachesOut_15 (by decide) ?_
  refine lv_goto (tgt := 20) hx hb dX7_reachesOut_16 rfl ?_
  exact N_X7_reachesOut_20 X hP hS (lv_sub hl [] rfl) h
set_option maxRecDepth 20000 in
set_option maxHeartbeats 4000000 in
theorem K_X7_reachesOut (l : Launch) (D : cD) (Φ : cG) (σ : cS) (x0 : Nat)  {r : Int32} (h : f_X7_reachesOut x0  σ = some r) : Met l yX7_reachesOut (Cond.code yX7_reachesOut cX7_reachesOut 1 (some .boolean) :: BG) (rA 0 0 0 0) (cPc D Φ σ [cv Φ (some x0)]) (cQr (some (.int r))) 0 0 (fun _ => False) := by
  refine Met.ofW (cc := cX7_reachesOut) (maxL := 1) (ret := (some .boolean)) (by decide) rfl ?_
  intro p e s m args below meth c s₁ B hml hv
  obtain ⟨rfl, hP, hK, hZ⟩ := hv
  have X : cX p s m [cv Φ (some x0)].toArray meth c cX7_reachesOut 1 (some .boolean) RX7 D Φ := cX_of B hml hK hZ
  have hx := X.1
  have hb := X.2.1
  have hown := X.2.2.2.1
  have hts := X.2.2.2.2.1
  have hl := lv_entry [cv Φ (some x0)] (n := 1) (by simp only [lgs_r, lgs_i, lgs_l, lgs_0, List.length]; exact Nat.le_of_ble_eq_true rfl)
  rw [lg_entry_eq]
  generalize (lg_sl [cv Φ (some x0)] ++ List.replicate (1 - (lg_sl [cv Φ (some x0)]).length) Slot.unset).toArray = ls at hl ⊢
  simp only [lv_args_r, lv_args_i, lv_args_l, lv_args_0] at hl
  have hl : lv_has ls 1 [(0, cv Φ (some x0))] := hl
  have hS : va_S (cReg Φ) s.heap s.heap [] := va_S.rf
  show cWr p l e 0 0 s m [cv Φ (some x0)].toArray below meth c (some (.int r)) (F0 m 0 ls [])
  have h : ((gI σ (some x0) 7 5).bind (fun v1 => if v1 = (0:Int32) then ((gI σ (some x0) 7 4).bind (fun v2 => if v2 = ((-1):Int32) then (f_X7_reachesOut_20 x0 ((0:Int32)) σ) else (f_X7_reachesOut_15 x0 σ))) else (f_X7_reachesOut_15 x0 σ))) = some r := h
  refine c_aload_n hx hb dX7_reachesOut_0 rfl (lv_at hl 0 rfl) ?_
  obtain ⟨v1, hv1, h⟩ := ob h
  refine c_gI X hP hv1 (Nat.le_of_ble_eq_true rfl) (Nat.le_of_ble_eq_true rfl) rfl w_420 dX7_reachesOut_1 ?_
  refine lv_if_ne (tgt := 15) hx hb dX7_reachesOut_4 rfl (fun hc => ?_) (fun hc => ?_)
  · have h := ine hc h
    exact N_X7_reachesOut_15 X hP hS (lv_sub hl [] rfl) h
  · have h := ip hc h
    refine c_aload_n hx hb dX7_reachesOut_7 rfl (lv_at hl 0 rfl) ?_
    obtain ⟨v2, hv2, h⟩ := ob h
    refine c_gI X hP hv2 (Nat.le_of_ble_eq_true rfl) (Nat.le_of_ble_eq_true rfl) rfl w_417 dX7_reachesOut_8 ?_
    refine lv_iconst (v := ((-1):Int32)) hx hb dX7_reachesOut_11 (by decide) ?_
    refine lv_icmp_eq (tgt := 19) hx hb dX7_reachesOut_12 rfl (fun hc => ?_) (fun hc => ?_)
    · have h := ip hc h
      refine lv_iconst (v := (0:Int32)) hx hb dX7_reachesOut_19 (by decide) ?_
      exact N_X7_reachesOut_20 X hP hS (lv_sub hl [] rfl) h
    · have h := ine hc h
      exact N_X7_reachesOut_15 X hP hS (lv_sub hl [] rfl) h
theorem ww_X7_reachesOut : Cond.instanceMethod yX7_reachesOut ∈ BG ∧ Cond.selects (yX7_reachesOut).cls yX7_reachesOut yX7_reachesOut ∈ BG ∧ Cond.initialized (yX7_reachesOut).cls ∈ BG ∧ Cond.code yX7_reachesOut cX7_reachesOut 1 (some .boolean) ∈ BG := ⟨w_865, w_866, w_62, w_867⟩
theorem hy_X7_reachesOut : (yX7_reachesOut).cls ≠ "java/lang/invoke/MethodHandle" ∧ (yX7_reachesOut).cls ≠ "java/lang/invoke/VarHandle" ∧ (parseMethodDescriptor (yX7_reachesOut).desc).map (fun d => d.parameters.length) = some 0 := ⟨by decide, by decide, by decide +kernel⟩
def f_X7_finish_101  (x0 : Nat)  (σ : cS) : Option (cS) := some σ
def f_X7_finish_63 (k22 : Option Nat → cS → Option (cS)) (x0 : Nat) (x2 : Option Nat) (y0 : Option Nat) (y1 : Int32) (y2 : Int32) (σ : cS) : Option (cS) := (pI σ y0 7 11 (y1 ||| y2)).bind (fun v1 => (gR v1 x2 2 9).bind (fun v2 => k22 (v2) v1))
def f_X7_finish_22  (x0 : Nat) : Nat → Option Nat → cS → Option (cS)
  | 0, _, _ => none
  | n + 1, x2, σ => if x2 = none then ((gR σ (some x0) 7 1).bind (fun v1 => (gI σ v1 2 6).bind (fun v2 => (pI σ (some x0) 7 10 v2).bind (fun v3 => (rc v3 (some x0) 7).bind (fun v4 => (f_X7_reachesOut v4  v3).bind (fun v5 => if v5 = (0:Int32) then (f_X7_finish_101 x0 v3) else ((gI v3 (some x0) 7 12).bind (fun v6 => (pI v3 (some x0) 7 11 v6).bind (fun v7 => f_X7_finish_101 x0 v7))))))))) else ((gI σ (some x0) 7 12).bind (fun v8 => (gI σ x2 2 8).bind (fun v9 => (pI σ (some x0) 7 12 (v8 ||| v9)).bind (fun v10 => (gI v10 (some x0) 7 11).bind (fun v11 => (gR v10 (some x0) 7 1).bind (fun v12 => if x2 = v12 then ((gI v10 x2 2 7).bind (fun v14 => f_X7_finish_63 (f_X7_finish_22 x0 n) x0 (x2) ((some x0)) (v11) (v14) v10)) else ((gI v10 x2 2 8).bind (fun v13 => f_X7_finish_63 (f_X7_finish_22 x0 n) x0 (x2) ((some x0)) (v11) (v13) v10))))))))
def f_X7_finish (x0 : Nat) (x1 : Int32) (σ : cS) : Option (cS) := (pI σ (some x0) 7 3 x1).bind (fun v1 => (gI v1 (some x0) 7 9).bind (fun v2 => (pI v1 (some x0) 7 9 (v2 ||| ((1:Int32) <<< (x1 &&& 31)))).bind (fun v3 => (gR v3 (some x0) 7 0).bind (fun v4 => f_X7_finish_22 x0 4000 (v4) v3))))
set_option maxRecDepth 20000 in
set_option maxHeartbeats 4000000 in
theorem N_X7_finish_101 {p : Program} {l : Launch} {e : Env} {s : State} {m : MethodId} {args : Array Value} {below : List Frame} {meth : Method} {c : Code} {D : cD} {Φ : cG} {x0 : Nat}    {σ : cS} {H : Heap} {locs : List Loc} {ls : Array Slot} {q : cS} (X : cX p s m args meth c cX7_finish 3 none RX7 D Φ) (hP : cP D Φ σ H) (hS : va_S (cReg Φ) s.heap H locs)  (hl : lv_has ls 3 []) (h : f_X7_finish_101  x0  σ = some q) : cWw p l e 1 0 0 20 s m args below meth c D Φ q none H locs 0 0 (F0 m 101 ls []) := by
  have hx := X.1
  have hb := X.2.1
  have hown := X.2.2.2.1
  have hts := X.2.2.2.2.1
  have h : (some σ) = some q := h
  obtain rfl := sj h
  exact c_wv X hP hS (Nat.le_of_ble_eq_true rfl) (Nat.le_of_ble_eq_true rfl) dX7_finish_101
set_option maxRecDepth 20000 in
set_option maxHeartbeats 4000000 in
theorem N_X7_finish_63 {p : Program} {l : Launch} {e : Env} {s : State} {m : MethodId} {args : Array Value} {below : List Frame} {meth : Method} {c : Code} {D : cD} {Φ : cG} {x0 : Nat} {k22 : Option Nat → cS → Option (cS)}  {x2 : Option Nat} {y0 : Option Nat} {y1 : Int32} {y2 : Int32} {σ : cS} {H : Heap} {locs : List Loc} {ls : Array Slot} {q : cS} (X : cX p s m args meth c cX7_finish 3 none RX7 D Φ) (hP : cP D Φ σ H) (hS : va_S (cReg Φ) s.heap H locs) (hk22 : ∀ {x2 : Option Nat} {σ : cS} {H : Heap} {locs : List Loc} {ls : Array Slot}, cP D Φ σ H → va_S (cReg Φ) s.heap H locs → lv_has ls 3 [(0, cv Φ (some x0)), (2, cv Φ x2)] → k22 x2 σ = some q → cWw p l e 1 0 0 20 s m args below meth c D Φ q none H locs 0 0 (F0 m 22 ls [])) (hl : lv_has ls 3 [(0, cv Φ (some x0)), (2, cv Φ x2)]) (h : f_X7_finish_63 k22 x0 x2 y0 y1 y2 σ = some q) : cWw p l e 1 0 0 20 s m args below meth c D Φ q none H locs 0 0 (F0 m 63 ls [.int y2, .int y1, cv Φ y0]) := by
  have hx := X.1
  have hb := X.2.1
  have hown := X.2.2.2.1
  have hts := X.2.2.2.2.1
  have h : ((pI σ y0 7 11 (y1 ||| y2)).bind (fun v1 => (gR v1 x2 2 9).bind (fun v2 => k22 (v2) v1))) = some q := h
  refine lv_ior hx hb dX7_finish_63 ?_
  obtain ⟨v1, hv1, h⟩ := ob h
  refine c_pI X hP hS hv1 (Nat.le_of_ble_eq_true rfl) (Nat.le_of_ble_eq_true rfl) rfl rfl (Or.inl rfl) w_433 dX7_finish_64 (fun H locs hP hS => ?_)
  refine c_aload_n hx hb dX7_finish_67 rfl (lv_at hl 1 rfl) ?_
  obtain ⟨v2, hv2, h⟩ := ob h
  refine c_gR X hP hv2 (Nat.le_of_ble_eq_true rfl) (Nat.le_of_ble_eq_true rfl) rfl w_386 dX7_finish_68 ?_
  refine c_astore_n hx hb dX7_finish_71 rfl hl (Nat.le_of_ble_eq_true rfl) (lvKa rfl (lvKa rfl lvK0)) rfl (fun ls (hl : lv_has ls 3 [(2, cv Φ v2), (0, cv Φ (some x0))]) => ?_)
  refine lv_goto (tgt := 22) hx hb dX7_finish_72 rfl ?_
  exact hk22 hP hS (lv_sub hl [1, 0] rfl) h
set_option maxRecDepth 20000 in
set_option maxHeartbeats 4000000 in
theorem N_X7_finish_22 {p : Program} {l : Launch} {e : Env} {s : State} {m : MethodId} {args : Array Value} {below : List Frame} {meth : Method} {c : Code} {D : cD} {Φ : cG} {x0 : Nat}  {n : Nat} {x2 : Option Nat} {σ : cS} {H : Heap} {locs : List Loc} {ls : Array Slot} {q : cS} (X : cX p s m args meth c cX7_finish 3 none RX7 D Φ) (hP : cP D Φ σ H) (hS : va_S (cReg Φ) s.heap H locs)  (hl : lv_has ls 3 [(0, cv Φ (some x0)), (2, cv Φ x2)]) (h : f_X7_finish_22  x0 n x2 σ = some q) : cWw p l e 1 0 0 20 s m args below meth c D Φ q none H locs 0 0 (F0 m 22 ls []) := by
  have hx := X.1
  have hb := X.2.1
  have hown := X.2.2.2.1
  have hts := X.2.2.2.2.1
  induction n generalizing x2 σ H locs ls with
  | zero => exact absurd (show none = some q from h) (by simp)
  | succ n ih =>
    have h : (if x2 = none then ((gR σ (some x0) 7 1).bind (fun v1 => (gI σ v1 2 6).bind (fun v2 => (pI σ (some x0) 7 10 v2).bind (fun v3 => (rc v3 (some x0) 7).bind (fun v4 => (f_X7_reachesOut v4  v3).bind (fun v5 => if v5 = (0:Int32) then (f_X7_finish_101 x0 v3) else ((gI v3 (some x0) 7 12).bind (fun v6 => (pI v3 (some x0) 7 11 v6).bind (fun v7 => f_X7_finish_101 x0 v7))))))))) else ((gI σ (some x0) 7 12).bind (fun v8 => (gI σ x2 2 8).bind (fun v9 => (pI σ (some x0) 7 12 (v8 ||| v9)).bind (fun v10 => (gI v10 (some x0) 7 11).bind (fun v11 => (gR v10 (some x0) 7 1).bind (fun v12 => if x2 = v12 then ((gI v10 x2 2 7).bind (fun v14 => f_X7_finish_63 (f_X7_finish_22 x0 n) x0 (x2) ((some x0)) (v11) (v14) v10)) else ((gI v10 x2 2 8).bind (fun v13 => f_X7_finish_63 (f_X7_finish_22 x0 n) x0 (x2) ((some x0)) (v11) (v13) v10))))))))) = some q := h
    refine c_aload_n hx hb dX7_finish_22 rfl (lv_at hl 1 rfl) ?_
    refine c_ifnull (Φ := Φ) (tgt := 75) hx hb dX7_finish_23 rfl (fun hc => ?_) (fun hc => ?_)
    · have h := ip hc h
      refine c_aload_n hx hb dX7_finish_75 rfl (lv_at hl 0 rfl) ?_
      refine c_aload_n hx hb dX7_finish_76 rfl (lv_at hl 0 rfl) ?_
      obtain ⟨v1, hv1, h⟩ := ob h
      refine c_gR X hP hv1 (Nat.le_of_ble_eq_true rfl) (Nat.le_of_ble_eq_true rfl) rfl w_411 dX7_finish_77 ?_
      obtain ⟨v2, hv2, h⟩ := ob h
      refine c_gI X hP hv2 (Nat.le_of_ble_eq_true rfl) (Nat.le_of_ble_eq_true rfl) rfl w_383 dX7_finish_80 ?_
      obtain ⟨v3, hv3, h⟩ := ob h
      refine c_pI X hP hS hv3 (Nat.le_of_ble_eq_true rfl) (Nat.le_of_ble_eq_true rfl) rfl rfl (Or.inl rfl) w_431 dX7_finish_83 (fun H locs hP hS => ?_)
      refine c_aload_n hx hb dX7_finish_86 rfl (lv_at hl 0 rfl) ?_
      obtain ⟨v4, hv4, h⟩ := ob h
      obtain ⟨v5, hv5, h⟩ := ob h
      refine c_cr (c_runV X (K_X7_reachesOut l D Φ v3 v4  hv5) hv4 ⟨Nat.le_of_ble_eq_true rfl, by decide⟩ ⟨w_1241, ww_X7_reachesOut⟩ rfl hy_X7_reachesOut rfl ⟨(Nat.le_of_ble_eq_true rfl), (Nat.le_of_ble_eq_true rfl)⟩ hP hS hl.1 (Nat.le_of_ble_eq_true rfl) dX7_finish_87 rfl ⟨(Nat.le_of_ble_eq_true rfl), (Nat.le_of_ble_eq_true rfl)⟩) ?_
      refine lv_if_eq (tgt := 101) hx hb dX7_finish_90 rfl (fun hc => ?_) (fun hc => ?_)
      · have h := ip hc h
        exact N_X7_finish_101 X hP hS (lv_sub hl [] rfl) h
      · have h := ine hc h
        refine c_aload_n hx hb dX7_finish_93 rfl (lv_at hl 0 rfl) ?_
        refine c_aload_n hx hb dX7_finish_94 rfl (lv_at hl 0 rfl) ?_
        obtain ⟨v6, hv6, h⟩ := ob h
        refine c_gI X hP hv6 (Nat.le_of_ble_eq_true rfl) (Nat.le_of_ble_eq_true rfl) rfl w_434 dX7_finish_95 ?_
        obtain ⟨v7, hv7, h⟩ := ob h
        refine c_pI X hP hS hv7 (Nat.le_of_ble_eq_true rfl) (Nat.le_of_ble_eq_true rfl) rfl rfl (Or.inl rfl) w_433 dX7_finish_98 (fun H locs hP hS => ?_)
        exact N_X7_finish_101 X hP hS (lv_sub hl [] rfl) h
    · have h := ine hc h
      refine c_aload_n hx hb dX7_finish_26 rfl (lv_at hl 0 rfl) ?_
      refine c_dupq hx hb dX7_finish_27 ?_
      obtain ⟨v8, hv8, h⟩ := ob h
      refine c_gI X hP hv8 (Nat.le_of_ble_eq_true rfl) (Nat.le_of_ble_eq_true rfl) rfl w_434 dX7_finish_28 ?_
      refine c_aload_n hx hb dX7_finish_31 rfl (lv_at hl 1 rfl) ?_
      obtain ⟨v9, hv9, h⟩ := ob h
      refine c_gI X hP hv9 (Nat.le_of_ble_eq_true rfl) (Nat.le_of_ble_eq_true rfl) rfl w_385 dX7_finish_32 ?_
      refine lv_ior hx hb dX7_finish_35 ?_
      obtain ⟨v10, hv10, h⟩ := ob h
      refine c_pI X hP hS hv10 (Nat.le_of_ble_eq_true rfl) (Nat.le_of_ble_eq_true rfl) rfl rfl (Or.inl rfl) w_434 dX7_finish_36 (fun H locs hP hS => ?_)
      refine c_aload_n hx hb dX7_finish_39 rfl (lv_at hl 0 rfl) ?_
      refine c_dupq hx hb dX7_finish_40 ?_
      obtain ⟨v11, hv11, h⟩ := ob h
      refine c_gI X hP hv11 (Nat.le_of_ble_eq_true rfl) (Nat.le_of_ble_eq_true rfl) rfl w_433 dX7_finish_41 ?_
      refine c_aload_n hx hb dX7_finish_44 rfl (lv_at hl 1 rfl) ?_
      refine c_aload_n hx hb dX7_finish_45 rfl (lv_at hl 0 rfl) ?_
      obtain ⟨v12, hv12, h⟩ := ob h
      refine c_gR X hP hv12 (Nat.le_of_ble_eq_true rfl) (Nat.le_of_ble_eq_true rfl) rfl w_411 dX7_finish_46 ?_
      refine c_acmp_ne (tgt := 59) X hP dX7_finish_49 rfl (fun hc => ?_) (fun hc => ?_)
      · have h := ine hc h
        refine c_aload_n hx hb dX7_finish_59 rfl (lv_at hl 1 rfl) ?_
        obtain ⟨v13, hv13, h⟩ := ob h
        refine c_gI X hP hv13 (Nat.le_of_ble_eq_true rfl) (Nat.le_of_ble_eq_true rfl) rfl w_385 dX7_finish_60 ?_
        exact N_X7_finish_63 X hP hS ih (lv_sub hl [0, 1] rfl) h
      · have h := ip hc h
        refine c_aload_n hx hb dX7_finish_52 rfl (lv_at hl 1 rfl) ?_
        obtain ⟨v14, hv14, h⟩ := ob h
        refine c_gI X hP hv14 (Nat.le_of_ble_eq_true rfl) (Nat.le_of_ble_eq_true rfl) rfl w_384 dX7_finish_53 ?_
        refine lv_goto (tgt := 63) hx hb dX7_finish_56 rfl ?_
        exact N_X7_finish_63 X hP hS ih (lv_sub hl [0, 1] rfl) h
set_option maxRecDepth 20000 in
set_option maxHeartbeats 4000000 in
theorem K_X7_finish (l : Launch) (D : cD) (Φ : cG) (σ : cS) (x0 : Nat) (x1 : Int32) {q : cS} (h : f_X7_finish x0 x1 σ = some q) : Met l yX7_finish (Cond.code yX7_finish cX7_finish 3 none :: BG) (rA 1 0 0 20) (cPc D Φ σ [cv Φ (some x0), .int x1]) (cQw D Φ q none) 0 0 (cReg Φ) := by
  refine Met.ofW (cc := cX7_finish) (maxL := 3) (ret := none) (by decide) rfl ?_
  intro p e s m args below meth c s₁ B hml hv
  obtain ⟨rfl, hP, hK, hZ⟩ := hv
  have X : cX p s m [cv Φ (some x0), .int x1].toArray meth c cX7_finish 3 none RX7 D Φ := cX_of B hml hK hZ
  have hx := X.1
  have hb := X.2.1
  have hown := X.2.2.2.1
  have hts := X.2.2.2.2.1
  have hl := lv_entry [cv Φ (some x0), .int x1] (n := 3) (by simp only [lgs_r, lgs_i, lgs_l, lgs_0, List.length]; exact Nat.le_of_ble_eq_true rfl)
  rw [lg_entry_eq]
  generalize (lg_sl [cv Φ (some x0), .int x1] ++ List.replicate (3 - (lg_sl [cv Φ (some x0), .int x1]).length) Slot.unset).toArray = ls at hl ⊢
  simp only [lv_args_r, lv_args_i, lv_args_l, lv_args_0] at hl
  have hl : lv_has ls 3 [(0, cv Φ (some x0)), (1, .int x1)] := hl
  have hS : va_S (cReg Φ) s.heap s.heap [] := va_S.rf
  show cWw p l e 1 0 0 20 s m [cv Φ (some x0), .int x1].toArray below meth c D Φ q none s.heap [] 0 0 (F0 m 0 ls [])
  have h : ((pI σ (some x0) 7 3 x1).bind (fun v1 => (gI v1 (some x0) 7 9).bind (fun v2 => (pI v1 (some x0) 7 9 (v2 ||| ((1:Int32) <<< (x1 &&& 31)))).bind (fun v3 => (gR v3 (some x0) 7 0).bind (fun v4 => f_X7_finish_22 x0 4000 (v4) v3))))) = some q := h
  refine c_aload_n hx hb dX7_finish_0 rfl (lv_at hl 0 rfl) ?_
  refine lv_iload_n hx hb dX7_finish_1 rfl (lv_at hl 1 rfl) ?_
  obtain ⟨v1, hv1, h⟩ := ob h
  refine c_pI X hP hS hv1 (Nat.le_of_ble_eq_true rfl) (Nat.le_of_ble_eq_true rfl) rfl rfl (Or.inl rfl) w_415 dX7_finish_2 (fun H locs hP hS => ?_)
  refine c_aload_n hx hb dX7_finish_5 rfl (lv_at hl 0 rfl) ?_
  refine c_dupq hx hb dX7_finish_6 ?_
  obtain ⟨v2, hv2, h⟩ := ob h
  refine c_gI X hP hv2 (Nat.le_of_ble_eq_true rfl) (Nat.le_of_ble_eq_true rfl) rfl w_429 dX7_finish_7 ?_
  refine lv_iconst (v := (1:Int32)) hx hb dX7_finish_10 (by decide) ?_
  refine lv_iload_n hx hb dX7_finish_11 rfl (lv_at hl 1 rfl) ?_
  refine lv_ishl hx hb dX7_finish_12 ?_
  refine lv_ior hx hb dX7_finish_13 ?_
  obtain ⟨v3, hv3, h⟩ := ob h
  refine c_pI X hP hS hv3 (Nat.le_of_ble_eq_true rfl) (Nat.le_of_ble_eq_true rfl) rfl rfl (Or.inl rfl) w_429 dX7_finish_14 (fun H locs hP hS => ?_)
  refine c_aload_n hx hb dX7_finish_17 rfl (lv_at hl 0 rfl) ?_
  obtain ⟨v4, hv4, h⟩ := ob h
  refine c_gR X hP hv4 (Nat.le_of_ble_eq_true rfl) (Nat.le_of_ble_eq_true rfl) rfl w_409 dX7_finish_18 ?_
  refine c_astore_n hx hb dX7_finish_21 rfl hl (Nat.le_of_ble_eq_true rfl) (lvKa rfl (lvKi lvK0)) rfl (fun ls (hl : lv_has ls 3 [(2, cv Φ v4), (0, cv Φ (some x0)), (1, .int x1)]) => ?_)
  exact N_X7_finish_22 X hP hS (lv_sub hl [1, 0] rfl) h
theorem ww_X7_finish : Cond.instanceMethod yX7_finish ∈ BG ∧ Cond.selects (yX7_finish).cls yX7_finish yX7_finish ∈ BG ∧ Cond.initialized (yX7_finish).cls ∈ BG ∧ Cond.code yX7_finish cX7_finish 3 none ∈ BG := ⟨w_1238, w_1239, w_62, w_1240⟩
theorem hy_X7_finish : (yX7_finish).cls ≠ "java/lang/invoke/MethodHandle" ∧ (yX7_finish).cls ≠ "java/lang/invoke/VarHandle" ∧ (parseMethodDescriptor (yX7_finish).desc).map (fun d => d.parameters.length) = some 1 := ⟨by decide, by decide, by decide +kernel⟩
def f_X5_keepDraft_54  (x0 : Nat)  (σ : cS) : Option (Int32 × cS) := (gI σ (some x0) 5 2).bind (fun v1 => some ((v1 - (1:Int32)), σ))
def f_X5_keepDraft (x0 : Nat)  (σ : cS) : Option (Int32 × cS) := (gI σ (some x0) 5 2).bind (fun v1 => if (30:Int32) ≤ v1 then (f_X5_keepDraft_54 x0 σ) else ((gR σ (some x0) 5 3).bind (fun v2 => (gI σ (some x0) 5 2).bind (fun v3 => (rc σ v2 7).bind (fun v4 => (f_X7_finish v4 (v3) σ).bind (fun v5 => (gR v5 (some x0) 5 1).bind (fun v6 => (gI v5 (some x0) 5 2).bind (fun v7 => (gR v5 (some x0) 5 3).bind (fun v8 => (sR v5 v6 7 v7 v8).bind (fun v9 => (rc (nw v9 7) (some (v9).2) 7).bind (fun v10 => (f_X7_init v10  (nw v9 7)).bind (fun v11 => (pR v11 (some x0) 5 3 (some (v9).2)).bind (fun v12 => (gI v12 (some x0) 5 2).bind (fun v13 => (pI v12 (some x0) 5 2 (v13 + (1:Int32))).bind (fun v14 => f_X5_keepDraft_54 x0 v14)))))))))))))))
set_option maxRecDepth 20000 in
set_option maxHeartbeats 4000000 in
theorem N_X5_keepDraft_54 {p : Program} {l : Launch} {e : Env} {s : State} {m : MethodId} {args : Array Value} {below : List Frame} {meth : Method} {c : Code} {D : cD} {Φ : cG} {x0 : Nat}    {σ : cS} {H : Heap} {locs : List Loc} {ls : Array Slot} {q : Int32 × cS} (X : cX p s m args meth c cX5_keepDraft 1 (some .int) RX5 D Φ) (hP : cP D Φ σ H) (hS : va_S (cReg Φ) s.heap H locs)  (hl : lv_has ls 1 [(0, cv Φ (some x0))]) (h : f_X5_keepDraft_54  x0  σ = some q) : cWw p l e 3 5 35 61 s m args below meth c D Φ q.2 (some (.int q.1)) H locs 5 35 (F0 m 54 ls []) := by
  have hx := X.1
  have hb := X.2.1
  have hown := X.2.2.2.1
  have hts := X.2.2.2.2.1
  have h : ((gI σ (some x0) 5 2).bind (fun v1 => some ((v1 - (1:Int32)), σ))) = some q := h
  refine c_aload_n hx hb dX5_keepDraft_54 rfl (lv_at hl 0 rfl) ?_
  obtain ⟨v1, hv1, h⟩ := ob h
  refine c_gI X hP hv1 (Nat.le_of_ble_eq_true rfl) (Nat.le_of_ble_eq_true rfl) rfl w_466 dX5_keepDraft_55 ?_
  refine lv_iconst (v := (1:Int32)) hx hb dX5_keepDraft_58 (by decide) ?_
  refine lv_isub hx hb dX5_keepDraft_59 ?_
  obtain rfl := sj h
  exact c_wi X hP hS (Nat.le_of_ble_eq_true rfl) (Nat.le_of_ble_eq_true rfl) dX5_keepDraft_60
set_option maxRecDepth 20000 in
set_option maxHeartbeats 4000000 in
theorem K_X5_keepDraft (l : Launch) (D : cD) (Φ : cG) (σ : cS) (x0 : Nat)  {q : Int32 × cS} (h : f_X5_keepDraft x0  σ = some q) : Met l yX5_keepDraft (Cond.code yX5_keepDraft cX5_keepDraft 1 (some .int) :: BG) (rA 3 5 35 61) (cPc D Φ σ [cv Φ (some x0)]) (cQw D Φ q.2 (some (.int q.1))) 5 35 (cReg Φ) := by
  refine Met.ofW (cc := cX5_keepDraft) (maxL := 1) (ret := (some .int)) (by decide) rfl ?_
  intro p e s m args below meth c s₁ B hml hv
  obtain ⟨rfl, hP, hK, hZ⟩ := hv
  have X : cX p s m [cv Φ (some x0)].toArray meth c cX5_keepDraft 1 (some .int) RX5 D Φ := cX_of B hml hK hZ
  have hx := X.1
  have hb := X.2.1
  have hown := X.2.2.2.1
  have hts := X.2.2.2.2.1
  have hl := lv_entry [cv Φ (some x0)] (n := 1) (by simp only [lgs_r, lgs_i, lgs_l, lgs_0, List.length]; exact Nat.le_of_ble_eq_true rfl)
  rw [lg_entry_eq]
  generalize (lg_sl [cv Φ (some x0)] ++ List.replicate (1 - (lg_sl [cv Φ (some x0)]).length) Slot.unset).toArray = ls at hl ⊢
  simp only [lv_args_r, lv_args_i, lv_args_l, lv_args_0] at hl
  have hl : lv_has ls 1 [(0, cv Φ (some x0))] := hl
  have hS : va_S (cReg Φ) s.heap s.heap [] := va_S.rf
  show cWw p l e 3 5 35 61 s m [cv Φ (some x0)].toArray below meth c D Φ q.2 (some (.int q.1)) s.heap [] 0 0 (F0 m 0 ls [])
  have h : ((gI σ (some x0) 5 2).bind (fun v1 => if (30:Int32) ≤ v1 then (f_X5_keepDraft_54 x0 σ) else ((gR σ (some x0) 5 3).bind (fun v2 => (gI σ (some x0) 5 2).bind (fun v3 => (rc σ v2 7).bind (fun v4 => (f_X7_finish v4 (v3) σ).bind (fun v5 => (gR v5 (some x0) 5 1).bind (fun v6 => (gI v5 (some x0) 5 2).bind (fun v7 => (gR v5 (some x0) 5 3).bind (fun v8 => (sR v5 v6 7 v7 v8).bind (fun v9 => (rc (nw v9 7) (some (v9).2) 7).bind (fun v10 => (f_X7_init v10  (nw v9 7)).bind (fun v11 => (pR v11 (some x0) 5 3 (some (v9).2)).bind (fun v12 => (gI v12 (some x0) 5 2).bind (fun v13 => (pI v12 (some x0) 5 2 (v13 + (1:Int32))).bind (fun v14 => f_X5_keepDraft_54 x0 v14)))))))))))))))) = some q := h
  refine c_aload_n hx hb dX5_keepDraft_0 rfl (lv_at hl 0 rfl) ?_
  obtain ⟨v1, hv1, h⟩ := ob h
  refine c_gI X hP hv1 (Nat.le_of_ble_eq_true rfl) (Nat.le_of_ble_eq_true rfl) rfl w_466 dX5_keepDraft_1 ?_
  refine lv_bipush (v := (30:Int32)) hx hb dX5_keepDraft_4 (by decide) ?_
  refine lv_icmp_ge (tgt := 54) hx hb dX5_keepDraft_6 rfl (fun hc => ?_) (fun hc => ?_)
  · have h := ip hc h
    refine W.widen (k := 5) (n := 35) (Nat.le_of_ble_eq_true rfl) (Nat.le_of_ble_eq_true rfl) ?_
    exact N_X5_keepDraft_54 X hP hS (lv_sub hl [0] rfl) h
  · have h := ine hc h
    refine c_aload_n hx hb dX5_keepDraft_9 rfl (lv_at hl 0 rfl) ?_
    obtain ⟨v2, hv2, h⟩ := ob h
    refine c_gR X hP hv2 (Nat.le_of_ble_eq_true rfl) (Nat.le_of_ble_eq_true rfl) rfl w_468 dX5_keepDraft_10 ?_
    refine c_aload_n hx hb dX5_keepDraft_13 rfl (lv_at hl 0 rfl) ?_
    obtain ⟨v3, hv3, h⟩ := ob h
    refine c_gI X hP hv3 (Nat.le_of_ble_eq_true rfl) (Nat.le_of_ble_eq_true rfl) rfl w_466 dX5_keepDraft_14 ?_
    obtain ⟨v4, hv4, h⟩ := ob h
    obtain ⟨v5, hv5, h⟩ := ob h
    refine c_cw (c_runV X (K_X7_finish l D Φ σ v4 (v3) hv5) hv4 ⟨Nat.le_of_ble_eq_true rfl, by decide⟩ ⟨w_1237, ww_X7_finish⟩ rfl hy_X7_finish rfl ⟨(Nat.le_of_ble_eq_true rfl), (Nat.le_of_ble_eq_true rfl)⟩ hP hS hl.1 (Nat.le_of_ble_eq_true rfl) dX5_keepDraft_17 rfl ⟨(Nat.le_of_ble_eq_true rfl), (Nat.le_of_ble_eq_true rfl)⟩) hS (fun H locs hP hS => ?_)
    refine W.eq (g2 := F0 m 20 ls []) rfl ?_
    refine c_aload_n hx hb dX5_keepDraft_20 rfl (lv_at hl 0 rfl) ?_
    obtain ⟨v6, hv6, h⟩ := ob h
    refine c_gR X hP hv6 (Nat.le_of_ble_eq_true rfl) (Nat.le_of_ble_eq_true rfl) rfl w_465 dX5_keepDraft_21 ?_
    refine c_aload_n hx hb dX5_keepDraft_24 rfl (lv_at hl 0 rfl) ?_
    obtain ⟨v7, hv7, h⟩ := ob h
    refine c_gI X hP hv7 (Nat.le_of_ble_eq_true rfl) (Nat.le_of_ble_eq_true rfl) rfl w_466 dX5_keepDraft_25 ?_
    refine c_aload_n hx hb dX5_keepDraft_28 rfl (lv_at hl 0 rfl) ?_
    obtain ⟨v8, hv8, h⟩ := ob h
    refine c_gR X hP hv8 (Nat.le_of_ble_eq_true rfl) (Nat.le_of_ble_eq_true rfl) rfl w_468 dX5_keepDraft_29 ?_
    obtain ⟨v9, hv9, h⟩ := ob h
    refine c_astq X hP hS hv9 ⟨Nat.le_of_ble_eq_true rfl, by decide⟩ rfl dX5_keepDraft_32 (fun H locs hP hS => ?_)
    refine c_aload_n hx hb dX5_keepDraft_33 rfl (lv_at hl 0 rfl) ?_
    refine c_new X hP hS (ci := 7) ⟨Nat.le_of_ble_eq_true rfl, by decide⟩ ⟨w_354, w_356, w_62⟩ (Nat.le_of_ble_eq_true rfl) (Nat.le_of_ble_eq_true rfl) dX5_keepDraft_34 (fun H hP hS => ?_)
    refine c_dupq hx hb dX5_keepDraft_37 ?_
    obtain ⟨v10, hv10, h⟩ := ob h
    obtain ⟨v11, hv11, h⟩ := ob h
    refine c_cw (c_runIN X (K_X7_init l D Φ (nw v9 7) v10  hv11) hv10 (Nat.le_of_ble_eq_true rfl) ⟨cn_2, ww_X7_init⟩ rfl rfl hy_X7_init rfl ⟨(Nat.le_of_ble_eq_true rfl), (Nat.le_of_ble_eq_true rfl)⟩ hP hS hl.1 (Nat.le_of_ble_eq_true rfl) dX5_keepDraft_38 rfl ⟨(Nat.le_of_ble_eq_true rfl), (Nat.le_of_ble_eq_true rfl)⟩) hS (fun H locs hP hS => ?_)
    refine W.eq (g2 := F0 m 41 ls [cv Φ (some (v9).2), cv Φ (some x0)]) rfl ?_
    obtain ⟨v12, hv12, h⟩ := ob h
    refine c_pR X hP hS hv12 (Nat.le_of_ble_eq_true rfl) (Nat.le_of_ble_eq_true rfl) rfl (Or.inl rfl) w_468 dX5_keepDraft_41 (fun H locs hP hS => ?_)
    refine c_aload_n hx hb dX5_keepDraft_44 rfl (lv_at hl 0 rfl) ?_
    refine c_dupq hx hb dX5_keepDraft_45 ?_
    obtain ⟨v13, hv13, h⟩ := ob h
    refine c_gI X hP hv13 (Nat.le_of_ble_eq_true rfl) (Nat.le_of_ble_eq_true rfl) rfl w_466 dX5_keepDraft_46 ?_
    refine lv_iconst (v := (1:Int32)) hx hb dX5_keepDraft_49 (by decide) ?_
    refine lv_iadd hx hb dX5_keepDraft_50 ?_
    obtain ⟨v14, hv14, h⟩ := ob h
    refine c_pI X hP hS hv14 (Nat.le_of_ble_eq_true rfl) (Nat.le_of_ble_eq_true rfl) rfl rfl (Or.inl rfl) w_466 dX5_keepDraft_51 (fun H locs hP hS => ?_)
    exact N_X5_keepDraft_54 X hP hS (lv_sub hl [0] rfl) h
theorem ww_X5_keepDraft : Cond.instanceMethod yX5_keepDraft ∈ BG ∧ Cond.selects (yX5_keepDraft).cls yX5_keepDraft yX5_keepDraft ∈ BG ∧ Cond.initialized (yX5_keepDraft).cls ∈ BG ∧ Cond.code yX5_keepDraft cX5_keepDraft 1 (some .int) ∈ BG := ⟨w_1234, w_1235, w_61, w_1236⟩
theorem hy_X5_keepDraft : (yX5_keepDraft).cls ≠ "java/lang/invoke/MethodHandle" ∧ (yX5_keepDraft).cls ≠ "java/lang/invoke/VarHandle" ∧ (parseMethodDescriptor (yX5_keepDraft).desc).map (fun d => d.parameters.length) = some 0 := ⟨by decide, by decide, by decide +kernel⟩
def f_X6_enter_65  (x0 : Nat)  (σ : cS) : Option (cS) := some σ
def f_X6_enter_48  (x0 : Nat) (x1 : Int32) (x2 : Int32) (x3 : Int32) (y0 : Option Nat) (y1 : Int32) (σ : cS) : Option (cS) := (pI σ y0 6 7 y1).bind (fun v1 => (gR v1 (some x0) 6 8).bind (fun v2 => (sI v1 v2 x1 x2).bind (fun v3 => (gR v3 (some x0) 6 9).bind (fun v4 => (sI v3 v4 x1 x3).bind (fun v5 => f_X6_enter_65 x0 v5)))))
def f_X6_enter (x0 : Nat) (x1 : Int32) (x2 : Int32) (x3 : Int32) (x4 : Int32) (σ : cS) : Option (cS) := (f_X11_isBelow (x1) ((15:Int32))).bind (fun v1 => if v1 = (0:Int32) then (f_X6_enter_65 x0 σ) else ((gI σ (some x0) 6 6).bind (fun v2 => (pI σ (some x0) 6 6 (v2 ||| ((1:Int32) <<< (x1 &&& 31)))).bind (fun v3 => if x4 = (0:Int32) then ((gI v3 (some x0) 6 7).bind (fun v4 => f_X6_enter_48 x0 (x1) (x2) (x3) ((some x0)) ((v4 &&& (((1:Int32) <<< (x1 &&& 31)) ^^^ ((-1):Int32)))) v3)) else ((gI v3 (some x0) 6 7).bind (fun v5 => f_X6_enter_48 x0 (x1) (x2) (x3) ((some x0)) ((v5 ||| ((1:Int32) <<< (x1 &&& 31)))) v3))))))
set_option maxRecDepth 20000 in
set_option maxHeartbeats 4000000 in
theorem N_X6_enter_65 {p : Program} {l : Launch} {e : Env} {s : State} {m : MethodId} {args : Array Value} {below : List Frame} {meth : Method} {c : Code} {D : cD} {Φ : cG} {x0 : Nat}    {σ : cS} {H : Heap} {locs : List Loc} {ls : Array Slot} {q : cS} (X : cX p s m args meth c cX6_enter 5 none RX6 D Φ) (hP : cP D Φ σ H) (hS : va_S (cReg Φ) s.heap H locs)  (hl : lv_has ls 5 []) (h : f_X6_enter_65  x0  σ = some q) : cWw p l e 1 0 0 21 s m args below meth c D Φ q none H locs 0 0 (F0 m 65 ls []) := by
  have hx := X.1
  have hb := X.2.1
  have hown := X.2.2.2.1
  have hts := X.2.2.2.2.1
  have h : (some σ) = some q := h
  obtain rfl := sj h
  exact c_wv X hP hS (Nat.le_of_ble_eq_true rfl) (Nat.le_of_ble_eq_true rfl) dX6_enter_65
set_option maxRecDepth 20000 in
set_option maxHeartbeats 4000000 in
theorem N_X6_enter_48 {p : Program} {l : Launch} {e : Env} {s : State} {m : MethodId} {args : Array Value} {below : List Frame} {meth : Method} {c : Code} {D : cD} {Φ : cG} {x0 : Nat}   {x1 : Int32} {x2 : Int32} {x3 : Int32} {y0 : Option Nat} {y1 : Int32} {σ : cS} {H : Heap} {locs : List Loc} {ls : Array Slot} {q : cS} (X : cX p s m args meth c cX6_enter 5 none RX6 D Φ) (hP : cP D Φ σ H) (hS : va_S (cReg Φ) s.heap H locs)  (hl : lv_has ls 5 [(0, cv Φ (some x0)), (1, .int x1), (2, .int x2), (3, .int x3)]) (h : f_X6_enter_48  x0 x1 x2 x3 y0 y1 σ = some q) : cWw p l e 1 0 0 21 s m args below meth c D Φ q none H locs 0 0 (F0 m 48 ls [.int y1, cv Φ y0]) := by
  have hx := X.1
  have hb := X.2.1
  have hown := X.2.2.2.1
  have hts := X.2.2.2.2.1
  have h : ((pI σ y0 6 7 y1).bind (fun v1 => (gR v1 (some x0) 6 8).bind (fun v2 => (sI v1 v2 x1 x2).bind (fun v3 => (gR v3 (some x0) 6 9).bind (fun v4 => (sI v3 v4 x1 x3).bind (fun v5 => f_X6_enter_65 x0 v5)))))) = some q := h
  obtain ⟨v1, hv1, h⟩ := ob h
  refine c_pI X hP hS hv1 (Nat.le_of_ble_eq_true rfl) (Nat.le_of_ble_eq_true rfl) rfl rfl (Or.inl rfl) w_175 dX6_enter_48 (fun H locs hP hS => ?_)
  refine c_aload_n hx hb dX6_enter_51 rfl (lv_at hl 0 rfl) ?_
  obtain ⟨v2, hv2, h⟩ := ob h
  refine c_gR X hP hv2 (Nat.le_of_ble_eq_true rfl) (Nat.le_of_ble_eq_true rfl) rfl w_178 dX6_enter_52 ?_
  refine lv_iload_n hx hb dX6_enter_55 rfl (lv_at hl 1 rfl) ?_
  refine lv_iload_n hx hb dX6_enter_56 rfl (lv_at hl 2 rfl) ?_
  obtain ⟨v3, hv3, h⟩ := ob h
  refine c_ast X hP hS hv3 dX6_enter_57 (fun H locs hP hS => ?_)
  refine c_aload_n hx hb dX6_enter_58 rfl (lv_at hl 0 rfl) ?_
  obtain ⟨v4, hv4, h⟩ := ob h
  refine c_gR X hP hv4 (Nat.le_of_ble_eq_true rfl) (Nat.le_of_ble_eq_true rfl) rfl w_181 dX6_enter_59 ?_
  refine lv_iload_n hx hb dX6_enter_62 rfl (lv_at hl 1 rfl) ?_
  refine lv_iload_n hx hb dX6_enter_63 rfl (lv_at hl 3 rfl) ?_
  obtain ⟨v5, hv5, h⟩ := ob h
  refine c_ast X hP hS hv5 dX6_enter_64 (fun H locs hP hS => ?_)
  exact N_X6_enter_65 X hP hS (lv_sub hl [] rfl) h
set_option maxRecDepth 20000 in
set_option maxHeartbeats 4000000 in
theorem K_X6_enter (l : Launch) (D : cD) (Φ : cG) (σ : cS) (x0 : Nat) (x1 : Int32) (x2 : Int32) (x3 : Int32) (x4 : Int32) {q : cS} (h : f_X6_enter x0 x1 x2 x3 x4 σ = some q) : Met l yX6_enter (Cond.code yX6_enter cX6_enter 5 none :: BG) (rA 1 0 0 21) (cPc D Φ σ [cv Φ (some x0), .int x1, .int x2, .int x3, .int x4]) (cQw D Φ q none) 0 0 (cReg Φ) := by
  refine Met.ofW (cc := cX6_enter) (maxL := 5) (ret := none) (by decide) rfl ?_
  intro p e s m args below meth c s₁ B hml hv
  obtain ⟨rfl, hP, hK, hZ⟩ := hv
  have X : cX p s m [cv Φ (some x0), .int x1, .int x2, .int x3, .int x4].toArray meth c cX6_enter 5 none RX6 D Φ := cX_of B hml hK hZ
  have hx := X.1
  have hb := X.2.1
  have hown := X.2.2.2.1
  have hts := X.2.2.2.2.1
  have hl := lv_entry [cv Φ (some x0), .int x1, .int x2, .int x3, .int x4] (n := 5) (by simp only [lgs_r, lgs_i, lgs_l, lgs_0, List.length]; exact Nat.le_of_ble_eq_true rfl)
  rw [lg_entry_eq]
  generalize (lg_sl [cv Φ (some x0), .int x1, .int x2, .int x3, .int x4] ++ List.replicate (5 - (lg_sl [cv Φ (some x0), .int x1, .int x2, .int x3, .int x4]).length) Slot.unset).toArray = ls at hl ⊢
  simp only [lv_args_r, lv_args_i, lv_args_l, lv_args_0] at hl
  have hl : lv_has ls 5 [(0, cv Φ (some x0)), (1, .int x1), (2, .int x2), (3, .int x3), (4, .int x4)] := hl
  have hS : va_S (cReg Φ) s.heap s.heap [] := va_S.rf
  show cWw p l e 1 0 0 21 s m [cv Φ (some x0), .int x1, .int x2, .int x3, .int x4].toArray below meth c D Φ q none s.heap [] 0 0 (F0 m 0 ls [])
  have h : ((f_X11_isBelow (x1) ((15:Int32))).bind (fun v1 => if v1 = (0:Int32) then (f_X6_enter_65 x0 σ) else ((gI σ (some x0) 6 6).bind (fun v2 => (pI σ (some x0) 6 6 (v2 ||| ((1:Int32) <<< (x1 &&& 31)))).bind (fun v3 => if x4 = (0:Int32) then ((gI v3 (some x0) 6 7).bind (fun v4 => f_X6_enter_48 x0 (x1) (x2) (x3) ((some x0)) ((v4 &&& (((1:Int32) <<< (x1 &&& 31)) ^^^ ((-1):Int32)))) v3)) else ((gI v3 (some x0) 6 7).bind (fun v5 => f_X6_enter_48 x0 (x1) (x2) (x3) ((some x0)) ((v5 ||| ((1:Int32) <<< (x1 &&& 31)))) v3))))))) = some q := h
  refine lv_iload_n hx hb dX6_enter_0 rfl (lv_at hl 1 rfl) ?_
  refine lv_bipush (v := (15:Int32)) hx hb dX6_enter_1 (by decide) ?_
  obtain ⟨v1, hv1, h⟩ := ob h
  refine c_cr (c_runSN X (K_X11_isBelow l D Φ σ (x1) ((15:Int32)) hv1) ⟨cn_7, ww_X11_isBelow⟩ hy_X11_isBelow rfl ⟨(Nat.le_of_ble_eq_true rfl), (Nat.le_of_ble_eq_true rfl)⟩ hP hS hl.1 (Nat.le_of_ble_eq_true rfl) dX6_enter_3 rfl ⟨(Nat.le_of_ble_eq_true rfl), (Nat.le_of_ble_eq_true rfl)⟩) ?_
  refine lv_if_eq (tgt := 65) hx hb dX6_enter_6 rfl (fun hc => ?_) (fun hc => ?_)
  · have h := ip hc h
    exact N_X6_enter_65 X hP hS (lv_sub hl [] rfl) h
  · have h := ine hc h
    refine c_aload_n hx hb dX6_enter_9 rfl (lv_at hl 0 rfl) ?_
    refine c_dupq hx hb dX6_enter_10 ?_
    obtain ⟨v2, hv2, h⟩ := ob h
    refine c_gI X hP hv2 (Nat.le_of_ble_eq_true rfl) (Nat.le_of_ble_eq_true rfl) rfl w_173 dX6_enter_11 ?_
    refine lv_iconst (v := (1:Int32)) hx hb dX6_enter_14 (by decide) ?_
    refine lv_iload_n hx hb dX6_enter_15 rfl (lv_at hl 1 rfl) ?_
    refine lv_ishl hx hb dX6_enter_16 ?_
    refine lv_ior hx hb dX6_enter_17 ?_
    obtain ⟨v3, hv3, h⟩ := ob h
    refine c_pI X hP hS hv3 (Nat.le_of_ble_eq_true rfl) (Nat.le_of_ble_eq_true rfl) rfl rfl (Or.inl rfl) w_173 dX6_enter_18 (fun H locs hP hS => ?_)
    refine c_aload_n hx hb dX6_enter_21 rfl (lv_at hl 0 rfl) ?_
    refine lv_iload hx hb dX6_enter_22 (lv_at hl 4 rfl) ?_
    refine lv_if_eq (tgt := 38) hx hb dX6_enter_24 rfl (fun hc => ?_) (fun hc => ?_)
    · have h := ip hc h
      refine c_aload_n hx hb dX6_enter_38 rfl (lv_at hl 0 rfl) ?_
      obtain ⟨v4, hv4, h⟩ := ob h
      refine c_gI X hP hv4 (Nat.le_of_ble_eq_true rfl) (Nat.le_of_ble_eq_true rfl) rfl w_175 dX6_enter_39 ?_
      refine lv_iconst (v := (1:Int32)) hx hb dX6_enter_42 (by decide) ?_
      refine lv_iload_n hx hb dX6_enter_43 rfl (lv_at hl 1 rfl) ?_
      refine lv_ishl hx hb dX6_enter_44 ?_
      refine lv_iconst (v := ((-1):Int32)) hx hb dX6_enter_45 (by decide) ?_
      refine lv_ixor hx hb dX6_enter_46 ?_
      refine lv_iand hx hb dX6_enter_47 ?_
      exact N_X6_enter_48 X hP hS (lv_sub hl [0, 1, 2, 3] rfl) h
    · have h := ine hc h
      refine c_aload_n hx hb dX6_enter_27 rfl (lv_at hl 0 rfl) ?_
      obtain ⟨v5, hv5, h⟩ := ob h
      refine c_gI X hP hv5 (Nat.le_of_ble_eq_true rfl) (Nat.le_of_ble_eq_true rfl) rfl w_175 dX6_enter_28 ?_
      refine lv_iconst (v := (1:Int32)) hx hb dX6_enter_31 (by decide) ?_
      refine lv_iload_n hx hb dX6_enter_32 rfl (lv_at hl 1 rfl) ?_
      refine lv_ishl hx hb dX6_enter_33 ?_
      refine lv_ior hx hb dX6_enter_34 ?_
      refine lv_goto (tgt := 48) hx hb dX6_enter_35 rfl ?_
      exact N_X6_enter_48 X hP hS (lv_sub hl [0, 1, 2, 3] rfl) h
theorem ww_X6_enter : Cond.instanceMethod yX6_enter ∈ BG ∧ Cond.selects (yX6_enter).cls yX6_enter yX6_enter ∈ BG ∧ Cond.initialized (yX6_enter).cls ∈ BG ∧ Cond.code yX6_enter cX6_enter 5 none ∈ BG := ⟨w_1322, w_1323, w_60, w_1324⟩
theorem hy_X6_enter : (yX6_enter).cls ≠ "java/lang/invoke/MethodHandle" ∧ (yX6_enter).cls ≠ "java/lang/invoke/VarHandle" ∧ (parseMethodDescriptor (yX6_enter).desc).map (fun d => d.parameters.length) = some 4 := ⟨by decide, by decide, by decide +kernel⟩
def f_X6_enterVariable_23  (x0 : Nat)  (σ : cS) : Option (cS) := some σ
def f_X6_enterVariable (x0 : Nat) (x1 : Int32) (x2 : Int32) (x3 : Int32) (σ : cS) : Option (cS) := (f_X11_isBelow (x1) ((15:Int32))).bind (fun v1 => if v1 = (0:Int32) then (f_X6_enterVariable_23 x0 σ) else ((gR σ (some x0) 6 10).bind (fun v2 => (sI σ v2 x1 x2).bind (fun v3 => (gR v3 (some x0) 6 11).bind (fun v4 => (sI v3 v4 x1 x3).bind (fun v5 => f_X6_enterVariable_23 x0 v5))))))
set_option maxRecDepth 20000 in
set_option maxHeartbeats 4000000 in
theorem N_X6_enterVariable_23 {p : Program} {l : Launch} {e : Env} {s : State} {m : MethodId} {args : Array Value} {below : List Frame} {meth : Method} {c : Code} {D : cD} {Φ : cG} {x0 : Nat}    {σ : cS} {H : Heap} {locs : List Loc} {ls : Array Slot} {q : cS} (X : cX p s m args meth c cX6_enterVariable 4 none RX6 D Φ) (hP : cP D Φ σ H) (hS : va_S (cReg Φ) s.heap H locs)  (hl : lv_has ls 4 []) (h : f_X6_enterVariable_23  x0  σ = some q) : cWw p l e 1 0 0 21 s m args below meth c D Φ q none H locs 0 0 (F0 m 23 ls []) := by
  have hx := X.1
  have hb := X.2.1
  have hown := X.2.2.2.1
  have hts := X.2.2.2.2.1
  have h : (some σ) = some q := h
  obtain rfl := sj h
  exact c_wv X hP hS (Nat.le_of_ble_eq_true rfl) (Nat.le_of_ble_eq_true rfl) dX6_enterVariable_23
set_option maxRecDepth 20000 in
set_option maxHeartbeats 4000000 in
theorem K_X6_enterVariable (l : Launch) (D : cD) (Φ : cG) (σ : cS) (x0 : Nat) (x1 : Int32) (x2 : Int32) (x3 : Int32) {q : cS} (h : f_X6_enterVariable x0 x1 x2 x3 σ = some q) : Met l yX6_enterVariable (Cond.code yX6_enterVariable cX6_enterVariable 4 none :: BG) (rA 1 0 0 21) (cPc D Φ σ [cv Φ (some x0), .int x1, .int x2, .int x3]) (cQw D Φ q none) 0 0 (cReg Φ) := by
  refine Met.ofW (cc := cX6_enterVariable) (maxL := 4) (ret := none) (by decide) rfl ?_
  intro p e s m args below meth c s₁ B hml hv
  obtain ⟨rfl, hP, hK, hZ⟩ := hv
  have X : cX p s m [cv Φ (some x0), .int x1, .int x2, .int x3].toArray meth c cX6_enterVariable 4 none RX6 D Φ := cX_of B hml hK hZ
  have hx := X.1
  have hb := X.2.1
  have hown := X.2.2.2.1
  have hts := X.2.2.2.2.1
  have hl := lv_entry [cv Φ (some x0), .int x1, .int x2, .int x3] (n := 4) (by simp only [lgs_r, lgs_i, lgs_l, lgs_0, List.length]; exact Nat.le_of_ble_eq_true rfl)
  rw [lg_entry_eq]
  generalize (lg_sl [cv Φ (some x0), .int x1, .int x2, .int x3] ++ List.replicate (4 - (lg_sl [cv Φ (some x0), .int x1, .int x2, .int x3]).length) Slot.unset).toArray = ls at hl ⊢
  simp only [lv_args_r, lv_args_i, lv_args_l, lv_args_0] at hl
  have hl : lv_has ls 4 [(0, cv Φ (some x0)), (1, .int x1), (2, .int x2), (3, .int x3)] := hl
  have hS : va_S (cReg Φ) s.heap s.heap [] := va_S.rf
  show cWw p l e 1 0 0 21 s m [cv Φ (some x0), .int x1, .int x2, .int x3].toArray below meth c D Φ q none s.heap [] 0 0 (F0 m 0 ls [])
  have h : ((f_X11_isBelow (x1) ((15:Int32))).bind (fun v1 => if v1 = (0:Int32) then (f_X6_enterVariable_23 x0 σ) else ((gR σ (some x0) 6 10).bind (fun v2 => (sI σ v2 x1 x2).bind (fun v3 => (gR v3 (some x0) 6 11).bind (fun v4 => (sI v3 v4 x1 x3).bind (fun v5 => f_X6_enterVariable_23 x0 v5))))))) = some q := h
  refine lv_iload_n hx hb dX6_enterVariable_0 rfl (lv_at hl 1 rfl) ?_
  refine lv_bipush (v := (15:Int32)) hx hb dX6_enterVariable_1 (by decide) ?_
  obtain ⟨v1, hv1, h⟩ := ob h
  refine c_cr (c_runSN X (K_X11_isBelow l D Φ σ (x1) ((15:Int32)) hv1) ⟨cn_7, ww_X11_isBelow⟩ hy_X11_isBelow rfl ⟨(Nat.le_of_ble_eq_true rfl), (Nat.le_of_ble_eq_true rfl)⟩ hP hS hl.1 (Nat.le_of_ble_eq_true rfl) dX6_enterVariable_3 rfl ⟨(Nat.le_of_ble_eq_true rfl), (Nat.le_of_ble_eq_true rfl)⟩) ?_
  refine lv_if_eq (tgt := 23) hx hb dX6_enterVariable_6 rfl (fun hc => ?_) (fun hc => ?_)
  · have h := ip hc h
    exact N_X6_enterVariable_23 X hP hS (lv_sub hl [] rfl) h
  · have h := ine hc h
    refine c_aload_n hx hb dX6_enterVariable_9 rfl (lv_at hl 0 rfl) ?_
    obtain ⟨v2, hv2, h⟩ := ob h
    refine c_gR X hP hv2 (Nat.le_of_ble_eq_true rfl) (Nat.le_of_ble_eq_true rfl) rfl w_183 dX6_enterVariable_10 ?_
    refine lv_iload_n hx hb dX6_enterVariable_13 rfl (lv_at hl 1 rfl) ?_
    refine lv_iload_n hx hb dX6_enterVariable_14 rfl (lv_at hl 2 rfl) ?_
    obtain ⟨v3, hv3, h⟩ := ob h
    refine c_ast X hP hS hv3 dX6_enterVariable_15 (fun H locs hP hS => ?_)
    refine c_aload_n hx hb dX6_enterVariable_16 rfl (lv_at hl 0 rfl) ?_
    obtain ⟨v4, hv4, h⟩ := ob h
    refine c_gR X hP hv4 (Nat.le_of_ble_eq_true rfl) (Nat.le_of_ble_eq_true rfl) rfl w_185 dX6_enterVariable_17 ?_
    refine lv_iload_n hx hb dX6_enterVariable_20 rfl (lv_at hl 1 rfl) ?_
    refine lv_iload_n hx hb dX6_enterVariable_21 rfl (lv_at hl 3 rfl) ?_
    obtain ⟨v5, hv5, h⟩ := ob h
    refine c_ast X hP hS hv5 dX6_enterVariable_22 (fun H locs hP hS => ?_)
    exact N_X6_enterVariable_23 X hP hS (lv_sub hl [] rfl) h
theorem ww_X6_enterVariable : Cond.instanceMethod yX6_enterVariable ∈ BG ∧ Cond.selects (yX6_enterVariable).cls yX6_enterVariable yX6_enterVariable ∈ BG ∧ Cond.initialized (yX6_enterVariable).cls ∈ BG ∧ Cond.code yX6_enterVariable cX6_enterVariable 4 none ∈ BG := ⟨w_1351, w_1352, w_60, w_1353⟩
theorem hy_X6_enterVariable : (yX6_enterVariable).cls ≠ "java/lang/invoke/MethodHandle" ∧ (yX6_enterVariable).cls ≠ "java/lang/invoke/VarHandle" ∧ (parseMethodDescriptor (yX6_enterVariable).desc).map (fun d => d.parameters.length) = some 3 := ⟨by decide, by decide, by decide +kernel⟩
def f_J6_bitCount_0f7a4  (x0 : Int32)  : Option (Int32) := some ((((((((x0 - (((x0).toUInt32 >>> (((1:Int32)).toUInt32 &&& Int32.toUInt32 31)).toInt32 &&& (1431655765:Int32))) &&& (858993459:Int32)) + ((((x0 - (((x0).toUInt32 >>> (((1:Int32)).toUInt32 &&& Int32.toUInt32 31)).toInt32 &&& (1431655765:Int32)))).toUInt32 >>> (((2:Int32)).toUInt32 &&& Int32.toUInt32 31)).toInt32 &&& (858993459:Int32))) + (((((x0 - (((x0).toUInt32 >>> (((1:Int32)).toUInt32 &&& Int32.toUInt32 31)).toInt32 &&& (1431655765:Int32))) &&& (858993459:Int32)) + ((((x0 - (((x0).toUInt32 >>> (((1:Int32)).toUInt32 &&& Int32.toUInt32 31)).toInt32 &&& (1431655765:Int32)))).toUInt32 >>> (((2:Int32)).toUInt32 &&& Int32.toUInt32 31)).toInt32 &&& (858993459:Int32)))).toUInt32 >>> (((4:Int32)).toUInt32 &&& Int32.toUInt32 31)).toInt32) &&& (252645135:Int32)) + (((((((x0 - (((x0).toUInt32 >>> (((1:Int32)).toUInt32 &&& Int32.toUInt32 31)).toInt32 &&& (1431655765:Int32))) &&& (858993459:Int32)) + ((((x0 - (((x0).toUInt32 >>> (((1:Int32)).toUInt32 &&& Int32.toUInt32 31)).toInt32 &&& (1431655765:Int32)))).toUInt32 >>> (((2:Int32)).toUInt32 &&& Int32.toUInt32 31)).toInt32 &&& (858993459:Int32))) + (((((x0 - (((x0).toUInt32 >>> (((1:Int32)).toUInt32 &&& Int32.toUInt32 31)).toInt32 &&& (1431655765:Int32))) &&& (858993459:Int32)) + ((((x0 - (((x0).toUInt32 >>> (((1:Int32)).toUInt32 &&& Int32.toUInt32 31)).toInt32 &&& (1431655765:Int32)))).toUInt32 >>> (((2:Int32)).toUInt32 &&& Int32.toUInt32 31)).toInt32 &&& (858993459:Int32)))).toUInt32 >>> (((4:Int32)).toUInt32 &&& Int32.toUInt32 31)).toInt32) &&& (252645135:Int32))).toUInt32 >>> (((8:Int32)).toUInt32 &&& Int32.toUInt32 31)).toInt32) + ((((((((x0 - (((x0).toUInt32 >>> (((1:Int32)).toUInt32 &&& Int32.toUInt32 31)).toInt32 &&& (1431655765:Int32))) &&& (858993459:Int32)) + ((((x0 - (((x0).toUInt32 >>> (((1:Int32)).toUInt32 &&& Int32.toUInt32 31)).toInt32 &&& (1431655765:Int32)))).toUInt32 >>> (((2:Int32)).toUInt32 &&& Int32.toUInt32 31)).toInt32 &&& (858993459:Int32))) + (((((x0 - (((x0).toUInt32 >>> (((1:Int32)).toUInt32 &&& Int32.toUInt32 31)).toInt32 &&& (1431655765:Int32))) &&& (858993459:Int32)) + ((((x0 - (((x0).toUInt32 >>> (((1:Int32)).toUInt32 &&& Int32.toUInt32 31)).toInt32 &&& (1431655765:Int32)))).toUInt32 >>> (((2:Int32)).toUInt32 &&& Int32.toUInt32 31)).toInt32 &&& (858993459:Int32)))).toUInt32 >>> (((4:Int32)).toUInt32 &&& Int32.toUInt32 31)).toInt32) &&& (252645135:Int32)) + (((((((x0 - (((x0).toUInt32 >>> (((1:Int32)).toUInt32 &&& Int32.toUInt32 31)).toInt32 &&& (1431655765:Int32))) &&& (858993459:Int32)) + ((((x0 - (((x0).toUInt32 >>> (((1:Int32)).toUInt32 &&& Int32.toUInt32 31)).toInt32 &&& (1431655765:Int32)))).toUInt32 >>> (((2:Int32)).toUInt32 &&& Int32.toUInt32 31)).toInt32 &&& (858993459:Int32))) + (((((x0 - (((x0).toUInt32 >>> (((1:Int32)).toUInt32 &&& Int32.toUInt32 31)).toInt32 &&& (1431655765:Int32))) &&& (858993459:Int32)) + ((((x0 - (((x0).toUInt32 >>> (((1:Int32)).toUInt32 &&& Int32.toUInt32 31)).toInt32 &&& (1431655765:Int32)))).toUInt32 >>> (((2:Int32)).toUInt32 &&& Int32.toUInt32 31)).toInt32 &&& (858993459:Int32)))).toUInt32 >>> (((4:Int32)).toUInt32 &&& Int32.toUInt32 31)).toInt32) &&& (252645135:Int32))).toUInt32 >>> (((8:Int32)).toUInt32 &&& Int32.toUInt32 31)).toInt32)).toUInt32 >>> (((16:Int32)).toUInt32 &&& Int32.toUInt32 31)).toInt32) &&& (63:Int32))
set_option maxRecDepth 20000 in
set_option maxHeartbeats 4000000 in
theorem K_J6_bitCount_0f7a4 (l : Launch) (D : cD) (Φ : cG) (σ : cS)  (x0 : Int32) {r : Int32} (h : f_J6_bitCount_0f7a4  x0 = some r) : Met l yJ6_bitCount_0f7a4 (Cond.code yJ6_bitCount_0f7a4 cJ6_bitCount_0f7a4 1 (some .int) :: BG) (rA 0 0 0 0) (cPc D Φ σ [.int x0]) (cQr (some (.int r))) 0 0 (fun _ => False) := by
  refine Met.ofW (cc := cJ6_bitCount_0f7a4) (maxL := 1) (ret := (some .int)) (by decide) rfl ?_
  intro p e s m args below meth c s₁ B hml hv
  obtain ⟨rfl, hP, hK, hZ⟩ := hv
  have X : cX p s m [.int x0].toArray meth c cJ6_bitCount_0f7a4 1 (some .int) RJ6 D Φ := cX_of B hml hK hZ
  have hx := X.1
  have hb := X.2.1
  have hown := X.2.2.2.1
  have hts := X.2.2.2.2.1
  have hl := lv_entry [.int x0] (n := 1) (by simp only [lgs_r, lgs_i, lgs_l, lgs_0, List.length]; exact Nat.le_of_ble_eq_true rfl)
  rw [lg_entry_eq]
  generalize (lg_sl [.int x0] ++ List.replicate (1 - (lg_sl [.int x0]).length) Slot.unset).toArray = ls at hl ⊢
  simp only [lv_args_r, lv_args_i, lv_args_l, lv_args_0] at hl
  have hl : lv_has ls 1 [(0, .int x0)] := hl
  have hS : va_S (cReg Φ) s.heap s.heap [] := va_S.rf
  show cWr p l e 0 0 s m [.int x0].toArray below meth c (some (.int r)) (F0 m 0 ls [])
  have h : (some ((((((((x0 - (((x0).toUInt32 >>> (((1:Int32)).toUInt32 &&& Int32.toUInt32 31)).toInt32 &&& (1431655765:Int32))) &&& (858993459:Int32)) + ((((x0 - (((x0).toUInt32 >>> (((1:Int32)).toUInt32 &&& Int32.toUInt32 31)).toInt32 &&& (1431655765:Int32)))).toUInt32 >>> (((2:Int32)).toUInt32 &&& Int32.toUInt32 31)).toInt32 &&& (858993459:Int32))) + (((((x0 - (((x0).toUInt32 >>> (((1:Int32)).toUInt32 &&& Int32.toUInt32 31)).toInt32 &&& (1431655765:Int32))) &&& (858993459:Int32)) + ((((x0 - (((x0).toUInt32 >>> (((1:Int32)).toUInt32 &&& Int32.toUInt32 31)).toInt32 &&& (1431655765:Int32)))).toUInt32 >>> (((2:Int32)).toUInt32 &&& Int32.toUInt32 31)).toInt32 &&& (858993459:Int32)))).toUInt32 >>> (((4:Int32)).toUInt32 &&& Int32.toUInt32 31)).toInt32) &&& (252645135:Int32)) + (((((((x0 - (((x0).toUInt32 >>> (((1:Int32)).toUInt32 &&& Int32.toUInt32 31)).toInt32 &&& (1431655765:Int32))) &&& (858993459:Int32)) + ((((x0 - (((x0).toUInt32 >>> (((1:Int32)).toUInt32 &&& Int32.toUInt32 31)).toInt32 &&& (1431655765:Int32)))).toUInt32 >>> (((2:Int32)).toUInt32 &&& Int32.toUInt32 31)).toInt32 &&& (858993459:Int32))) + (((((x0 - (((x0).toUInt32 >>> (((1:Int32)).toUInt32 &&& Int32.toUInt32 31)).toInt32 &&& (1431655765:Int32))) &&& (858993459:Int32)) + ((((x0 - (((x0).toUInt32 >>> (((1:Int32)).toUInt32 &&& Int32.toUInt32 31)).toInt32 &&& (1431655765:Int32)))).toUInt32 >>> (((2:Int32)).toUInt32 &&& Int32.toUInt32 31)).toInt32 &&& (858993459:Int32)))).toUInt32 >>> (((4:Int32)).toUInt32 &&& Int32.toUInt32 31)).toInt32) &&& (252645135:Int32))).toUInt32 >>> (((8:Int32)).toUInt32 &&& Int32.toUInt32 31)).toInt32) + ((((((((x0 - (((x0).toUInt32 >>> (((1:Int32)).toUInt32 &&& Int32.toUInt32 31)).toInt32 &&& (1431655765:Int32))) &&& (858993459:Int32)) + ((((x0 - (((x0).toUInt32 >>> (((1:Int32)).toUInt32 &&& Int32.toUInt32 31)).toInt32 &&& (1431655765:Int32)))).toUInt32 >>> (((2:Int32)).toUInt32 &&& Int32.toUInt32 31)).toInt32 &&& (858993459:Int32))) + (((((x0 - (((x0).toUInt32 >>> (((1:Int32)).toUInt32 &&& Int32.toUInt32 31)).toInt32 &&& (1431655765:Int32))) &&& (858993459:Int32)) + ((((x0 - (((x0).toUInt32 >>> (((1:Int32)).toUInt32 &&& Int32.toUInt32 31)).toInt32 &&& (1431655765:Int32)))).toUInt32 >>> (((2:Int32)).toUInt32 &&& Int32.toUInt32 31)).toInt32 &&& (858993459:Int32)))).toUInt32 >>> (((4:Int32)).toUInt32 &&& Int32.toUInt32 31)).toInt32) &&& (252645135:Int32)) + (((((((x0 - (((x0).toUInt32 >>> (((1:Int32)).toUInt32 &&& Int32.toUInt32 31)).toInt32 &&& (1431655765:Int32))) &&& (858993459:Int32)) + ((((x0 - (((x0).toUInt32 >>> (((1:Int32)).toUInt32 &&& Int32.toUInt32 31)).toInt32 &&& (1431655765:Int32)))).toUInt32 >>> (((2:Int32)).toUInt32 &&& Int32.toUInt32 31)).toInt32 &&& (858993459:Int32))) + (((((x0 - (((x0).toUInt32 >>> (((1:Int32)).toUInt32 &&& Int32.toUInt32 31)).toInt32 &&& (1431655765:Int32))) &&& (858993459:Int32)) + ((((x0 - (((x0).toUInt32 >>> (((1:Int32)).toUInt32 &&& Int32.toUInt32 31)).toInt32 &&& (1431655765:Int32)))).toUInt32 >>> (((2:Int32)).toUInt32 &&& Int32.toUInt32 31)).toInt32 &&& (858993459:Int32)))).toUInt32 >>> (((4:Int32)).toUInt32 &&& Int32.toUInt32 31)).toInt32) &&& (252645135:Int32))).toUInt32 >>> (((8:Int32)).toUInt32 &&& Int32.toUInt32 31)).toInt32)).toUInt32 >>> (((16:Int32)).toUInt32 &&& Int32.toUInt32 31)).toInt32) &&& (63:Int32))) = some r := h
  refine lv_iload_n hx hb dJ6_bitCount_0f7a4_0 rfl (lv_at hl 0 rfl) ?_
  refine lv_iload_n hx hb dJ6_bitCount_0f7a4_1 rfl (lv_at hl 0 rfl) ?_
  refine lv_iconst (v := (1:Int32)) hx hb dJ6_bitCount_0f7a4_2 (by decide) ?_
  refine lv_iushr hx hb dJ6_bitCount_0f7a4_3 rfl ?_
  refine lv_ldcw hx hb hown (hts _ w_1337) dJ6_bitCount_0f7a4_4 ?_
  refine lv_iand hx hb dJ6_bitCount_0f7a4_7 ?_
  refine lv_isub hx hb dJ6_bitCount_0f7a4_8 ?_
  refine c_istore_n hx hb dJ6_bitCount_0f7a4_9 rfl hl (Nat.le_of_ble_eq_true rfl) (lvKa rfl lvK0) rfl (fun ls (hl : lv_has ls 1 [(0, .int (x0 - (((x0).toUInt32 >>> (((1:Int32)).toUInt32 &&& Int32.toUInt32 31)).toInt32 &&& (1431655765:Int32))))]) => ?_)
  refine lv_iload_n hx hb dJ6_bitCount_0f7a4_10 rfl (lv_at hl 0 rfl) ?_
  refine lv_ldcw hx hb hown (hts _ w_1338) dJ6_bitCount_0f7a4_11 ?_
  refine lv_iand hx hb dJ6_bitCount_0f7a4_14 ?_
  refine lv_iload_n hx hb dJ6_bitCount_0f7a4_15 rfl (lv_at hl 0 rfl) ?_
  refine lv_iconst (v := (2:Int32)) hx hb dJ6_bitCount_0f7a4_16 (by decide) ?_
  refine lv_iushr hx hb dJ6_bitCount_0f7a4_17 rfl ?_
  refine lv_ldcw hx hb hown (hts _ w_1338) dJ6_bitCount_0f7a4_18 ?_
  refine lv_iand hx hb dJ6_bitCount_0f7a4_21 ?_
  refine lv_iadd hx hb dJ6_bitCount_0f7a4_22 ?_
  refine c_istore_n hx hb dJ6_bitCount_0f7a4_23 rfl hl (Nat.le_of_ble_eq_true rfl) (lvKa rfl lvK0) rfl (fun ls (hl : lv_has ls 1 [(0, .int (((x0 - (((x0).toUInt32 >>> (((1:Int32)).toUInt32 &&& Int32.toUInt32 31)).toInt32 &&& (1431655765:Int32))) &&& (858993459:Int32)) + ((((x0 - (((x0).toUInt32 >>> (((1:Int32)).toUInt32 &&& Int32.toUInt32 31)).toInt32 &&& (1431655765:Int32)))).toUInt32 >>> (((2:Int32)).toUInt32 &&& Int32.toUInt32 31)).toInt32 &&& (858993459:Int32))))]) => ?_)
  refine lv_iload_n hx hb dJ6_bitCount_0f7a4_24 rfl (lv_at hl 0 rfl) ?_
  refine lv_iload_n hx hb dJ6_bitCount_0f7a4_25 rfl (lv_at hl 0 rfl) ?_
  refine lv_iconst (v := (4:Int32)) hx hb dJ6_bitCount_0f7a4_26 (by decide) ?_
  refine lv_iushr hx hb dJ6_bitCount_0f7a4_27 rfl ?_
  refine lv_iadd hx hb dJ6_bitCount_0f7a4_28 ?_
  refine lv_ldcw hx hb hown (hts _ w_1339) dJ6_bitCount_0f7a4_29 ?_
  refine lv_iand hx hb dJ6_bitCount_0f7a4_32 ?_
  refine c_istore_n hx hb dJ6_bitCount_0f7a4_33 rfl hl (Nat.le_of_ble_eq_true rfl) (lvKa rfl lvK0) rfl (fun ls (hl : lv_has ls 1 [(0, .int (((((x0 - (((x0).toUInt32 >>> (((1:Int32)).toUInt32 &&& Int32.toUInt32 31)).toInt32 &&& (1431655765:Int32))) &&& (858993459:Int32)) + ((((x0 - (((x0).toUInt32 >>> (((1:Int32)).toUInt32 &&& Int32.toUInt32 31)).toInt32 &&& (1431655765:Int32)))).toUInt32 >>> (((2:Int32)).toUInt32 &&& Int32.toUInt32 31)).toInt32 &&& (858993459:Int32))) + (((((x0 - (((x0).toUInt32 >>> (((1:Int32)).toUInt32 &&& Int32.toUInt32 31)).toInt32 &&& (1431655765:Int32))) &&& (858993459:Int32)) + ((((x0 - (((x0).toUInt32 >>> (((1:Int32)).toUInt32 &&& Int32.toUInt32 31)).toInt32 &&& (1431655765:Int32)))).toUInt32 >>> (((2:Int32)).toUInt32 &&& Int32.toUInt32 31)).toInt32 &&& (858993459:Int32)))).toUInt32 >>> (((4:Int32)).toUInt32 &&& Int32.toUInt32 31)).toInt32) &&& (252645135:Int32)))]) => ?_)
  refine lv_iload_n hx hb dJ6_bitCount_0f7a4_34 rfl (lv_at hl 0 rfl) ?_
  refine lv_iload_n hx hb dJ6_bitCount_0f7a4_35 rfl (lv_at hl 0 rfl) ?_
  refine lv_bipush (v := (8:Int32)) hx hb dJ6_bitCount_0f7a4_36 (by decide) ?_
  refine lv_iushr hx hb dJ6_bitCount_0f7a4_38 rfl ?_
  refine lv_iadd hx hb dJ6_bitCount_0f7a4_39 ?_
  refine c_istore_n hx hb dJ6_bitCount_0f7a4_40 rfl hl (Nat.le_of_ble_eq_true rfl) (lvKa rfl lvK0) rfl (fun ls (hl : lv_has ls 1 [(0, .int ((((((x0 - (((x0).toUInt32 >>> (((1:Int32)).toUInt32 &&& Int32.toUInt32 31)).toInt32 &&& (1431655765:Int32))) &&& (858993459:Int32)) + ((((x0 - (((x0).toUInt32 >>> (((1:Int32)).toUInt32 &&& Int32.toUInt32 31)).toInt32 &&& (1431655765:Int32)))).toUInt32 >>> (((2:Int32)).toUInt32 &&& Int32.toUInt32 31)).toInt32 &&& (858993459:Int32))) + (((((x0 - (((x0).toUInt32 >>> (((1:Int32)).toUInt32 &&& Int32.toUInt32 31)).toInt32 &&& (1431655765:Int32))) &&& (858993459:Int32)) + ((((x0 - (((x0).toUInt32 >>> (((1:Int32)).toUInt32 &&& Int32.toUInt32 31)).toInt32 &&& (1431655765:Int32)))).toUInt32 >>> (((2:Int32)).toUInt32 &&& Int32.toUInt32 31)).toInt32 &&& (858993459:Int32)))).toUInt32 >>> (((4:Int32)).toUInt32 &&& Int32.toUInt32 31)).toInt32) &&& (252645135:Int32)) + (((((((x0 - (((x0).toUInt32 >>> (((1:Int32)).toUInt32 &&& Int32.toUInt32 31)).toInt32 &&& (1431655765:Int32))) &&& (858993459:Int32)) + ((((x0 - (((x0).toUInt32 >>> (((1:Int32)).toUInt32 &&& Int32.toUInt32 31)).toInt32 &&& (1431655765:Int32)))).toUInt32 >>> (((2:Int32)).toUInt32 &&& Int32.toUInt32 31)).toInt32 &&& (858993459:Int32))) + (((((x0 - (((x0).toUInt32 >>> (((1:Int32)).toUInt32 &&& Int32.toUInt32 31)).toInt32 &&& (1431655765:Int32))) &&& (858993459:Int32)) + ((((x0 - (((x0).toUInt32 >>> (((1:Int32)).toUInt32 &&& Int32.toUInt32 31)).toInt32 &&& (1431655765:Int32)))).toUInt32 >>> (((2:Int32)).toUInt32 &&& Int32.toUInt32 31)).toInt32 &&& (858993459:Int32)))).toUInt32 >>> (((4:Int32)).toUInt32 &&& Int32.toUInt32 31)).toInt32) &&& (252645135:Int32))).toUInt32 >>> (((8:Int32)).toUInt32 &&& Int32.toUInt32 31)).toInt32))]) => ?_)
  refine lv_iload_n hx hb dJ6_bitCount_0f7a4_41 rfl (lv_at hl 0 rfl) ?_
  refine lv_iload_n hx hb dJ6_bitCount_0f7a4_42 rfl (lv_at hl 0 rfl) ?_
  refine lv_bipush (v := (16:Int32)) hx hb dJ6_bitCount_0f7a4_43 (by decide) ?_
  refine lv_iushr hx hb dJ6_bitCount_0f7a4_45 rfl ?_
  refine lv_iadd hx hb dJ6_bitCount_0f7a4_46 ?_
  refine c_istore_n hx hb dJ6_bitCount_0f7a4_47 rfl hl (Nat.le_of_ble_eq_true rfl) (lvKa rfl lvK0) rfl (fun ls (hl : lv_has ls 1 [(0, .int (((((((x0 - (((x0).toUInt32 >>> (((1:Int32)).toUInt32 &&& Int32.toUInt32 31)).toInt32 &&& (1431655765:Int32))) &&& (858993459:Int32)) + ((((x0 - (((x0).toUInt32 >>> (((1:Int32)).toUInt32 &&& Int32.toUInt32 31)).toInt32 &&& (1431655765:Int32)))).toUInt32 >>> (((2:Int32)).toUInt32 &&& Int32.toUInt32 31)).toInt32 &&& (858993459:Int32))) + (((((x0 - (((x0).toUInt32 >>> (((1:Int32)).toUInt32 &&& Int32.toUInt32 31)).toInt32 &&& (1431655765:Int32))) &&& (858993459:Int32)) + ((((x0 - (((x0).toUInt32 >>> (((1:Int32)).toUInt32 &&& Int32.toUInt32 31)).toInt32 &&& (1431655765:Int32)))).toUInt32 >>> (((2:Int32)).toUInt32 &&& Int32.toUInt32 31)).toInt32 &&& (858993459:Int32)))).toUInt32 >>> (((4:Int32)).toUInt32 &&& Int32.toUInt32 31)).toInt32) &&& (252645135:Int32)) + (((((((x0 - (((x0).toUInt32 >>> (((1:Int32)).toUInt32 &&& Int32.toUInt32 31)).toInt32 &&& (1431655765:Int32))) &&& (858993459:Int32)) + ((((x0 - (((x0).toUInt32 >>> (((1:Int32)).toUInt32 &&& Int32.toUInt32 31)).toInt32 &&& (1431655765:Int32)))).toUInt32 >>> (((2:Int32)).toUInt32 &&& Int32.toUInt32 31)).toInt32 &&& (858993459:Int32))) + (((((x0 - (((x0).toUInt32 >>> (((1:Int32)).toUInt32 &&& Int32.toUInt32 31)).toInt32 &&& (1431655765:Int32))) &&& (858993459:Int32)) + ((((x0 - (((x0).toUInt32 >>> (((1:Int32)).toUInt32 &&& Int32.toUInt32 31)).toInt32 &&& (1431655765:Int32)))).toUInt32 >>> (((2:Int32)).toUInt32 &&& Int32.toUInt32 31)).toInt32 &&& (858993459:Int32)))).toUInt32 >>> (((4:Int32)).toUInt32 &&& Int32.toUInt32 31)).toInt32) &&& (252645135:Int32))).toUInt32 >>> (((8:Int32)).toUInt32 &&& Int32.toUInt32 31)).toInt32) + ((((((((x0 - (((x0).toUInt32 >>> (((1:Int32)).toUInt32 &&& Int32.toUInt32 31)).toInt32 &&& (1431655765:Int32))) &&& (858993459:Int32)) + ((((x0 - (((x0).toUInt32 >>> (((1:Int32)).toUInt32 &&& Int32.toUInt32 31)).toInt32 &&& (1431655765:Int32)))).toUInt32 >>> (((2:Int32)).toUInt32 &&& Int32.toUInt32 31)).toInt32 &&& (858993459:Int32))) + (((((x0 - (((x0).toUInt32 >>> (((1:Int32)).toUInt32 &&& Int32.toUInt32 31)).toInt32 &&& (1431655765:Int32))) &&& (858993459:Int32)) + ((((x0 - (((x0).toUInt32 >>> (((1:Int32)).toUInt32 &&& Int32.toUInt32 31)).toInt32 &&& (1431655765:Int32)))).toUInt32 >>> (((2:Int32)).toUInt32 &&& Int32.toUInt32 31)).toInt32 &&& (858993459:Int32)))).toUInt32 >>> (((4:Int32)).toUInt32 &&& Int32.toUInt32 31)).toInt32) &&& (252645135:Int32)) + (((((((x0 - (((x0).toUInt32 >>> (((1:Int32)).toUInt32 &&& Int32.toUInt32 31)).toInt32 &&& (1431655765:Int32))) &&& (858993459:Int32)) + ((((x0 - (((x0).toUInt32 >>> (((1:Int32)).toUInt32 &&& Int32.toUInt32 31)).toInt32 &&& (1431655765:Int32)))).toUInt32 >>> (((2:Int32)).toUInt32 &&& Int32.toUInt32 31)).toInt32 &&& (858993459:Int32))) + (((((x0 - (((x0).toUInt32 >>> (((1:Int32)).toUInt32 &&& Int32.toUInt32 31)).toInt32 &&& (1431655765:Int32))) &&& (858993459:Int32)) + ((((x0 - (((x0).toUInt32 >>> (((1:Int32)).toUInt32 &&& Int32.toUInt32 31)).toInt32 &&& (1431655765:Int32)))).toUInt32 >>> (((2:Int32)).toUInt32 &&& Int32.toUInt32 31)).toInt32 &&& (858993459:Int32)))).toUInt32 >>> (((4:Int32)).toUInt32 &&& Int32.toUInt32 31)).toInt32) &&& (252645135:Int32))).toUInt32 >>> (((8:Int32)).toUInt32 &&& Int32.toUInt32 31)).toInt32)).toUInt32 >>> (((16:Int32)).toUInt32 &&& Int32.toUInt32 31)).toInt32))]) => ?_)
  refine lv_iload_n hx hb dJ6_bitCount_0f7a4_48 rfl (lv_at hl 0 rfl) ?_
  refine lv_bipush (v := (63:Int32)) hx hb dJ6_bitCount_0f7a4_49 (by decide) ?_
  refine lv_iand hx hb dJ6_bitCount_0f7a4_51 ?_
  obtain rfl := sj h
  exact c_ri X dJ6_bitCount_0f7a4_52
theorem ww_J6_bitCount_0f7a4 : Cond.static yJ6_bitCount_0f7a4 ∈ BG ∧ Cond.initialized (yJ6_bitCount_0f7a4).cls ∈ BG ∧ Cond.code yJ6_bitCount_0f7a4 cJ6_bitCount_0f7a4 1 (some .int) ∈ BG := ⟨w_1335, w_73, w_1336⟩
theorem hy_J6_bitCount_0f7a4 : (yJ6_bitCount_0f7a4).cls ≠ "java/lang/invoke/MethodHandle" ∧ (yJ6_bitCount_0f7a4).cls ≠ "java/lang/invoke/VarHandle" ∧ (parseMethodDescriptor (yJ6_bitCount_0f7a4).desc).map (fun d => d.parameters.length) = some 1 := ⟨by decide, by decide, by decide +kernel⟩
def f_X6_countDeclared (x0 : Nat)  (σ : cS) : Option (Int32) := (gI σ (some x0) 6 6).bind (fun v1 => (f_J6_bitCount_0f7a4 (v1)).bind (fun v2 => some v2))
set_option maxRecDepth 20000 in
set_option maxHeartbeats 4000000 in
theorem K_X6_countDeclared (l : Launch) (D : cD) (Φ : cG) (σ : cS) (x0 : Nat)  {r : Int32} (h : f_X6_countDeclared x0  σ = some r) : Met l yX6_countDeclared (Cond.code yX6_countDeclared cX6_countDeclared 1 (some .int) :: BG) (rA 1 0 0 20) (cPc D Φ σ [cv Φ (some x0)]) (cQr (some (.int r))) 0 0 (fun _ => False) := by
  refine Met.ofW (cc := cX6_countDeclared) (maxL := 1) (ret := (some .int)) (by decide) rfl ?_
  intro p e s m args below meth c s₁ B hml hv
  obtain ⟨rfl, hP, hK, hZ⟩ := hv
  have X : cX p s m [cv Φ (some x0)].toArray meth c cX6_countDeclared 1 (some .int) RX6 D Φ := cX_of B hml hK hZ
  have hx := X.1
  have hb := X.2.1
  have hown := X.2.2.2.1
  have hts := X.2.2.2.2.1
  have hl := lv_entry [cv Φ (some x0)] (n := 1) (by simp only [lgs_r, lgs_i, lgs_l, lgs_0, List.length]; exact Nat.le_of_ble_eq_true rfl)
  rw [lg_entry_eq]
  generalize (lg_sl [cv Φ (some x0)] ++ List.replicate (1 - (lg_sl [cv Φ (some x0)]).length) Slot.unset).toArray = ls at hl ⊢
  simp only [lv_args_r, lv_args_i, lv_args_l, lv_args_0] at hl
  have hl : lv_has ls 1 [(0, cv Φ (some x0))] := hl
  have hS : va_S (cReg Φ) s.heap s.heap [] := va_S.rf
  show cWr p l e 1 20 s m [cv Φ (some x0)].toArray below meth c (some (.int r)) (F0 m 0 ls [])
  have h : ((gI σ (some x0) 6 6).bind (fun v1 => (f_J6_bitCount_0f7a4 (v1)).bind (fun v2 => some v2))) = some r := h
  refine c_aload_n hx hb dX6_countDeclared_0 rfl (lv_at hl 0 rfl) ?_
  obtain ⟨v1, hv1, h⟩ := ob h
  refine c_gI X hP hv1 (Nat.le_of_ble_eq_true rfl) (Nat.le_of_ble_eq_true rfl) rfl w_173 dX6_countDeclared_1 ?_
  obtain ⟨v2, hv2, h⟩ := ob h
  refine c_cr (c_runS X (K_J6_bitCount_0f7a4 l D Φ σ (v1) hv2) ⟨w_1334, ww_J6_bitCount_0f7a4⟩ hy_J6_bitCount_0f7a4 rfl ⟨(Nat.le_of_ble_eq_true rfl), (Nat.le_of_ble_eq_true rfl)⟩ hP hS hl.1 (Nat.le_of_ble_eq_true rfl) dX6_countDeclared_4 rfl ⟨(Nat.le_of_ble_eq_true rfl), (Nat.le_of_ble_eq_true rfl)⟩) ?_
  obtain rfl := sj h
  exact c_ri X dX6_countDeclared_7
theorem ww_X6_countDeclared : Cond.instanceMethod yX6_countDeclared ∈ BG ∧ Cond.selects (yX6_countDeclared).cls yX6_countDeclared yX6_countDeclared ∈ BG ∧ Cond.initialized (yX6_countDeclared).cls ∈ BG ∧ Cond.code yX6_countDeclared cX6_countDeclared 1 (some .int) ∈ BG := ⟨w_1331, w_1332, w_60, w_1333⟩
theorem hy_X6_countDeclared : (yX6_countDeclared).cls ≠ "java/lang/invoke/MethodHandle" ∧ (yX6_countDeclared).cls ≠ "java/lang/invoke/VarHandle" ∧ (parseMethodDescriptor (yX6_countDeclared).desc).map (fun d => d.parameters.length) = some 0 := ⟨by decide, by decide, by decide +kernel⟩
def f_X7_feature  (x0 : Int32) (x1 : Int32)  : Option (Int32) := if x0 = (1:Int32) then (some ((1:Int32) <<< (x1 &&& 31))) else (if x0 = (2:Int32) then (some ((1:Int32) <<< (((8:Int32) + x1) &&& 31))) else (if x0 = (3:Int32) then (some ((1:Int32) <<< (((12:Int32) + x1) &&& 31))) else (some (0:Int32))))
set_option maxRecDepth 20000 in
set_option maxHeartbeats 4000000 in
theorem K_X7_feature (l : Launch) (D : cD) (Φ : cG) (σ : cS)  (x0 : Int32) (x1 : Int32) {r : Int32} (h : f_X7_feature  x0 x1 = some r) : Met l yX7_feature (Cond.code yX7_feature cX7_feature 2 (some .int) :: BG) (rA 0 0 0 0) (cPc D Φ σ [.int x0, .int x1]) (cQr (some (.int r))) 0 0 (fun _ => False) := by
  refine Met.ofW (cc := cX7_feature) (maxL := 2) (ret := (some .int)) (by decide) rfl ?_
  intro p e s m args below meth c s₁ B hml hv
  obtain ⟨rfl, hP, hK, hZ⟩ := hv
  have X : cX p s m [.int x0, .int x1].toArray meth c cX7_feature 2 (some .int) RX7 D Φ := cX_of B hml hK hZ
  have hx := X.1
  have hb := X.2.1
  have hown := X.2.2.2.1
  have hts := X.2.2.2.2.1
  have hl := lv_entry [.int x0, .int x1] (n := 2) (by simp only [lgs_r, lgs_i, lgs_l, lgs_0, List.length]; exact Nat.le_of_ble_eq_true rfl)
  rw [lg_entry_eq]
  generalize (lg_sl [.int x0, .int x1] ++ List.replicate (2 - (lg_sl [.int x0, .int x1]).length) Slot.unset).toArray = ls at hl ⊢
  simp only [lv_args_r, lv_args_i, lv_args_l, lv_args_0] at hl
  have hl : lv_has ls 2 [(0, .int x0), (1, .int x1)] := hl
  have hS : va_S (cReg Φ) s.heap s.heap [] := va_S.rf
  show cWr p l e 0 0 s m [.int x0, .int x1].toArray below meth c (some (.int r)) (F0 m 0 ls [])
  have h : (if x0 = (1:Int32) then (some ((1:Int32) <<< (x1 &&& 31))) else (if x0 = (2:Int32) then (some ((1:Int32) <<< (((8:Int32) + x1) &&& 31))) else (if x0 = (3:Int32) then (some ((1:Int32) <<< (((12:Int32) + x1) &&& 31))) else (some (0:Int32))))) = some r := h
  refine lv_iload_n hx hb dX7_feature_0 rfl (lv_at hl 0 rfl) ?_
  by_cases hc0 : x0 = (1:Int32)
  · have h := ip hc0 h
    refine lv_tableIn (tgt := 28) (off := 27) hx hb dX7_feature_1 (by rw [hc0]; decide) (by rw [hc0]; decide) (by rw [hc0]; rfl) rfl ?_
    refine lv_iconst (v := (1:Int32)) hx hb dX7_feature_28 (by decide) ?_
    refine lv_iload_n hx hb dX7_feature_29 rfl (lv_at hl 1 rfl) ?_
    refine lv_ishl hx hb dX7_feature_30 ?_
    obtain rfl := sj h
    exact c_ri X dX7_feature_31
  · have h := ine hc0 h
    by_cases hc1 : x0 = (2:Int32)
    · have h := ip hc1 h
      refine lv_tableIn (tgt := 32) (off := 31) hx hb dX7_feature_1 (by rw [hc1]; decide) (by rw [hc1]; decide) (by rw [hc1]; rfl) rfl ?_
      refine lv_iconst (v := (1:Int32)) hx hb dX7_feature_32 (by decide) ?_
      refine lv_bipush (v := (8:Int32)) hx hb dX7_feature_33 (by decide) ?_
      refine lv_iload_n hx hb dX7_feature_35 rfl (lv_at hl 1 rfl) ?_
      refine lv_iadd hx hb dX7_feature_36 ?_
      refine lv_ishl hx hb dX7_feature_37 ?_
      obtain rfl := sj h
      exact c_ri X dX7_feature_38
    · have h := ine hc1 h
      by_cases hc2 : x0 = (3:Int32)
      · have h := ip hc2 h
        refine lv_tableIn (tgt := 39) (off := 38) hx hb dX7_feature_1 (by rw [hc2]; decide) (by rw [hc2]; decide) (by rw [hc2]; rfl) rfl ?_
        refine lv_iconst (v := (1:Int32)) hx hb dX7_feature_39 (by decide) ?_
        refine lv_bipush (v := (12:Int32)) hx hb dX7_feature_40 (by decide) ?_
        refine lv_iload_n hx hb dX7_feature_42 rfl (lv_at hl 1 rfl) ?_
        refine lv_iadd hx hb dX7_feature_43 ?_
        refine lv_ishl hx hb dX7_feature_44 ?_
        obtain rfl := sj h
        exact c_ri X dX7_feature_45
      · have h := ine hc2 h
        refine lv_tableOut (tgt := 46) hx hb dX7_feature_1 (sw_out (lo := 1) (hi := 3) (fun k h1 h2 => by
          have h3 : k = 1 ∨ k = 2 ∨ k = 3 := by omega
          rcases h3 with rfl | rfl | rfl
          · exact hc0
          · exact hc1
          · exact hc2)) rfl ?_
        refine lv_iconst (v := (0:Int32)) hx hb dX7_feature_46 (by decide) ?_
        obtain rfl := sj h
        exact c_ri X dX7_feature_47
theorem ww_X7_feature : Cond.static yX7_feature ∈ BG ∧ Cond.initialized (yX7_feature).cls ∈ BG ∧ Cond.code yX7_feature cX7_feature 2 (some .int) ∈ BG := ⟨w_877, w_62, w_878⟩
theorem hy_X7_feature : (yX7_feature).cls ≠ "java/lang/invoke/MethodHandle" ∧ (yX7_feature).cls ≠ "java/lang/invoke/VarHandle" ∧ (parseMethodDescriptor (yX7_feature).desc).map (fun d => d.parameters.length) = some 2 := ⟨by decide, by decide, by decide +kernel⟩
def f_X7_addCompound_56  (x0 : Nat) (y0 : Option Nat) (y1 : Int32) (y2 : Int32) (σ : cS) : Option (cS) := (pZ σ y0 7 7 (y1 ||| y2)).bind (fun v1 => some v1)
def f_X7_addCompound_51  (x0 : Nat) (y0 : Option Nat) (y1 : Int32) (σ : cS) : Option (cS) := f_X7_addCompound_56 x0 (y0) (y1) ((1:Int32)) σ
def f_X7_addCompound (x0 : Nat) (x1 : Int32) (σ : cS) : Option (cS) := (gR σ (some x0) 7 1).bind (fun v1 => (rc (nw σ 2) (some (σ).2) 2).bind (fun v2 => (f_X2_init v2 (x1) (nw σ 2)).bind (fun v3 => (pR v3 v1 2 9 (some (σ).2)).bind (fun v4 => (gR v4 (some x0) 7 1).bind (fun v5 => (gR v4 v5 2 9).bind (fun v6 => (pR v4 (some x0) 7 1 v6).bind (fun v7 => (gI v7 (some x0) 7 2).bind (fun v8 => (pI v7 (some x0) 7 2 (v8 + (1:Int32))).bind (fun v9 => (gI v9 (some x0) 7 7).bind (fun v10 => if x1 = (2:Int32) then (f_X7_addCompound_51 x0 ((some x0)) (v10) v9) else (if x1 = (3:Int32) then (f_X7_addCompound_51 x0 ((some x0)) (v10) v9) else (f_X7_addCompound_56 x0 ((some x0)) (v10) ((0:Int32)) v9))))))))))))
set_option maxRecDepth 20000 in
set_option maxHeartbeats 4000000 in
theorem N_X7_addCompound_56 {p : Program} {l : Launch} {e : Env} {s : State} {m : MethodId} {args : Array Value} {below : List Frame} {meth : Method} {c : Code} {D : cD} {Φ : cG} {x0 : Nat}   {y0 : Option Nat} {y1 : Int32} {y2 : Int32} {σ : cS} {H : Heap} {locs : List Loc} {ls : Array Slot} {q : cS} (X : cX p s m args meth c cX7_addCompound 2 none RX7 D Φ) (hP : cP D Φ σ H) (hS : va_S (cReg Φ) s.heap H locs)  (hl : lv_has ls 2 []) (h : f_X7_addCompound_56  x0 y0 y1 y2 σ = some q) : cWw p l e 2 4 22 41 s m args below meth c D Φ q none H locs 4 22 (F0 m 56 ls [.int y2, .int y1, cv Φ y0]) := by
  have hx := X.1
  have hb := X.2.1
  have hown := X.2.2.2.1
  have hts := X.2.2.2.2.1
  have h : ((pZ σ y0 7 7 (y1 ||| y2)).bind (fun v1 => some v1)) = some q := h
  refine lv_ior hx hb dX7_addCompound_56 ?_
  obtain ⟨v1, hv1, h⟩ := ob h
  refine c_pZ X hP hS hv1 (Nat.le_of_ble_eq_true rfl) (Nat.le_of_ble_eq_true rfl) rfl rfl (Or.inl rfl) w_424 dX7_addCompound_57 (fun H locs hP hS => ?_)
  obtain rfl := sj h
  exact c_wv X hP hS (Nat.le_of_ble_eq_true rfl) (Nat.le_of_ble_eq_true rfl) dX7_addCompound_60
set_option maxRecDepth 20000 in
set_option maxHeartbeats 4000000 in
theorem N_X7_addCompound_51 {p : Program} {l : Launch} {e : Env} {s : State} {m : MethodId} {args : Array Value} {below : List Frame} {meth : Method} {c : Code} {D : cD} {Φ : cG} {x0 : Nat}   {y0 : Option Nat} {y1 : Int32} {σ : cS} {H : Heap} {locs : List Loc} {ls : Array Slot} {q : cS} (X : cX p s m args meth c cX7_addCompound 2 none RX7 D Φ) (hP : cP D Φ σ H) (hS : va_S (cReg Φ) s.heap H locs)  (hl : lv_has ls 2 []) (h : f_X7_addCompound_51  x0 y0 y1 σ = some q) : cWw p l e 2 4 22 41 s m args below meth c D Φ q none H locs 4 22 (F0 m 51 ls [.int y1, cv Φ y0]) := by
  have hx := X.1
  have hb := X.2.1
  have hown := X.2.2.2.1
  have hts := X.2.2.2.2.1
  have h : (f_X7_addCompound_56 x0 (y0) (y1) ((1:Int32)) σ) = some q := h
  refine lv_iconst (v := (1:Int32)) hx hb dX7_addCompound_51 (by decide) ?_
  refine lv_goto (tgt := 56) hx hb dX7_addCompound_52 rfl ?_
  exact N_X7_addCompound_56 X hP hS (lv_sub hl [] rfl) h
set_option maxRecDepth 20000 in
set_option maxHeartbeats 4000000 in
theorem K_X7_addCompound (l : Launch) (D : cD) (Φ : cG) (σ : cS) (x0 : Nat) (x1 : Int32) {q : cS} (h : f_X7_addCompound x0 x1 σ = some q) : Met l yX7_addCompound (Cond.code yX7_addCompound cX7_addCompound 2 none :: BG) (rA 2 4 22 41) (cPc D Φ σ [cv Φ (some x0), .int x1]) (cQw D Φ q none) 4 22 (cReg Φ) := by
  refine Met.ofW (cc := cX7_addCompound) (maxL := 2) (ret := none) (by decide) rfl ?_
  intro p e s m args below meth c s₁ B hml hv
  obtain ⟨rfl, hP, hK, hZ⟩ := hv
  have X : cX p s m [cv Φ (some x0), .int x1].toArray meth c cX7_addCompound 2 none RX7 D Φ := cX_of B hml hK hZ
  have hx := X.1
  have hb := X.2.1
  have hown := X.2.2.2.1
  have hts := X.2.2.2.2.1
  have hl := lv_entry [cv Φ (some x0), .int x1] (n := 2) (by simp only [lgs_r, lgs_i, lgs_l, lgs_0, List.length]; exact Nat.le_of_ble_eq_true rfl)
  rw [lg_entry_eq]
  generalize (lg_sl [cv Φ (some x0), .int x1] ++ List.replicate (2 - (lg_sl [cv Φ (some x0), .int x1]).length) Slot.unset).toArray = ls at hl ⊢
  simp only [lv_args_r, lv_args_i, lv_args_l, lv_args_0] at hl
  have hl : lv_has ls 2 [(0, cv Φ (some x0)), (1, .int x1)] := hl
  have hS : va_S (cReg Φ) s.heap s.heap [] := va_S.rf
  show cWw p l e 2 4 22 41 s m [cv Φ (some x0), .int x1].toArray below meth c D Φ q none s.heap [] 0 0 (F0 m 0 ls [])
  have h : ((gR σ (some x0) 7 1).bind (fun v1 => (rc (nw σ 2) (some (σ).2) 2).bind (fun v2 => (f_X2_init v2 (x1) (nw σ 2)).bind (fun v3 => (pR v3 v1 2 9 (some (σ).2)).bind (fun v4 => (gR v4 (some x0) 7 1).bind (fun v5 => (gR v4 v5 2 9).bind (fun v6 => (pR v4 (some x0) 7 1 v6).bind (fun v7 => (gI v7 (some x0) 7 2).bind (fun v8 => (pI v7 (some x0) 7 2 (v8 + (1:Int32))).bind (fun v9 => (gI v9 (some x0) 7 7).bind (fun v10 => if x1 = (2:Int32) then (f_X7_addCompound_51 x0 ((some x0)) (v10) v9) else (if x1 = (3:Int32) then (f_X7_addCompound_51 x0 ((some x0)) (v10) v9) else (f_X7_addCompound_56 x0 ((some x0)) (v10) ((0:Int32)) v9))))))))))))) = some q := h
  refine c_aload_n hx hb dX7_addCompound_0 rfl (lv_at hl 0 rfl) ?_
  obtain ⟨v1, hv1, h⟩ := ob h
  refine c_gR X hP hv1 (Nat.le_of_ble_eq_true rfl) (Nat.le_of_ble_eq_true rfl) rfl w_411 dX7_addCompound_1 ?_
  refine c_new X hP hS (ci := 2) ⟨Nat.le_of_ble_eq_true rfl, by decide⟩ ⟨w_361, w_362, w_63⟩ (Nat.le_of_ble_eq_true rfl) (Nat.le_of_ble_eq_true rfl) dX7_addCompound_4 (fun H hP hS => ?_)
  refine c_dupq hx hb dX7_addCompound_7 ?_
  refine lv_iload_n hx hb dX7_addCompound_8 rfl (lv_at hl 1 rfl) ?_
  obtain ⟨v2, hv2, h⟩ := ob h
  obtain ⟨v3, hv3, h⟩ := ob h
  refine c_cw (c_runI X (K_X2_init l D Φ (nw σ 2) v2 (x1) hv3) hv2 (Nat.le_of_ble_eq_true rfl) ⟨w_363, ww_X2_init⟩ rfl rfl hy_X2_init rfl ⟨(Nat.le_of_ble_eq_true rfl), (Nat.le_of_ble_eq_true rfl)⟩ hP hS hl.1 (Nat.le_of_ble_eq_true rfl) dX7_addCompound_9 rfl ⟨(Nat.le_of_ble_eq_true rfl), (Nat.le_of_ble_eq_true rfl)⟩) hS (fun H locs hP hS => ?_)
  refine W.eq (g2 := F0 m 12 ls [cv Φ (some (σ).2), cv Φ v1]) rfl ?_
  obtain ⟨v4, hv4, h⟩ := ob h
  refine c_pR X hP hS hv4 (Nat.le_of_ble_eq_true rfl) (Nat.le_of_ble_eq_true rfl) rfl (Or.inl rfl) w_386 dX7_addCompound_12 (fun H locs hP hS => ?_)
  refine c_aload_n hx hb dX7_addCompound_15 rfl (lv_at hl 0 rfl) ?_
  refine c_aload_n hx hb dX7_addCompound_16 rfl (lv_at hl 0 rfl) ?_
  obtain ⟨v5, hv5, h⟩ := ob h
  refine c_gR X hP hv5 (Nat.le_of_ble_eq_true rfl) (Nat.le_of_ble_eq_true rfl) rfl w_411 dX7_addCompound_17 ?_
  obtain ⟨v6, hv6, h⟩ := ob h
  refine c_gR X hP hv6 (Nat.le_of_ble_eq_true rfl) (Nat.le_of_ble_eq_true rfl) rfl w_386 dX7_addCompound_20 ?_
  obtain ⟨v7, hv7, h⟩ := ob h
  refine c_pR X hP hS hv7 (Nat.le_of_ble_eq_true rfl) (Nat.le_of_ble_eq_true rfl) rfl (Or.inl rfl) w_411 dX7_addCompound_23 (fun H locs hP hS => ?_)
  refine c_aload_n hx hb dX7_addCompound_26 rfl (lv_at hl 0 rfl) ?_
  refine c_dupq hx hb dX7_addCompound_27 ?_
  obtain ⟨v8, hv8, h⟩ := ob h
  refine c_gI X hP hv8 (Nat.le_of_ble_eq_true rfl) (Nat.le_of_ble_eq_true rfl) rfl w_413 dX7_addCompound_28 ?_
  refine lv_iconst (v := (1:Int32)) hx hb dX7_addCompound_31 (by decide) ?_
  refine lv_iadd hx hb dX7_addCompound_32 ?_
  obtain ⟨v9, hv9, h⟩ := ob h
  refine c_pI X hP hS hv9 (Nat.le_of_ble_eq_true rfl) (Nat.le_of_ble_eq_true rfl) rfl rfl (Or.inl rfl) w_413 dX7_addCompound_33 (fun H locs hP hS => ?_)
  refine c_aload_n hx hb dX7_addCompound_36 rfl (lv_at hl 0 rfl) ?_
  refine c_dupq hx hb dX7_addCompound_37 ?_
  obtain ⟨v10, hv10, h⟩ := ob h
  refine c_gI X hP hv10 (Nat.le_of_ble_eq_true rfl) (Nat.le_of_ble_eq_true rfl) rfl w_424 dX7_addCompound_38 ?_
  refine lv_iload_n hx hb dX7_addCompound_41 rfl (lv_at hl 1 rfl) ?_
  refine lv_iconst (v := (2:Int32)) hx hb dX7_addCompound_42 (by decide) ?_
  refine lv_icmp_eq (tgt := 51) hx hb dX7_addCompound_43 rfl (fun hc => ?_) (fun hc => ?_)
  · have h := ip hc h
    exact N_X7_addCompound_51 X hP hS (lv_sub hl [] rfl) h
  · have h := ine hc h
    refine lv_iload_n hx hb dX7_addCompound_46 rfl (lv_at hl 1 rfl) ?_
    refine lv_iconst (v := (3:Int32)) hx hb dX7_addCompound_47 (by decide) ?_
    refine lv_icmp_ne (tgt := 55) hx hb dX7_addCompound_48 rfl (fun hc => ?_) (fun hc => ?_)
    · have h := ine hc h
      refine lv_iconst (v := (0:Int32)) hx hb dX7_addCompound_55 (by decide) ?_
      exact N_X7_addCompound_56 X hP hS (lv_sub hl [] rfl) h
    · have h := ip hc h
      exact N_X7_addCompound_51 X hP hS (lv_sub hl [] rfl) h
theorem ww_X7_addCompound : Cond.instanceMethod yX7_addCompound ∈ BG ∧ Cond.selects (yX7_addCompound).cls yX7_addCompound yX7_addCompound ∈ BG ∧ Cond.initialized (yX7_addCompound).cls ∈ BG ∧ Cond.code yX7_addCompound cX7_addCompound 2 none ∈ BG := ⟨w_887, w_888, w_62, w_889⟩
theorem hy_X7_addCompound : (yX7_addCompound).cls ≠ "java/lang/invoke/MethodHandle" ∧ (yX7_addCompound).cls ≠ "java/lang/invoke/VarHandle" ∧ (parseMethodDescriptor (yX7_addCompound).desc).map (fun d => d.parameters.length) = some 1 := ⟨by decide, by decide, by decide +kernel⟩
def f_X7_addInner_147  (x0 : Nat)  (σ : cS) : Option (cS) := some σ
def f_X7_addInner_96  (x0 : Nat) (x2 : Option Nat) (σ : cS) : Option (cS) := (gR σ (some x0) 7 1).bind (fun v1 => (gI σ v1 2 7).bind (fun v2 => (gI σ x2 7 12).bind (fun v3 => (pI σ v1 2 7 (v2 ||| v3)).bind (fun v4 => f_X7_addInner_147 x0 v4))))
def f_X7_addInner_62  (x0 : Nat) (x1 : Int32) (x2 : Option Nat) (y0 : Option Nat) (y1 : Int32) (y2 : Int32) (σ : cS) : Option (cS) := (pZ σ y0 7 8 (y1 ||| y2)).bind (fun v1 => (gR v1 (some x0) 7 1).bind (fun v2 => (gI v1 v2 2 8).bind (fun v3 => (gI v1 x2 7 12).bind (fun v4 => (pI v1 v2 2 8 (v3 ||| v4)).bind (fun v5 => if x1 = (7:Int32) then (f_X7_addInner_96 x0 (x2) v5) else ((gI v5 x2 7 2).bind (fun v6 => if v6 ≤ (1:Int32) then ((gR v5 (some x0) 7 1).bind (fun v7 => (gI v5 v7 2 6).bind (fun v8 => (gI v5 x2 7 10).bind (fun v9 => (pI v5 v7 2 6 (v8 ||| v9)).bind (fun v10 => (gR v10 (some x0) 7 1).bind (fun v11 => (gI v10 v11 2 7).bind (fun v12 => (gI v10 x2 7 11).bind (fun v13 => (pI v10 v11 2 7 (v12 ||| v13)).bind (fun v14 => f_X7_addInner_147 x0 v14))))))))) else (f_X7_addInner_96 x0 (x2) v5))))))))
def f_X7_addInner_57  (x0 : Nat) (x1 : Int32) (x2 : Option Nat) (y0 : Option Nat) (y1 : Int32) (σ : cS) : Option (cS) := f_X7_addInner_62 x0 (x1) (x2) (y0) (y1) ((1:Int32)) σ
def f_X7_addInner (x0 : Nat) (x1 : Int32) (x2 : Option Nat) (σ : cS) : Option (cS) := (gI σ (some x0) 7 6).bind (fun v1 => (gI σ x2 7 6).bind (fun v2 => (pI σ (some x0) 7 6 (v1 + v2)).bind (fun v3 => (gI v3 (some x0) 7 9).bind (fun v4 => (gI v3 x2 7 9).bind (fun v5 => (pI v3 (some x0) 7 9 (v4 ||| v5)).bind (fun v6 => (gI v6 (some x0) 7 7).bind (fun v7 => (gI v6 x2 7 7).bind (fun v8 => (pZ v6 (some x0) 7 7 (v7 ||| v8)).bind (fun v9 => (gI v9 (some x0) 7 8).bind (fun v10 => (gI v9 x2 7 8).bind (fun v11 => if v11 = (0:Int32) then (if x1 = (7:Int32) then (f_X7_addInner_57 x0 (x1) (x2) ((some x0)) (v10) v9) else (f_X7_addInner_62 x0 (x1) (x2) ((some x0)) (v10) ((0:Int32)) v9)) else (f_X7_addInner_57 x0 (x1) (x2) ((some x0)) (v10) v9))))))))))))
set_option maxRecDepth 20000 in
set_option maxHeartbeats 4000000 in
theorem N_X7_addInner_147 {p : Program} {l : Launch} {e : Env} {s : State} {m : MethodId} {args : Array Value} {below : List Frame} {meth : Method} {c : Code} {D : cD} {Φ : cG} {x0 : Nat}    {σ : cS} {H : Heap} {locs : List Loc} {ls : Array Slot} {q : cS} (X : cX p s m args meth c cX7_addInner 3 none RX7 D Φ) (hP : cP D Φ σ H) (hS : va_S (cReg Φ) s.heap H locs)  (hl : lv_has ls 3 []) (h : f_X7_addInner_147  x0  σ = some q) : cWw p l e 0 0 0 0 s m args below meth c D Φ q none H locs 0 0 (F0 m 147 ls []) := by
  have hx := X.1
  have hb := X.2.1
  have hown := X.2.2.2.1
  have hts := X.2.2.2.2.1
  have h : (some σ) = some q := h
  obtain rfl := sj h
  exact c_wv X hP hS (Nat.le_of_ble_eq_true rfl) (Nat.le_of_ble_eq_true rfl) dX7_addInner_147
set_option maxRecDepth 20000 in
set_option maxHeartbeats 4000000 in
theorem N_X7_addInner_96 {p : Program} {l : Launch} {e : Env} {s : State} {m : MethodId} {args : Array Value} {below : List Frame} {meth : Method} {c : Code} {D : cD} {Φ : cG} {x0 : Nat}   {x2 : Option Nat} {σ : cS} {H : Heap} {locs : List Loc} {ls : Array Slot} {q : cS} (X : cX p s m args meth c cX7_addInner 3 none RX7 D Φ) (hP : cP D Φ σ H) (hS : va_S (cReg Φ) s.heap H locs)  (hl : lv_has ls 3 [(0, cv Φ (some x0)), (2, cv Φ x2)]) (h : f_X7_addInner_96  x0 x2 σ = some q) : cWw p l e 0 0 0 0 s m args below meth c D Φ q none H locs 0 0 (F0 m 96 ls []) := by
  have hx := X.1
  have hb := X.2.1
  have hown := X.2.2.2.1
  have hts := X.2.2.2.2.1
  have h : ((gR σ (some x0) 7 1).bind (fun v1 => (gI σ v1 2 7).bind (fun v2 => (gI σ x2 7 12).bind (fun v3 => (pI σ v1 2 7 (v2 ||| v3)).bind (fun v4 => f_X7_addInner_147 x0 v4))))) = some q := h
  refine c_aload_n hx hb dX7_addInner_96 rfl (lv_at hl 0 rfl) ?_
  obtain ⟨v1, hv1, h⟩ := ob h
  refine c_gR X hP hv1 (Nat.le_of_ble_eq_true rfl) (Nat.le_of_ble_eq_true rfl) rfl w_411 dX7_addInner_97 ?_
  refine c_dupq hx hb dX7_addInner_100 ?_
  obtain ⟨v2, hv2, h⟩ := ob h
  refine c_gI X hP hv2 (Nat.le_of_ble_eq_true rfl) (Nat.le_of_ble_eq_true rfl) rfl w_384 dX7_addInner_101 ?_
  refine c_aload_n hx hb dX7_addInner_104 rfl (lv_at hl 1 rfl) ?_
  obtain ⟨v3, hv3, h⟩ := ob h
  refine c_gI X hP hv3 (Nat.le_of_ble_eq_true rfl) (Nat.le_of_ble_eq_true rfl) rfl w_434 dX7_addInner_105 ?_
  refine lv_ior hx hb dX7_addInner_108 ?_
  obtain ⟨v4, hv4, h⟩ := ob h
  refine c_pI X hP hS hv4 (Nat.le_of_ble_eq_true rfl) (Nat.le_of_ble_eq_true rfl) rfl rfl (Or.inl rfl) w_384 dX7_addInner_109 (fun H locs hP hS => ?_)
  refine lv_goto (tgt := 147) hx hb dX7_addInner_112 rfl ?_
  exact N_X7_addInner_147 X hP hS (lv_sub hl [] rfl) h
set_option maxRecDepth 20000 in
set_option maxHeartbeats 4000000 in
theorem N_X7_addInner_62 {p : Program} {l : Launch} {e : Env} {s : State} {m : MethodId} {args : Array Value} {below : List Frame} {meth : Method} {c : Code} {D : cD} {Φ : cG} {x0 : Nat}   {x1 : Int32} {x2 : Option Nat} {y0 : Option Nat} {y1 : Int32} {y2 : Int32} {σ : cS} {H : Heap} {locs : List Loc} {ls : Array Slot} {q : cS} (X : cX p s m args meth c cX7_addInner 3 none RX7 D Φ) (hP : cP D Φ σ H) (hS : va_S (cReg Φ) s.heap H locs)  (hl : lv_has ls 3 [(0, cv Φ (some x0)), (1, .int x1), (2, cv Φ x2)]) (h : f_X7_addInner_62  x0 x1 x2 y0 y1 y2 σ = some q) : cWw p l e 0 0 0 0 s m args below meth c D Φ q none H locs 0 0 (F0 m 62 ls [.int y2, .int y1, cv Φ y0]) := by
  have hx := X.1
  have hb := X.2.1
  have hown := X.2.2.2.1
  have hts := X.2.2.2.2.1
  have h : ((pZ σ y0 7 8 (y1 ||| y2)).bind (fun v1 => (gR v1 (some x0) 7 1).bind (fun v2 => (gI v1 v2 2 8).bind (fun v3 => (gI v1 x2 7 12).bind (fun v4 => (pI v1 v2 2 8 (v3 ||| v4)).bind (fun v5 => if x1 = (7:Int32) then (f_X7_addInner_96 x0 (x2) v5) else ((gI v5 x2 7 2).bind (fun v6 => if v6 ≤ (1:Int32) then ((gR v5 (some x0) 7 1).bind (fun v7 => (gI v5 v7 2 6).bind (fun v8 => (gI v5 x2 7 10).bind (fun v9 => (pI v5 v7 2 6 (v8 ||| v9)).bind (fun v10 => (gR v10 (some x0) 7 1).bind (fun v11 => (gI v10 v11 2 7).bind (fun v12 => (gI v10 x2 7 11).bind (fun v13 => (pI v10 v11 2 7 (v12 ||| v13)).bind (fun v14 => f_X7_addInner_147 x0 v14))))))))) else (f_X7_addInner_96 x0 (x2) v5))))))))) = some q := h
  refine lv_ior hx hb dX7_addInner_62 ?_
  obtain ⟨v1, hv1, h⟩ := ob h
  refine c_pZ X hP hS hv1 (Nat.le_of_ble_eq_true rfl) (Nat.le_of_ble_eq_true rfl) rfl rfl (Or.inl rfl) w_427 dX7_addInner_63 (fun H locs hP hS => ?_)
  refine c_aload_n hx hb dX7_addInner_66 rfl (lv_at hl 0 rfl) ?_
  obtain ⟨v2, hv2, h⟩ := ob h
  refine c_gR X hP hv2 (Nat.le_of_ble_eq_true rfl) (Nat.le_of_ble_eq_true rfl) rfl w_411 dX7_addInner_67 ?_
  refine c_dupq hx hb dX7_addInner_70 ?_
  obtain ⟨v3, hv3, h⟩ := ob h
  refine c_gI X hP hv3 (Nat.le_of_ble_eq_true rfl) (Nat.le_of_ble_eq_true rfl) rfl w_385 dX7_addInner_71 ?_
  refine c_aload_n hx hb dX7_addInner_74 rfl (lv_at hl 2 rfl) ?_
  obtain ⟨v4, hv4, h⟩ := ob h
  refine c_gI X hP hv4 (Nat.le_of_ble_eq_true rfl) (Nat.le_of_ble_eq_true rfl) rfl w_434 dX7_addInner_75 ?_
  refine lv_ior hx hb dX7_addInner_78 ?_
  obtain ⟨v5, hv5, h⟩ := ob h
  refine c_pI X hP hS hv5 (Nat.le_of_ble_eq_true rfl) (Nat.le_of_ble_eq_true rfl) rfl rfl (Or.inl rfl) w_385 dX7_addInner_79 (fun H locs hP hS => ?_)
  refine lv_iload_n hx hb dX7_addInner_82 rfl (lv_at hl 1 rfl) ?_
  refine lv_bipush (v := (7:Int32)) hx hb dX7_addInner_83 (by decide) ?_
  refine lv_icmp_eq (tgt := 96) hx hb dX7_addInner_85 rfl (fun hc => ?_) (fun hc => ?_)
  · have h := ip hc h
    exact N_X7_addInner_96 X hP hS (lv_sub hl [0, 2] rfl) h
  · have h := ine hc h
    refine c_aload_n hx hb dX7_addInner_88 rfl (lv_at hl 2 rfl) ?_
    obtain ⟨v6, hv6, h⟩ := ob h
    refine c_gI X hP hv6 (Nat.le_of_ble_eq_true rfl) (Nat.le_of_ble_eq_true rfl) rfl w_413 dX7_addInner_89 ?_
    refine lv_iconst (v := (1:Int32)) hx hb dX7_addInner_92 (by decide) ?_
    refine lv_icmp_le (tgt := 115) hx hb dX7_addInner_93 rfl (fun hc => ?_) (fun hc => ?_)
    · have h := ip hc h
      refine c_aload_n hx hb dX7_addInner_115 rfl (lv_at hl 0 rfl) ?_
      obtain ⟨v7, hv7, h⟩ := ob h
      refine c_gR X hP hv7 (Nat.le_of_ble_eq_true rfl) (Nat.le_of_ble_eq_true rfl) rfl w_411 dX7_addInner_116 ?_
      refine c_dupq hx hb dX7_addInner_119 ?_
      obtain ⟨v8, hv8, h⟩ := ob h
      refine c_gI X hP hv8 (Nat.le_of_ble_eq_true rfl) (Nat.le_of_ble_eq_true rfl) rfl w_383 dX7_addInner_120 ?_
      refine c_aload_n hx hb dX7_addInner_123 rfl (lv_at hl 2 rfl) ?_
      obtain ⟨v9, hv9, h⟩ := ob h
      refine c_gI X hP hv9 (Nat.le_of_ble_eq_true rfl) (Nat.le_of_ble_eq_true rfl) rfl w_431 dX7_addInner_124 ?_
      refine lv_ior hx hb dX7_addInner_127 ?_
      obtain ⟨v10, hv10, h⟩ := ob h
      refine c_pI X hP hS hv10 (Nat.le_of_ble_eq_true rfl) (Nat.le_of_ble_eq_true rfl) rfl rfl (Or.inl rfl) w_383 dX7_addInner_128 (fun H locs hP hS => ?_)
      refine c_aload_n hx hb dX7_addInner_131 rfl (lv_at hl 0 rfl) ?_
      obtain ⟨v11, hv11, h⟩ := ob h
      refine c_gR X hP hv11 (Nat.le_of_ble_eq_true rfl) (Nat.le_of_ble_eq_true rfl) rfl w_411 dX7_addInner_132 ?_
      refine c_dupq hx hb dX7_addInner_135 ?_
      obtain ⟨v12, hv12, h⟩ := ob h
      refine c_gI X hP hv12 (Nat.le_of_ble_eq_true rfl) (Nat.le_of_ble_eq_true rfl) rfl w_384 dX7_addInner_136 ?_
      refine c_aload_n hx hb dX7_addInner_139 rfl (lv_at hl 2 rfl) ?_
      obtain ⟨v13, hv13, h⟩ := ob h
      refine c_gI X hP hv13 (Nat.le_of_ble_eq_true rfl) (Nat.le_of_ble_eq_true rfl) rfl w_433 dX7_addInner_140 ?_
      refine lv_ior hx hb dX7_addInner_143 ?_
      obtain ⟨v14, hv14, h⟩ := ob h
      refine c_pI X hP hS hv14 (Nat.le_of_ble_eq_true rfl) (Nat.le_of_ble_eq_true rfl) rfl rfl (Or.inl rfl) w_384 dX7_addInner_144 (fun H locs hP hS => ?_)
      exact N_X7_addInner_147 X hP hS (lv_sub hl [] rfl) h
    · have h := ine hc h
      exact N_X7_addInner_96 X hP hS (lv_sub hl [0, 2] rfl) h
set_option maxRecDepth 20000 in
set_option maxHeartbeats 4000000 in
theorem N_X7_addInner_57 {p : Program} {l : Launch} {e : Env} {s : State} {m : MethodId} {args : Array Value} {below : List Frame} {meth : Method} {c : Code} {D : cD} {Φ : cG} {x0 : Nat}   {x1 : Int32} {x2 : Option Nat} {y0 : Option Nat} {y1 : Int32} {σ : cS} {H : Heap} {locs : List Loc} {ls : Array Slot} {q : cS} (X : cX p s m args meth c cX7_addInner 3 none RX7 D Φ) (hP : cP D Φ σ H) (hS : va_S (cReg Φ) s.heap H locs)  (hl : lv_has ls 3 [(0, cv Φ (some x0)), (1, .int x1), (2, cv Φ x2)]) (h : f_X7_addInner_57  x0 x1 x2 y0 y1 σ = some q) : cWw p l e 0 0 0 0 s m args below meth c D Φ q none H locs 0 0 (F0 m 57 ls [.int y1, cv Φ y0]) := by
  have hx := X.1
  have hb := X.2.1
  have hown := X.2.2.2.1
  have hts := X.2.2.2.2.1
  have h : (f_X7_addInner_62 x0 (x1) (x2) (y0) (y1) ((1:Int32)) σ) = some q := h
  refine lv_iconst (v := (1:Int32)) hx hb dX7_addInner_57 (by decide) ?_
  refine lv_goto (tgt := 62) hx hb dX7_addInner_58 rfl ?_
  exact N_X7_addInner_62 X hP hS (lv_sub hl [0, 1, 2] rfl) h
set_option maxRecDepth 20000 in
set_option maxHeartbeats 4000000 in
theorem K_X7_addInner (l : Launch) (D : cD) (Φ : cG) (σ : cS) (x0 : Nat) (x1 : Int32) (x2 : Option Nat) {q : cS} (h : f_X7_addInner x0 x1 x2 σ = some q) : Met l yX7_addInner (Cond.code yX7_addInner cX7_addInner 3 none :: BG) (rA 0 0 0 0) (cPc D Φ σ [cv Φ (some x0), .int x1, cv Φ x2]) (cQw D Φ q none) 0 0 (cReg Φ) := by
  refine Met.ofW (cc := cX7_addInner) (maxL := 3) (ret := none) (by decide) rfl ?_
  intro p e s m args below meth c s₁ B hml hv
  obtain ⟨rfl, hP, hK, hZ⟩ := hv
  have X : cX p s m [cv Φ (some x0), .int x1, cv Φ x2].toArray meth c cX7_addInner 3 none RX7 D Φ := cX_of B hml hK hZ
  have hx := X.1
  have hb := X.2.1
  have hown := X.2.2.2.1
  have hts := X.2.2.2.2.1
  have hl := lv_entry [cv Φ (some x0), .int x1, cv Φ x2] (n := 3) (by simp only [lgs_r, lgs_i, lgs_l, lgs_0, List.length]; exact Nat.le_of_ble_eq_true rfl)
  rw [lg_entry_eq]
  generalize (lg_sl [cv Φ (some x0), .int x1, cv Φ x2] ++ List.replicate (3 - (lg_sl [cv Φ (some x0), .int x1, cv Φ x2]).length) Slot.unset).toArray = ls at hl ⊢
  simp only [lv_args_r, lv_args_i, lv_args_l, lv_args_0] at hl
  have hl : lv_has ls 3 [(0, cv Φ (some x0)), (1, .int x1), (2, cv Φ x2)] := hl
  have hS : va_S (cReg Φ) s.heap s.heap [] := va_S.rf
  show cWw p l e 0 0 0 0 s m [cv Φ (some x0), .int x1, cv Φ x2].toArray below meth c D Φ q none s.heap [] 0 0 (F0 m 0 ls [])
  have h : ((gI σ (some x0) 7 6).bind (fun v1 => (gI σ x2 7 6).bind (fun v2 => (pI σ (some x0) 7 6 (v1 + v2)).bind (fun v3 => (gI v3 (some x0) 7 9).bind (fun v4 => (gI v3 x2 7 9).bind (fun v5 => (pI v3 (some x0) 7 9 (v4 ||| v5)).bind (fun v6 => (gI v6 (some x0) 7 7).bind (fun v7 => (gI v6 x2 7 7).bind (fun v8 => (pZ v6 (some x0) 7 7 (v7 ||| v8)).bind (fun v9 => (gI v9 (some x0) 7 8).bind (fun v10 => (gI v9 x2 7 8).bind (fun v11 => if v11 = (0:Int32) then (if x1 = (7:Int32) then (f_X7_addInner_57 x0 (x1) (x2) ((some x0)) (v10) v9) else (f_X7_addInner_62 x0 (x1) (x2) ((some x0)) (v10) ((0:Int32)) v9)) else (f_X7_addInner_57 x0 (x1) (x2) ((some x0)) (v10) v9))))))))))))) = some q := h
  refine c_aload_n hx hb dX7_addInner_0 rfl (lv_at hl 0 rfl) ?_
  refine c_dupq hx hb dX7_addInner_1 ?_
  obtain ⟨v1, hv1, h⟩ := ob h
  refine c_gI X hP hv1 (Nat.le_of_ble_eq_true rfl) (Nat.le_of_ble_eq_true rfl) rfl w_421 dX7_addInner_2 ?_
  refine c_aload_n hx hb dX7_addInner_5 rfl (lv_at hl 2 rfl) ?_
  obtain ⟨v2, hv2, h⟩ := ob h
  refine c_gI X hP hv2 (Nat.le_of_ble_eq_true rfl) (Nat.le_of_ble_eq_true rfl) rfl w_421 dX7_addInner_6 ?_
  refine lv_iadd hx hb dX7_addInner_9 ?_
  obtain ⟨v3, hv3, h⟩ := ob h
  refine c_pI X hP hS hv3 (Nat.le_of_ble_eq_true rfl) (Nat.le_of_ble_eq_true rfl) rfl rfl (Or.inl rfl) w_421 dX7_addInner_10 (fun H locs hP hS => ?_)
  refine c_aload_n hx hb dX7_addInner_13 rfl (lv_at hl 0 rfl) ?_
  refine c_dupq hx hb dX7_addInner_14 ?_
  obtain ⟨v4, hv4, h⟩ := ob h
  refine c_gI X hP hv4 (Nat.le_of_ble_eq_true rfl) (Nat.le_of_ble_eq_true rfl) rfl w_429 dX7_addInner_15 ?_
  refine c_aload_n hx hb dX7_addInner_18 rfl (lv_at hl 2 rfl) ?_
  obtain ⟨v5, hv5, h⟩ := ob h
  refine c_gI X hP hv5 (Nat.le_of_ble_eq_true rfl) (Nat.le_of_ble_eq_true rfl) rfl w_429 dX7_addInner_19 ?_
  refine lv_ior hx hb dX7_addInner_22 ?_
  obtain ⟨v6, hv6, h⟩ := ob h
  refine c_pI X hP hS hv6 (Nat.le_of_ble_eq_true rfl) (Nat.le_of_ble_eq_true rfl) rfl rfl (Or.inl rfl) w_429 dX7_addInner_23 (fun H locs hP hS => ?_)
  refine c_aload_n hx hb dX7_addInner_26 rfl (lv_at hl 0 rfl) ?_
  refine c_dupq hx hb dX7_addInner_27 ?_
  obtain ⟨v7, hv7, h⟩ := ob h
  refine c_gI X hP hv7 (Nat.le_of_ble_eq_true rfl) (Nat.le_of_ble_eq_true rfl) rfl w_424 dX7_addInner_28 ?_
  refine c_aload_n hx hb dX7_addInner_31 rfl (lv_at hl 2 rfl) ?_
  obtain ⟨v8, hv8, h⟩ := ob h
  refine c_gI X hP hv8 (Nat.le_of_ble_eq_true rfl) (Nat.le_of_ble_eq_true rfl) rfl w_424 dX7_addInner_32 ?_
  refine lv_ior hx hb dX7_addInner_35 ?_
  obtain ⟨v9, hv9, h⟩ := ob h
  refine c_pZ X hP hS hv9 (Nat.le_of_ble_eq_true rfl) (Nat.le_of_ble_eq_true rfl) rfl rfl (Or.inl rfl) w_424 dX7_addInner_36 (fun H locs hP hS => ?_)
  refine c_aload_n hx hb dX7_addInner_39 rfl (lv_at hl 0 rfl) ?_
  refine c_dupq hx hb dX7_addInner_40 ?_
  obtain ⟨v10, hv10, h⟩ := ob h
  refine c_gI X hP hv10 (Nat.le_of_ble_eq_true rfl) (Nat.le_of_ble_eq_true rfl) rfl w_427 dX7_addInner_41 ?_
  refine c_aload_n hx hb dX7_addInner_44 rfl (lv_at hl 2 rfl) ?_
  obtain ⟨v11, hv11, h⟩ := ob h
  refine c_gI X hP hv11 (Nat.le_of_ble_eq_true rfl) (Nat.le_of_ble_eq_true rfl) rfl w_427 dX7_addInner_45 ?_
  refine lv_if_ne (tgt := 57) hx hb dX7_addInner_48 rfl (fun hc => ?_) (fun hc => ?_)
  · have h := ine hc h
    exact N_X7_addInner_57 X hP hS (lv_sub hl [0, 1, 2] rfl) h
  · have h := ip hc h
    refine lv_iload_n hx hb dX7_addInner_51 rfl (lv_at hl 1 rfl) ?_
    refine lv_bipush (v := (7:Int32)) hx hb dX7_addInner_52 (by decide) ?_
    refine lv_icmp_ne (tgt := 61) hx hb dX7_addInner_54 rfl (fun hc => ?_) (fun hc => ?_)
    · have h := ine hc h
      refine lv_iconst (v := (0:Int32)) hx hb dX7_addInner_61 (by decide) ?_
      exact N_X7_addInner_62 X hP hS (lv_sub hl [0, 1, 2] rfl) h
    · have h := ip hc h
      exact N_X7_addInner_57 X hP hS (lv_sub hl [0, 1, 2] rfl) h
theorem ww_X7_addInner : Cond.instanceMethod yX7_addInner ∈ BG ∧ Cond.selects (yX7_addInner).cls yX7_addInner yX7_addInner ∈ BG ∧ Cond.initialized (yX7_addInner).cls ∈ BG ∧ Cond.code yX7_addInner cX7_addInner 3 none ∈ BG := ⟨w_874, w_14, w_62, w_875⟩
theorem hy_X7_addInner : (yX7_addInner).cls ≠ "java/lang/invoke/MethodHandle" ∧ (yX7_addInner).cls ≠ "java/lang/invoke/VarHandle" ∧ (parseMethodDescriptor (yX7_addInner).desc).map (fun d => d.parameters.length) = some 2 := ⟨by decide, by decide, by decide +kernel⟩
