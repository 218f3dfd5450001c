set_option maxRecDepth 100000 in
theorem w_555 : Cond.fieldLink "Cascadery$Animation" 9 "Cascadery$Animation" "length" "I" ∈ BG := bg_in 555 (by decide +kernel) (by decide +kernel)
set_option maxRecDepth 100000 in
theorem w_558 : Cond.fieldLink "Cascadery$Animation" 20 "Cascadery$Animation" "frames" "[[I" ∈ BG := bg_in 558 (by decide +kernel) (by decide +kernel)
set_option maxRecDepth 100000 in
theorem w_1071 : Cond.constant "Cascadery$Animation" 41 (-1000000) ∈ BG := bg_in 1071 (by decide +kernel) (by decide +kernel)
set_option maxRecDepth 100000 in
theorem w_559 : Cond.fieldLink "Cascadery$Animation" 23 "Cascadery$Animation" "tenths" "[I" ∈ BG := bg_in 559 (by decide +kernel) (by decide +kernel)
set_option maxRecDepth 100000 in
theorem w_556 : Cond.fieldLink "Cascadery$Animation" 15 "Cascadery$Animation" "rounds" "I" ∈ BG := bg_in 556 (by decide +kernel) (by decide +kernel)
set_option maxRecDepth 100000 in
theorem w_557 : Cond.fieldLink "Cascadery$Animation" 37 "Cascadery$Animation" "turns" "Z" ∈ BG := bg_in 557 (by decide +kernel) (by decide +kernel)
set_option maxRecDepth 100000 in
theorem w_1070 : Cond.code yX0_shownAt cX0_shownAt 13 (some .int) ∈ BG := bg_in 1070 (by rfl) (by decide +kernel)
set_option maxRecDepth 100000 in
theorem w_65 : Cond.initialized "Cascadery$Animation" ∈ BG := bg_in 65 (by decide +kernel) (by decide +kernel)
set_option maxRecDepth 100000 in
theorem w_1068 : Cond.instanceMethod yX0_shownAt ∈ BG := bg_in 1068 (by decide +kernel) (by decide +kernel)
set_option maxRecDepth 100000 in
theorem w_1069 : Cond.selects "Cascadery$Animation" yX0_shownAt yX0_shownAt ∈ BG := bg_in 1069 (by decide +kernel) (by decide +kernel)
set_option maxRecDepth 100000 in
theorem w_493 : Cond.methodLink "Cascadery$Cascade" 3 ⟨"java/lang/Object", "<init>", "()V"⟩ ∈ BG := bg_in 493 (by decide +kernel) (by decide +kernel)
set_option maxRecDepth 100000 in
theorem w_494 : Cond.classLink "Cascadery$Cascade" 9 "Cascadery$Sheet" ∈ BG := bg_in 494 (by decide +kernel) (by decide +kernel)
set_option maxRecDepth 100000 in
theorem w_500 : Cond.fieldLink "Cascadery$Cascade" 11 "Cascadery$Cascade" "sheets" "[LCascadery$Sheet;" ∈ BG := bg_in 500 (by decide +kernel) (by decide +kernel)
set_option maxRecDepth 100000 in
theorem w_496 : Cond.classLink "Cascadery$Cascade" 17 "Cascadery$Rule" ∈ BG := bg_in 496 (by decide +kernel) (by decide +kernel)
set_option maxRecDepth 100000 in
theorem w_501 : Cond.fieldLink "Cascadery$Cascade" 19 "Cascadery$Cascade" "rules" "[LCascadery$Rule;" ∈ BG := bg_in 501 (by decide +kernel) (by decide +kernel)
set_option maxRecDepth 100000 in
theorem w_508 : Cond.fieldLink "Cascadery$Cascade" 23 "Cascadery$Cascade" "width" "I" ∈ BG := bg_in 508 (by decide +kernel) (by decide +kernel)
set_option maxRecDepth 100000 in
theorem w_518 : Cond.fieldLink "Cascadery$Cascade" 27 "Cascadery$Cascade" "sources" "[LCascadery$Rule;" ∈ BG := bg_in 518 (by decide +kernel) (by decide +kernel)
set_option maxRecDepth 100000 in
theorem w_498 : Cond.fieldLink "Cascadery$Cascade" 30 "Cascadery$Cascade" "trees" "LCascadery$Trees;" ∈ BG := bg_in 498 (by decide +kernel) (by decide +kernel)
set_option maxRecDepth 100000 in
theorem w_499 : Cond.fieldLink "Cascadery$Cascade" 34 "Cascadery$Cascade" "matcher" "LCascadery$Matcher;" ∈ BG := bg_in 499 (by decide +kernel) (by decide +kernel)
set_option maxRecDepth 100000 in
theorem w_492 : Cond.code yX1_init cX1_init 3 none ∈ BG := bg_in 492 (by rfl) (by decide +kernel)
set_option maxRecDepth 100000 in
theorem w_64 : Cond.initialized "Cascadery$Cascade" ∈ BG := bg_in 64 (by decide +kernel) (by decide +kernel)
set_option maxRecDepth 100000 in
theorem w_491 : Cond.instanceMethod yX1_init ∈ BG := bg_in 491 (by decide +kernel) (by decide +kernel)
set_option maxRecDepth 100000 in
theorem w_502 : Cond.fieldLink "Cascadery$Cascade" 38 "Cascadery$Cascade" "sheetCount" "I" ∈ BG := bg_in 502 (by decide +kernel) (by decide +kernel)
set_option maxRecDepth 100000 in
theorem w_1294 : Cond.code yX1_sheetAt cX1_sheetAt 2 (some (.object "Cascadery$Sheet")) ∈ BG := bg_in 1294 (by rfl) (by decide +kernel)
set_option maxRecDepth 100000 in
theorem w_1292 : Cond.instanceMethod yX1_sheetAt ∈ BG := bg_in 1292 (by decide +kernel) (by decide +kernel)
set_option maxRecDepth 100000 in
theorem w_1293 : Cond.selects "Cascadery$Cascade" yX1_sheetAt yX1_sheetAt ∈ BG := bg_in 1293 (by decide +kernel) (by decide +kernel)
set_option maxRecDepth 100000 in
theorem w_504 : Cond.fieldLink "Cascadery$Cascade" 41 "Cascadery$Cascade" "ruleCount" "I" ∈ BG := bg_in 504 (by decide +kernel) (by decide +kernel)
set_option maxRecDepth 100000 in
theorem w_1187 : Cond.code yX1_ruleAt cX1_ruleAt 2 (some (.object "Cascadery$Rule")) ∈ BG := bg_in 1187 (by rfl) (by decide +kernel)
set_option maxRecDepth 100000 in
theorem w_1185 : Cond.instanceMethod yX1_ruleAt ∈ BG := bg_in 1185 (by decide +kernel) (by decide +kernel)
set_option maxRecDepth 100000 in
theorem w_1186 : Cond.selects "Cascadery$Cascade" yX1_ruleAt yX1_ruleAt ∈ BG := bg_in 1186 (by decide +kernel) (by decide +kernel)
set_option maxRecDepth 100000 in
theorem w_1257 : Cond.methodLink "Cascadery$Sheet" 1 ⟨"java/lang/Object", "<init>", "()V"⟩ ∈ BG := bg_in 1257 (by decide +kernel) (by decide +kernel)
set_option maxRecDepth 100000 in
theorem w_1266 : Cond.fieldLink "Cascadery$Sheet" 7 "Cascadery$Sheet" "isOn" "Z" ∈ BG := bg_in 1266 (by decide +kernel) (by decide +kernel)
set_option maxRecDepth 100000 in
theorem w_1258 : Cond.fieldLink "Cascadery$Sheet" 13 "Cascadery$Sheet" "number" "I" ∈ BG := bg_in 1258 (by decide +kernel) (by decide +kernel)
set_option maxRecDepth 100000 in
theorem w_1260 : Cond.fieldLink "Cascadery$Sheet" 17 "Cascadery$Sheet" "origin" "I" ∈ BG := bg_in 1260 (by decide +kernel) (by decide +kernel)
set_option maxRecDepth 100000 in
theorem w_1262 : Cond.fieldLink "Cascadery$Sheet" 20 "Cascadery$Sheet" "host" "LCascadery$Element;" ∈ BG := bg_in 1262 (by decide +kernel) (by decide +kernel)
set_option maxRecDepth 100000 in
theorem w_1264 : Cond.fieldLink "Cascadery$Sheet" 24 "Cascadery$Sheet" "layer" "I" ∈ BG := bg_in 1264 (by decide +kernel) (by decide +kernel)
set_option maxRecDepth 100000 in
theorem w_1256 : Cond.code yX8_init cX8_init 5 none ∈ BG := bg_in 1256 (by rfl) (by decide +kernel)
set_option maxRecDepth 100000 in
theorem w_72 : Cond.initialized "Cascadery$Sheet" ∈ BG := bg_in 72 (by decide +kernel) (by decide +kernel)
set_option maxRecDepth 100000 in
theorem w_1255 : Cond.instanceMethod yX8_init ∈ BG := bg_in 1255 (by decide +kernel) (by decide +kernel)
set_option maxRecDepth 100000 in
theorem w_1253 : Cond.instantiable "Cascadery$Sheet" 5 ∈ BG := bg_in 1253 (by decide +kernel) (by decide +kernel)
set_option maxRecDepth 100000 in
theorem w_1254 : Cond.methodLink "Cascadery$Cascade" 44 yX8_init ∈ BG := bg_in 1254 (by decide +kernel) (by decide +kernel)
set_option maxRecDepth 100000 in
theorem w_1252 : Cond.code yX1_addSheet cX1_addSheet 4 (some .int) ∈ BG := bg_in 1252 (by rfl) (by decide +kernel)
set_option maxRecDepth 100000 in
theorem w_1250 : Cond.instanceMethod yX1_addSheet ∈ BG := bg_in 1250 (by decide +kernel) (by decide +kernel)
set_option maxRecDepth 100000 in
theorem w_1251 : Cond.selects "Cascadery$Cascade" yX1_addSheet yX1_addSheet ∈ BG := bg_in 1251 (by decide +kernel) (by decide +kernel)
set_option maxRecDepth 100000 in
theorem w_166 : Cond.fieldLink "Cascadery$Rule" 44 "Cascadery$Rule" "origin" "I" ∈ BG := bg_in 166 (by decide +kernel) (by decide +kernel)
set_option maxRecDepth 100000 in
theorem w_159 : Cond.methodLink "Cascadery$Rule" 3 ⟨"java/lang/Object", "<init>", "()V"⟩ ∈ BG := bg_in 159 (by decide +kernel) (by decide +kernel)
set_option maxRecDepth 100000 in
theorem w_168 : Cond.fieldLink "Cascadery$Rule" 9 "Cascadery$Rule" "condition" "I" ∈ BG := bg_in 168 (by decide +kernel) (by decide +kernel)
set_option maxRecDepth 100000 in
theorem w_141 : Cond.arrayClass Jvm.ClassFile.FieldType.int ∈ BG := bg_in 141 (by decide +kernel) (by decide +kernel)
set_option maxRecDepth 100000 in
theorem w_178 : Cond.fieldLink "Cascadery$Rule" 15 "Cascadery$Rule" "units" "[I" ∈ BG := bg_in 178 (by decide +kernel) (by decide +kernel)
set_option maxRecDepth 100000 in
theorem w_181 : Cond.fieldLink "Cascadery$Rule" 19 "Cascadery$Rule" "numbers" "[I" ∈ BG := bg_in 181 (by decide +kernel) (by decide +kernel)
set_option maxRecDepth 100000 in
theorem w_183 : Cond.fieldLink "Cascadery$Rule" 22 "Cascadery$Rule" "variables" "[I" ∈ BG := bg_in 183 (by decide +kernel) (by decide +kernel)
set_option maxRecDepth 100000 in
theorem w_185 : Cond.fieldLink "Cascadery$Rule" 25 "Cascadery$Rule" "secondUnits" "[I" ∈ BG := bg_in 185 (by decide +kernel) (by decide +kernel)
set_option maxRecDepth 100000 in
theorem w_160 : Cond.fieldLink "Cascadery$Rule" 28 "Cascadery$Rule" "number" "I" ∈ BG := bg_in 160 (by decide +kernel) (by decide +kernel)
set_option maxRecDepth 100000 in
theorem w_162 : Cond.fieldLink "Cascadery$Rule" 31 "Cascadery$Rule" "sheet" "LCascadery$Sheet;" ∈ BG := bg_in 162 (by decide +kernel) (by decide +kernel)
set_option maxRecDepth 100000 in
theorem w_164 : Cond.fieldLink "Cascadery$Rule" 35 "Cascadery$Rule" "selector" "LCascadery$Selector;" ∈ BG := bg_in 164 (by decide +kernel) (by decide +kernel)
set_option maxRecDepth 100000 in
theorem w_1261 : Cond.fieldLink "Cascadery$Rule" 39 "Cascadery$Sheet" "origin" "I" ∈ BG := bg_in 1261 (by decide +kernel) (by decide +kernel)
set_option maxRecDepth 100000 in
theorem w_158 : Cond.code yX6_init cX6_init 4 none ∈ BG := bg_in 158 (by rfl) (by decide +kernel)
set_option maxRecDepth 100000 in
theorem w_60 : Cond.initialized "Cascadery$Rule" ∈ BG := bg_in 60 (by decide +kernel) (by decide +kernel)
set_option maxRecDepth 100000 in
theorem w_157 : Cond.instanceMethod yX6_init ∈ BG := bg_in 157 (by decide +kernel) (by decide +kernel)
set_option maxRecDepth 100000 in
theorem w_507 : Cond.fieldLink "Cascadery$Cascade" 50 "Cascadery$Cascade" "lastRule" "LCascadery$Rule;" ∈ BG := bg_in 507 (by decide +kernel) (by decide +kernel)
set_option maxRecDepth 100000 in
theorem w_510 : Cond.fieldLink "Cascadery$Cascade" 60 "Cascadery$Cascade" "nearFeatures" "I" ∈ BG := bg_in 510 (by decide +kernel) (by decide +kernel)
set_option maxRecDepth 100000 in
theorem w_430 : Cond.fieldLink "Cascadery$Cascade" 63 "Cascadery$Selector" "nearFeatures" "I" ∈ BG := bg_in 430 (by decide +kernel) (by decide +kernel)
set_option maxRecDepth 100000 in
theorem w_512 : Cond.fieldLink "Cascadery$Cascade" 66 "Cascadery$Cascade" "farFeatures" "I" ∈ BG := bg_in 512 (by decide +kernel) (by decide +kernel)
set_option maxRecDepth 100000 in
theorem w_432 : Cond.fieldLink "Cascadery$Cascade" 69 "Cascadery$Selector" "farFeatures" "I" ∈ BG := bg_in 432 (by decide +kernel) (by decide +kernel)
set_option maxRecDepth 100000 in
theorem w_514 : Cond.fieldLink "Cascadery$Cascade" 70 "Cascadery$Cascade" "hasOrder" "Z" ∈ BG := bg_in 514 (by decide +kernel) (by decide +kernel)
set_option maxRecDepth 100000 in
theorem w_425 : Cond.fieldLink "Cascadery$Cascade" 74 "Cascadery$Selector" "hasOrder" "Z" ∈ BG := bg_in 425 (by decide +kernel) (by decide +kernel)
set_option maxRecDepth 100000 in
theorem w_516 : Cond.fieldLink "Cascadery$Cascade" 75 "Cascadery$Cascade" "hasHas" "Z" ∈ BG := bg_in 516 (by decide +kernel) (by decide +kernel)
set_option maxRecDepth 100000 in
theorem w_426 : Cond.fieldLink "Cascadery$Cascade" 78 "Cascadery$Selector" "hasHas" "Z" ∈ BG := bg_in 426 (by decide +kernel) (by decide +kernel)
set_option maxRecDepth 100000 in
theorem w_155 : Cond.instantiable "Cascadery$Rule" 15 ∈ BG := bg_in 155 (by decide +kernel) (by decide +kernel)
set_option maxRecDepth 100000 in
theorem w_1299 : Cond.methodLink "Cascadery$Cascade" 47 yX6_init ∈ BG := bg_in 1299 (by decide +kernel) (by decide +kernel)
set_option maxRecDepth 100000 in
theorem w_190 : Cond.fieldLink "Cascadery$Cascade" 57 "Cascadery$Rule" "next" "LCascadery$Rule;" ∈ BG := bg_in 190 (by decide +kernel) (by decide +kernel)
set_option maxRecDepth 100000 in
theorem w_506 : Cond.fieldLink "Cascadery$Cascade" 54 "Cascadery$Cascade" "firstRule" "LCascadery$Rule;" ∈ BG := bg_in 506 (by decide +kernel) (by decide +kernel)
set_option maxRecDepth 100000 in
theorem w_1298 : Cond.code yX1_addRule cX1_addRule 4 (some .int) ∈ BG := bg_in 1298 (by rfl) (by decide +kernel)
set_option maxRecDepth 100000 in
theorem w_1296 : Cond.instanceMethod yX1_addRule ∈ BG := bg_in 1296 (by decide +kernel) (by decide +kernel)
set_option maxRecDepth 100000 in
theorem w_1297 : Cond.selects "Cascadery$Cascade" yX1_addRule yX1_addRule ∈ BG := bg_in 1297 (by decide +kernel) (by decide +kernel)
set_option maxRecDepth 100000 in
theorem w_331 : Cond.fieldLink "Cascadery$Trees" 24 "Cascadery$Trees" "inDocument" "I" ∈ BG := bg_in 331 (by decide +kernel) (by decide +kernel)
set_option maxRecDepth 100000 in
theorem w_225 : Cond.fieldLink "Cascadery$Trees" 31 "Cascadery$Element" "number" "I" ∈ BG := bg_in 225 (by decide +kernel) (by decide +kernel)
set_option maxRecDepth 100000 in
theorem w_900 : Cond.code yX10_holdsElement cX10_holdsElement 2 (some .boolean) ∈ BG := bg_in 900 (by rfl) (by decide +kernel)
set_option maxRecDepth 100000 in
theorem w_58 : Cond.initialized "Cascadery$Trees" ∈ BG := bg_in 58 (by decide +kernel) (by decide +kernel)
set_option maxRecDepth 100000 in
theorem w_898 : Cond.instanceMethod yX10_holdsElement ∈ BG := bg_in 898 (by decide +kernel) (by decide +kernel)
set_option maxRecDepth 100000 in
theorem w_899 : Cond.selects "Cascadery$Trees" yX10_holdsElement yX10_holdsElement ∈ BG := bg_in 899 (by decide +kernel) (by decide +kernel)
set_option maxRecDepth 100000 in
theorem w_1263 : Cond.fieldLink "Cascadery$Cascade" 94 "Cascadery$Sheet" "host" "LCascadery$Element;" ∈ BG := bg_in 1263 (by decide +kernel) (by decide +kernel)
set_option maxRecDepth 100000 in
theorem w_917 : Cond.methodLink "Cascadery$Cascade" 115 yX10_holdsElement ∈ BG := bg_in 917 (by decide +kernel) (by decide +kernel)
set_option maxRecDepth 100000 in
theorem w_916 : Cond.code yX1_isThere cX1_isThere 2 (some .boolean) ∈ BG := bg_in 916 (by rfl) (by decide +kernel)
set_option maxRecDepth 100000 in
theorem w_915 : Cond.instanceMethod yX1_isThere ∈ BG := bg_in 915 (by decide +kernel) (by decide +kernel)
set_option maxRecDepth 100000 in
theorem w_17 : Cond.selects "Cascadery$Cascade" yX1_isThere yX1_isThere ∈ BG := bg_in 17 (by decide +kernel) (by decide +kernel)
set_option maxRecDepth 100000 in
theorem w_466 : Cond.fieldLink "Cascadery$Matcher" 38 "Cascadery$Matcher" "count" "I" ∈ BG := bg_in 466 (by decide +kernel) (by decide +kernel)
set_option maxRecDepth 100000 in
theorem w_465 : Cond.fieldLink "Cascadery$Matcher" 11 "Cascadery$Matcher" "selectors" "[LCascadery$Selector;" ∈ BG := bg_in 465 (by decide +kernel) (by decide +kernel)
set_option maxRecDepth 100000 in
theorem w_863 : Cond.code yX5_selectorAt cX5_selectorAt 2 (some (.object "Cascadery$Selector")) ∈ BG := bg_in 863 (by rfl) (by decide +kernel)
set_option maxRecDepth 100000 in
theorem w_61 : Cond.initialized "Cascadery$Matcher" ∈ BG := bg_in 61 (by decide +kernel) (by decide +kernel)
set_option maxRecDepth 100000 in
theorem w_861 : Cond.instanceMethod yX5_selectorAt ∈ BG := bg_in 861 (by decide +kernel) (by decide +kernel)
set_option maxRecDepth 100000 in
theorem w_862 : Cond.selects "Cascadery$Matcher" yX5_selectorAt yX5_selectorAt ∈ BG := bg_in 862 (by decide +kernel) (by decide +kernel)
set_option maxRecDepth 100000 in
theorem w_328 : Cond.fieldLink "Cascadery$Trees" 20 "Cascadery$Trees" "count" "I" ∈ BG := bg_in 328 (by decide +kernel) (by decide +kernel)
set_option maxRecDepth 100000 in
theorem w_336 : Cond.fieldLink "Cascadery$Trees" 27 "Cascadery$Trees" "elements" "[LCascadery$Element;" ∈ BG := bg_in 336 (by decide +kernel) (by decide +kernel)
set_option maxRecDepth 100000 in
theorem w_742 : Cond.code yX10_at cX10_at 2 (some (.object "Cascadery$Element")) ∈ BG := bg_in 742 (by rfl) (by decide +kernel)
set_option maxRecDepth 100000 in
theorem w_740 : Cond.instanceMethod yX10_at ∈ BG := bg_in 740 (by decide +kernel) (by decide +kernel)
set_option maxRecDepth 100000 in
theorem w_741 : Cond.selects "Cascadery$Trees" yX10_at yX10_at ∈ BG := bg_in 741 (by decide +kernel) (by decide +kernel)
set_option maxRecDepth 100000 in
theorem w_785 : Cond.methodLink "Cascadery$Trees" 34 yX10_at ∈ BG := bg_in 785 (by decide +kernel) (by decide +kernel)
set_option maxRecDepth 100000 in
theorem w_271 : Cond.fieldLink "Cascadery$Trees" 101 "Cascadery$Element" "treeHost" "LCascadery$Element;" ∈ BG := bg_in 271 (by decide +kernel) (by decide +kernel)
set_option maxRecDepth 100000 in
theorem w_931 : Cond.methodLink "Cascadery$Trees" 135 yX10_holdsElement ∈ BG := bg_in 931 (by decide +kernel) (by decide +kernel)
set_option maxRecDepth 100000 in
theorem w_930 : Cond.code yX10_membersOf cX10_membersOf 5 (some .int) ∈ BG := bg_in 930 (by rfl) (by decide +kernel)
set_option maxRecDepth 100000 in
theorem w_928 : Cond.instanceMethod yX10_membersOf ∈ BG := bg_in 928 (by decide +kernel) (by decide +kernel)
set_option maxRecDepth 100000 in
theorem w_929 : Cond.selects "Cascadery$Trees" yX10_membersOf yX10_membersOf ∈ BG := bg_in 929 (by decide +kernel) (by decide +kernel)
set_option maxRecDepth 100000 in
theorem w_637 : Cond.code yX11_isBelow cX11_isBelow 2 (some .boolean) ∈ BG := bg_in 637 (by rfl) (by decide +kernel)
set_option maxRecDepth 100000 in
theorem w_56 : Cond.initialized "Cascadery" ∈ BG := bg_in 56 (by decide +kernel) (by decide +kernel)
set_option maxRecDepth 100000 in
theorem w_636 : Cond.static yX11_isBelow ∈ BG := bg_in 636 (by decide +kernel) (by decide +kernel)
set_option maxRecDepth 100000 in
theorem w_226 : Cond.fieldLink "Cascadery$Matcher" 46 "Cascadery$Element" "number" "I" ∈ BG := bg_in 226 (by decide +kernel) (by decide +kernel)
set_option maxRecDepth 100000 in
theorem w_253 : Cond.fieldLink "Cascadery$Matcher" 159 "Cascadery$Element" "parent" "LCascadery$Element;" ∈ BG := bg_in 253 (by decide +kernel) (by decide +kernel)
set_option maxRecDepth 100000 in
theorem w_257 : Cond.fieldLink "Cascadery$Matcher" 162 "Cascadery$Element" "host" "LCascadery$Element;" ∈ BG := bg_in 257 (by decide +kernel) (by decide +kernel)
set_option maxRecDepth 100000 in
theorem w_265 : Cond.fieldLink "Cascadery$Matcher" 155 "Cascadery$Element" "previous" "LCascadery$Element;" ∈ BG := bg_in 265 (by decide +kernel) (by decide +kernel)
set_option maxRecDepth 100000 in
theorem w_945 : Cond.code yX5_sources cX5_sources 8 (some .int) ∈ BG := bg_in 945 (by rfl) (by decide +kernel)
set_option maxRecDepth 100000 in
theorem w_944 : Cond.instanceMethod yX5_sources ∈ BG := bg_in 944 (by decide +kernel) (by decide +kernel)
set_option maxRecDepth 100000 in
theorem w_21 : Cond.selects "Cascadery$Matcher" yX5_sources yX5_sources ∈ BG := bg_in 21 (by decide +kernel) (by decide +kernel)
set_option maxRecDepth 100000 in
theorem w_464 : Cond.fieldLink "Cascadery$Matcher" 34 "Cascadery$Matcher" "trees" "LCascadery$Trees;" ∈ BG := bg_in 464 (by decide +kernel) (by decide +kernel)
set_option maxRecDepth 100000 in
theorem w_330 : Cond.fieldLink "Cascadery$Matcher" 124 "Cascadery$Trees" "count" "I" ∈ BG := bg_in 330 (by decide +kernel) (by decide +kernel)
set_option maxRecDepth 100000 in
theorem w_941 : Cond.methodLink "Cascadery$Matcher" 125 yX10_at ∈ BG := bg_in 941 (by decide +kernel) (by decide +kernel)
set_option maxRecDepth 100000 in
theorem w_942 : Cond.methodLink "Cascadery$Matcher" 151 yX5_sources ∈ BG := bg_in 942 (by decide +kernel) (by decide +kernel)
set_option maxRecDepth 100000 in
theorem w_940 : Cond.code yX5_origins cX5_origins 6 (some .int) ∈ BG := bg_in 940 (by rfl) (by decide +kernel)
set_option maxRecDepth 100000 in
theorem w_939 : Cond.instanceMethod yX5_origins ∈ BG := bg_in 939 (by decide +kernel) (by decide +kernel)
set_option maxRecDepth 100000 in
theorem w_20 : Cond.selects "Cascadery$Matcher" yX5_origins yX5_origins ∈ BG := bg_in 20 (by decide +kernel) (by decide +kernel)
set_option maxRecDepth 100000 in
theorem w_230 : Cond.fieldLink "Cascadery$Matcher" 133 "Cascadery$Element" "kind" "I" ∈ BG := bg_in 230 (by decide +kernel) (by decide +kernel)
set_option maxRecDepth 100000 in
theorem w_234 : Cond.fieldLink "Cascadery$Matcher" 136 "Cascadery$Element" "classes" "I" ∈ BG := bg_in 234 (by decide +kernel) (by decide +kernel)
set_option maxRecDepth 100000 in
theorem w_236 : Cond.fieldLink "Cascadery$Matcher" 139 "Cascadery$Element" "states" "I" ∈ BG := bg_in 236 (by decide +kernel) (by decide +kernel)
set_option maxRecDepth 100000 in
theorem w_241 : Cond.fieldLink "Cascadery$Matcher" 145 "Cascadery$Element" "attribute1" "I" ∈ BG := bg_in 241 (by decide +kernel) (by decide +kernel)
set_option maxRecDepth 100000 in
theorem w_238 : Cond.fieldLink "Cascadery$Matcher" 142 "Cascadery$Element" "attribute0" "I" ∈ BG := bg_in 238 (by decide +kernel) (by decide +kernel)
set_option maxRecDepth 100000 in
theorem w_268 : Cond.fieldLink "Cascadery$Matcher" 148 "Cascadery$Element" "place" "I" ∈ BG := bg_in 268 (by decide +kernel) (by decide +kernel)
set_option maxRecDepth 100000 in
theorem w_953 : Cond.code yX5_passes cX5_passes 6 (some .boolean) ∈ BG := bg_in 953 (by rfl) (by decide +kernel)
set_option maxRecDepth 100000 in
theorem w_952 : Cond.instanceMethod yX5_passes ∈ BG := bg_in 952 (by decide +kernel) (by decide +kernel)
set_option maxRecDepth 100000 in
theorem w_23 : Cond.selects "Cascadery$Matcher" yX5_passes yX5_passes ∈ BG := bg_in 23 (by decide +kernel) (by decide +kernel)
set_option maxRecDepth 100000 in
theorem w_950 : Cond.methodLink "Cascadery$Matcher" 129 yX5_passes ∈ BG := bg_in 950 (by decide +kernel) (by decide +kernel)
set_option maxRecDepth 100000 in
theorem w_949 : Cond.code yX5_passing cX5_passing 8 (some .int) ∈ BG := bg_in 949 (by rfl) (by decide +kernel)
set_option maxRecDepth 100000 in
theorem w_948 : Cond.instanceMethod yX5_passing ∈ BG := bg_in 948 (by decide +kernel) (by decide +kernel)
set_option maxRecDepth 100000 in
theorem w_22 : Cond.selects "Cascadery$Matcher" yX5_passing yX5_passing ∈ BG := bg_in 22 (by decide +kernel) (by decide +kernel)
set_option maxRecDepth 100000 in
theorem w_379 : Cond.fieldLink "Cascadery$Matcher" 103 "Cascadery$Compound" "count" "I" ∈ BG := bg_in 379 (by decide +kernel) (by decide +kernel)
set_option maxRecDepth 100000 in
theorem w_374 : Cond.fieldLink "Cascadery$Matcher" 104 "Cascadery$Compound" "ones" "[I" ∈ BG := bg_in 374 (by decide +kernel) (by decide +kernel)
set_option maxRecDepth 100000 in
theorem w_377 : Cond.fieldLink "Cascadery$Matcher" 107 "Cascadery$Compound" "twos" "[I" ∈ BG := bg_in 377 (by decide +kernel) (by decide +kernel)
set_option maxRecDepth 100000 in
theorem w_371 : Cond.fieldLink "Cascadery$Matcher" 110 "Cascadery$Compound" "kinds" "[I" ∈ BG := bg_in 371 (by decide +kernel) (by decide +kernel)
theorem cn_4 : Cond.methodLinkNest "Cascadery$Matcher" 113 yX11_isBelow "Cascadery" ∈ cNest := List.mem_of_getElem? (i := 4) rfl
set_option maxRecDepth 100000 in
theorem w_937 : Cond.methodLink "Cascadery$Matcher" 117 yX5_origins ∈ BG := bg_in 937 (by decide +kernel) (by decide +kernel)
set_option maxRecDepth 100000 in
theorem w_946 : Cond.methodLink "Cascadery$Matcher" 120 yX5_passing ∈ BG := bg_in 946 (by decide +kernel) (by decide +kernel)
set_option maxRecDepth 100000 in
theorem w_935 : Cond.code yX5_findFitting cX5_findFitting 8 (some .int) ∈ BG := bg_in 935 (by rfl) (by decide +kernel)
set_option maxRecDepth 100000 in
theorem w_934 : Cond.instanceMethod yX5_findFitting ∈ BG := bg_in 934 (by decide +kernel) (by decide +kernel)
set_option maxRecDepth 100000 in
theorem w_19 : Cond.selects "Cascadery$Matcher" yX5_findFitting yX5_findFitting ∈ BG := bg_in 19 (by decide +kernel) (by decide +kernel)
set_option maxRecDepth 100000 in
theorem w_957 : Cond.code yX5_reached cX5_reached 7 (some .int) ∈ BG := bg_in 957 (by rfl) (by decide +kernel)
set_option maxRecDepth 100000 in
theorem w_956 : Cond.instanceMethod yX5_reached ∈ BG := bg_in 956 (by decide +kernel) (by decide +kernel)
set_option maxRecDepth 100000 in
theorem w_24 : Cond.selects "Cascadery$Matcher" yX5_reached yX5_reached ∈ BG := bg_in 24 (by decide +kernel) (by decide +kernel)
set_option maxRecDepth 100000 in
theorem w_246 : Cond.fieldLink "Cascadery$Trees" 139 "Cascadery$Element" "part" "I" ∈ BG := bg_in 246 (by decide +kernel) (by decide +kernel)
set_option maxRecDepth 100000 in
theorem w_961 : Cond.code yX10_partsIn cX10_partsIn 6 (some .int) ∈ BG := bg_in 961 (by rfl) (by decide +kernel)
set_option maxRecDepth 100000 in
theorem w_959 : Cond.instanceMethod yX10_partsIn ∈ BG := bg_in 959 (by decide +kernel) (by decide +kernel)
set_option maxRecDepth 100000 in
theorem w_960 : Cond.selects "Cascadery$Trees" yX10_partsIn yX10_partsIn ∈ BG := bg_in 960 (by decide +kernel) (by decide +kernel)
set_option maxRecDepth 100000 in
theorem w_387 : Cond.fieldLink "Cascadery$Matcher" 93 "Cascadery$Compound" "next" "LCascadery$Compound;" ∈ BG := bg_in 387 (by decide +kernel) (by decide +kernel)
set_option maxRecDepth 100000 in
theorem w_932 : Cond.methodLink "Cascadery$Matcher" 82 yX5_findFitting ∈ BG := bg_in 932 (by decide +kernel) (by decide +kernel)
set_option maxRecDepth 100000 in
theorem w_410 : Cond.fieldLink "Cascadery$Matcher" 72 "Cascadery$Selector" "first" "LCascadery$Compound;" ∈ BG := bg_in 410 (by decide +kernel) (by decide +kernel)
set_option maxRecDepth 100000 in
theorem w_368 : Cond.fieldLink "Cascadery$Matcher" 86 "Cascadery$Compound" "combinator" "I" ∈ BG := bg_in 368 (by decide +kernel) (by decide +kernel)
set_option maxRecDepth 100000 in
theorem w_954 : Cond.methodLink "Cascadery$Matcher" 89 yX5_reached ∈ BG := bg_in 954 (by decide +kernel) (by decide +kernel)
set_option maxRecDepth 100000 in
theorem w_418 : Cond.fieldLink "Cascadery$Matcher" 96 "Cascadery$Selector" "part" "I" ∈ BG := bg_in 418 (by decide +kernel) (by decide +kernel)
set_option maxRecDepth 100000 in
theorem w_958 : Cond.methodLink "Cascadery$Matcher" 99 yX10_partsIn ∈ BG := bg_in 958 (by decide +kernel) (by decide +kernel)
set_option maxRecDepth 100000 in
theorem w_381 : Cond.fieldLink "Cascadery$Matcher" 76 "Cascadery$Compound" "hasHost" "Z" ∈ BG := bg_in 381 (by decide +kernel) (by decide +kernel)
set_option maxRecDepth 100000 in
theorem w_927 : Cond.methodLink "Cascadery$Matcher" 68 yX10_membersOf ∈ BG := bg_in 927 (by decide +kernel) (by decide +kernel)
set_option maxRecDepth 100000 in
theorem w_926 : Cond.code yX5_findSet cX5_findSet 8 (some .int) ∈ BG := bg_in 926 (by rfl) (by decide +kernel)
set_option maxRecDepth 100000 in
theorem w_925 : Cond.instanceMethod yX5_findSet ∈ BG := bg_in 925 (by decide +kernel) (by decide +kernel)
set_option maxRecDepth 100000 in
theorem w_18 : Cond.selects "Cascadery$Matcher" yX5_findSet yX5_findSet ∈ BG := bg_in 18 (by decide +kernel) (by decide +kernel)
set_option maxRecDepth 100000 in
theorem w_471 : Cond.fieldLink "Cascadery$Matcher" 27 "Cascadery$Matcher" "known" "[I" ∈ BG := bg_in 471 (by decide +kernel) (by decide +kernel)
set_option maxRecDepth 100000 in
theorem w_470 : Cond.fieldLink "Cascadery$Matcher" 24 "Cascadery$Matcher" "sets" "[[I" ∈ BG := bg_in 470 (by decide +kernel) (by decide +kernel)
set_option maxRecDepth 100000 in
theorem w_416 : Cond.fieldLink "Cascadery$Matcher" 51 "Cascadery$Selector" "number" "I" ∈ BG := bg_in 416 (by decide +kernel) (by decide +kernel)
set_option maxRecDepth 100000 in
theorem w_922 : Cond.methodLink "Cascadery$Matcher" 60 yX5_selectorAt ∈ BG := bg_in 922 (by decide +kernel) (by decide +kernel)
set_option maxRecDepth 100000 in
theorem w_923 : Cond.methodLink "Cascadery$Matcher" 64 yX5_findSet ∈ BG := bg_in 923 (by decide +kernel) (by decide +kernel)
set_option maxRecDepth 100000 in
theorem w_428 : Cond.fieldLink "Cascadery$Matcher" 57 "Cascadery$Selector" "needed" "I" ∈ BG := bg_in 428 (by decide +kernel) (by decide +kernel)
set_option maxRecDepth 100000 in
theorem w_472 : Cond.fieldLink "Cascadery$Matcher" 31 "Cascadery$Matcher" "versions" "[I" ∈ BG := bg_in 472 (by decide +kernel) (by decide +kernel)
set_option maxRecDepth 100000 in
theorem w_333 : Cond.fieldLink "Cascadery$Matcher" 52 "Cascadery$Trees" "version" "I" ∈ BG := bg_in 333 (by decide +kernel) (by decide +kernel)
set_option maxRecDepth 100000 in
theorem w_921 : Cond.code yX5_setOf cX5_setOf 7 (some .int) ∈ BG := bg_in 921 (by rfl) (by decide +kernel)
set_option maxRecDepth 100000 in
theorem w_919 : Cond.instanceMethod yX5_setOf ∈ BG := bg_in 919 (by decide +kernel) (by decide +kernel)
set_option maxRecDepth 100000 in
theorem w_920 : Cond.selects "Cascadery$Matcher" yX5_setOf yX5_setOf ∈ BG := bg_in 920 (by decide +kernel) (by decide +kernel)
set_option maxRecDepth 100000 in
theorem w_187 : Cond.fieldLink "Cascadery$Cascade" 112 "Cascadery$Rule" "depth" "I" ∈ BG := bg_in 187 (by decide +kernel) (by decide +kernel)
set_option maxRecDepth 100000 in
theorem w_189 : Cond.fieldLink "Cascadery$Cascade" 104 "Cascadery$Rule" "matching" "I" ∈ BG := bg_in 189 (by decide +kernel) (by decide +kernel)
set_option maxRecDepth 100000 in
theorem w_278 : Cond.fieldLink "Cascadery$Cascade" 107 "Cascadery$Element" "own" "LCascadery$Rule;" ∈ BG := bg_in 278 (by decide +kernel) (by decide +kernel)
set_option maxRecDepth 100000 in
theorem w_165 : Cond.fieldLink "Cascadery$Cascade" 90 "Cascadery$Rule" "selector" "LCascadery$Selector;" ∈ BG := bg_in 165 (by decide +kernel) (by decide +kernel)
set_option maxRecDepth 100000 in
theorem w_918 : Cond.methodLink "Cascadery$Cascade" 98 yX5_setOf ∈ BG := bg_in 918 (by decide +kernel) (by decide +kernel)
set_option maxRecDepth 100000 in
theorem w_163 : Cond.fieldLink "Cascadery$Cascade" 79 "Cascadery$Rule" "sheet" "LCascadery$Sheet;" ∈ BG := bg_in 163 (by decide +kernel) (by decide +kernel)
set_option maxRecDepth 100000 in
theorem w_1267 : Cond.fieldLink "Cascadery$Cascade" 83 "Cascadery$Sheet" "isOn" "Z" ∈ BG := bg_in 1267 (by decide +kernel) (by decide +kernel)
set_option maxRecDepth 100000 in
theorem w_913 : Cond.methodLink "Cascadery$Cascade" 86 yX1_isThere ∈ BG := bg_in 913 (by decide +kernel) (by decide +kernel)
set_option maxRecDepth 100000 in
theorem w_912 : Cond.code yX1_prepare cX1_prepare 4 none ∈ BG := bg_in 912 (by rfl) (by decide +kernel)
set_option maxRecDepth 100000 in
theorem w_910 : Cond.instanceMethod yX1_prepare ∈ BG := bg_in 910 (by decide +kernel) (by decide +kernel)
set_option maxRecDepth 100000 in
theorem w_911 : Cond.selects "Cascadery$Cascade" yX1_prepare yX1_prepare ∈ BG := bg_in 911 (by decide +kernel) (by decide +kernel)
theorem dX0_shownAt_0 : decode cX0_shownAt 0 = .ok (.iload_n 1, 1) := by decide +kernel
theorem dX0_shownAt_1 : decode cX0_shownAt 1 = .ok (.ifCond .lt 15, 3) := by decide +kernel
theorem dX0_shownAt_4 : decode cX0_shownAt 4 = .ok (.iload_n 1, 1) := by decide +kernel
theorem dX0_shownAt_5 : decode cX0_shownAt 5 = .ok (.iconst 5, 1) := by decide +kernel
theorem dX0_shownAt_6 : decode cX0_shownAt 6 = .ok (.if_icmp .ge 10, 3) := by decide +kernel
theorem dX0_shownAt_9 : decode cX0_shownAt 9 = .ok (.aload_n 0, 1) := by decide +kernel
theorem dX0_shownAt_10 : decode cX0_shownAt 10 = .ok (.getfield 9, 3) := by decide +kernel
theorem dX0_shownAt_13 : decode cX0_shownAt 13 = .ok (.ifCond .gt 5, 3) := by decide +kernel
theorem dX0_shownAt_16 : decode cX0_shownAt 16 = .ok (.iload_n 3, 1) := by decide +kernel
theorem dX0_shownAt_17 : decode cX0_shownAt 17 = .ok (.ireturn, 1) := by decide +kernel
theorem dX0_shownAt_18 : decode cX0_shownAt 18 = .ok (.aload_n 0, 1) := by decide +kernel
theorem dX0_shownAt_19 : decode cX0_shownAt 19 = .ok (.getfield 23, 3) := by decide +kernel
theorem dX0_shownAt_22 : decode cX0_shownAt 22 = .ok (.iload_n 1, 1) := by decide +kernel
theorem dX0_shownAt_23 : decode cX0_shownAt 23 = .ok (.iaload, 1) := by decide +kernel
theorem dX0_shownAt_24 : decode cX0_shownAt 24 = .ok (.istore 4, 2) := by decide +kernel
theorem dX0_shownAt_26 : decode cX0_shownAt 26 = .ok (.iload 4, 2) := by decide +kernel
theorem dX0_shownAt_28 : decode cX0_shownAt 28 = .ok (.ifCond .eq 20, 3) := by decide +kernel
theorem dX0_shownAt_31 : decode cX0_shownAt 31 = .ok (.iload_n 2, 1) := by decide +kernel
theorem dX0_shownAt_32 : decode cX0_shownAt 32 = .ok (.ifCond .lt 16, 3) := by decide +kernel
theorem dX0_shownAt_35 : decode cX0_shownAt 35 = .ok (.iload_n 2, 1) := by decide +kernel
theorem dX0_shownAt_36 : decode cX0_shownAt 36 = .ok (.aload_n 0, 1) := by decide +kernel
theorem dX0_shownAt_37 : decode cX0_shownAt 37 = .ok (.getfield 9, 3) := by decide +kernel
theorem dX0_shownAt_40 : decode cX0_shownAt 40 = .ok (.aload_n 0, 1) := by decide +kernel
theorem dX0_shownAt_41 : decode cX0_shownAt 41 = .ok (.getfield 15, 3) := by decide +kernel
theorem dX0_shownAt_44 : decode cX0_shownAt 44 = .ok (.imul, 1) := by decide +kernel
theorem dX0_shownAt_45 : decode cX0_shownAt 45 = .ok (.if_icmp .lt 5, 3) := by decide +kernel
theorem dX0_shownAt_48 : decode cX0_shownAt 48 = .ok (.iload_n 3, 1) := by decide +kernel
theorem dX0_shownAt_49 : decode cX0_shownAt 49 = .ok (.ireturn, 1) := by decide +kernel
theorem dX0_shownAt_50 : decode cX0_shownAt 50 = .ok (.iload_n 2, 1) := by decide +kernel
theorem dX0_shownAt_51 : decode cX0_shownAt 51 = .ok (.aload_n 0, 1) := by decide +kernel
theorem dX0_shownAt_52 : decode cX0_shownAt 52 = .ok (.getfield 9, 3) := by decide +kernel
theorem dX0_shownAt_55 : decode cX0_shownAt 55 = .ok (.irem, 1) := by decide +kernel
theorem dX0_shownAt_56 : decode cX0_shownAt 56 = .ok (.istore 5, 2) := by decide +kernel
theorem dX0_shownAt_58 : decode cX0_shownAt 58 = .ok (.bipush 10, 2) := by decide +kernel
theorem dX0_shownAt_60 : decode cX0_shownAt 60 = .ok (.aload_n 0, 1) := by decide +kernel
theorem dX0_shownAt_61 : decode cX0_shownAt 61 = .ok (.getfield 37, 3) := by decide +kernel
theorem dX0_shownAt_64 : decode cX0_shownAt 64 = .ok (.ifCond .eq 25, 3) := by decide +kernel
theorem dX0_shownAt_67 : decode cX0_shownAt 67 = .ok (.iload_n 2, 1) := by decide +kernel
theorem dX0_shownAt_68 : decode cX0_shownAt 68 = .ok (.aload_n 0, 1) := by decide +kernel
theorem dX0_shownAt_69 : decode cX0_shownAt 69 = .ok (.getfield 9, 3) := by decide +kernel
theorem dX0_shownAt_72 : decode cX0_shownAt 72 = .ok (.idiv, 1) := by decide +kernel
theorem dX0_shownAt_73 : decode cX0_shownAt 73 = .ok (.iconst 2, 1) := by decide +kernel
theorem dX0_shownAt_74 : decode cX0_shownAt 74 = .ok (.irem, 1) := by decide +kernel
theorem dX0_shownAt_75 : decode cX0_shownAt 75 = .ok (.iconst 1, 1) := by decide +kernel
theorem dX0_shownAt_76 : decode cX0_shownAt 76 = .ok (.if_icmp .ne 13, 3) := by decide +kernel
theorem dX0_shownAt_79 : decode cX0_shownAt 79 = .ok (.aload_n 0, 1) := by decide +kernel
theorem dX0_shownAt_80 : decode cX0_shownAt 80 = .ok (.getfield 9, 3) := by decide +kernel
theorem dX0_shownAt_83 : decode cX0_shownAt 83 = .ok (.iload 5, 2) := by decide +kernel
theorem dX0_shownAt_85 : decode cX0_shownAt 85 = .ok (.isub, 1) := by decide +kernel
theorem dX0_shownAt_86 : decode cX0_shownAt 86 = .ok (.goto 5, 3) := by decide +kernel
theorem dX0_shownAt_89 : decode cX0_shownAt 89 = .ok (.iload 5, 2) := by decide +kernel
theorem dX0_shownAt_91 : decode cX0_shownAt 91 = .ok (.imul, 1) := by decide +kernel
theorem dX0_shownAt_92 : decode cX0_shownAt 92 = .ok (.istore 6, 2) := by decide +kernel
theorem dX0_shownAt_94 : decode cX0_shownAt 94 = .ok (.iload_n 3, 1) := by decide +kernel
theorem dX0_shownAt_95 : decode cX0_shownAt 95 = .ok (.ldc 41, 2) := by decide +kernel
theorem dX0_shownAt_97 : decode cX0_shownAt 97 = .ok (.if_icmp .ne 7, 3) := by decide +kernel
theorem dX0_shownAt_100 : decode cX0_shownAt 100 = .ok (.iconst 0, 1) := by decide +kernel
theorem dX0_shownAt_101 : decode cX0_shownAt 101 = .ok (.goto 4, 3) := by decide +kernel
theorem dX0_shownAt_104 : decode cX0_shownAt 104 = .ok (.iload_n 3, 1) := by decide +kernel
theorem dX0_shownAt_105 : decode cX0_shownAt 105 = .ok (.istore 7, 2) := by decide +kernel
theorem dX0_shownAt_107 : decode cX0_shownAt 107 = .ok (.iconst 0, 1) := by decide +kernel
theorem dX0_shownAt_108 : decode cX0_shownAt 108 = .ok (.istore 8, 2) := by decide +kernel
theorem dX0_shownAt_110 : decode cX0_shownAt 110 = .ok (.iload 7, 2) := by decide +kernel
theorem dX0_shownAt_112 : decode cX0_shownAt 112 = .ok (.istore 9, 2) := by decide +kernel
theorem dX0_shownAt_114 : decode cX0_shownAt 114 = .ok (.bipush 10, 2) := by decide +kernel
theorem dX0_shownAt_116 : decode cX0_shownAt 116 = .ok (.istore 10, 2) := by decide +kernel
theorem dX0_shownAt_118 : decode cX0_shownAt 118 = .ok (.iload 7, 2) := by decide +kernel
theorem dX0_shownAt_120 : decode cX0_shownAt 120 = .ok (.istore 11, 2) := by decide +kernel
theorem dX0_shownAt_122 : decode cX0_shownAt 122 = .ok (.iconst 0, 1) := by decide +kernel
theorem dX0_shownAt_123 : decode cX0_shownAt 123 = .ok (.istore 12, 2) := by decide +kernel
theorem dX0_shownAt_125 : decode cX0_shownAt 125 = .ok (.iload 12, 2) := by decide +kernel
theorem dX0_shownAt_127 : decode cX0_shownAt 127 = .ok (.bipush 10, 2) := by decide +kernel
theorem dX0_shownAt_129 : decode cX0_shownAt 129 = .ok (.if_icmp .gt 46, 3) := by decide +kernel
theorem dX0_shownAt_132 : decode cX0_shownAt 132 = .ok (.iload 4, 2) := by decide +kernel
theorem dX0_shownAt_134 : decode cX0_shownAt 134 = .ok (.iload 12, 2) := by decide +kernel
theorem dX0_shownAt_136 : decode cX0_shownAt 136 = .ok (.ishr, 1) := by decide +kernel
theorem dX0_shownAt_137 : decode cX0_shownAt 137 = .ok (.iconst 1, 1) := by decide +kernel
theorem dX0_shownAt_138 : decode cX0_shownAt 138 = .ok (.iand, 1) := by decide +kernel
theorem dX0_shownAt_139 : decode cX0_shownAt 139 = .ok (.ifCond .eq 30, 3) := by decide +kernel
theorem dX0_shownAt_142 : decode cX0_shownAt 142 = .ok (.iload 12, 2) := by decide +kernel
theorem dX0_shownAt_144 : decode cX0_shownAt 144 = .ok (.aload_n 0, 1) := by decide +kernel
theorem dX0_shownAt_145 : decode cX0_shownAt 145 = .ok (.getfield 9, 3) := by decide +kernel
theorem dX0_shownAt_148 : decode cX0_shownAt 148 = .ok (.imul, 1) := by decide +kernel
theorem dX0_shownAt_149 : decode cX0_shownAt 149 = .ok (.iload 6, 2) := by decide +kernel
theorem dX0_shownAt_151 : decode cX0_shownAt 151 = .ok (.if_icmp .gt 18, 3) := by decide +kernel
theorem dX0_shownAt_154 : decode cX0_shownAt 154 = .ok (.iload 12, 2) := by decide +kernel
theorem dX0_shownAt_156 : decode cX0_shownAt 156 = .ok (.istore 8, 2) := by decide +kernel
theorem dX0_shownAt_158 : decode cX0_shownAt 158 = .ok (.aload_n 0, 1) := by decide +kernel
theorem dX0_shownAt_159 : decode cX0_shownAt 159 = .ok (.getfield 20, 3) := by decide +kernel
theorem dX0_shownAt_162 : decode cX0_shownAt 162 = .ok (.iload_n 1, 1) := by decide +kernel
theorem dX0_shownAt_163 : decode cX0_shownAt 163 = .ok (.aaload, 1) := by decide +kernel
theorem dX0_shownAt_164 : decode cX0_shownAt 164 = .ok (.iload 12, 2) := by decide +kernel
theorem dX0_shownAt_166 : decode cX0_shownAt 166 = .ok (.iaload, 1) := by decide +kernel
theorem dX0_shownAt_167 : decode cX0_shownAt 167 = .ok (.istore 9, 2) := by decide +kernel
theorem dX0_shownAt_169 : decode cX0_shownAt 169 = .ok (.iinc 12 1, 3) := by decide +kernel
theorem dX0_shownAt_172 : decode cX0_shownAt 172 = .ok (.goto (-47), 3) := by decide +kernel
theorem dX0_shownAt_175 : decode cX0_shownAt 175 = .ok (.bipush 10, 2) := by decide +kernel
theorem dX0_shownAt_177 : decode cX0_shownAt 177 = .ok (.istore 12, 2) := by decide +kernel
theorem dX0_shownAt_179 : decode cX0_shownAt 179 = .ok (.iload 12, 2) := by decide +kernel
theorem dX0_shownAt_181 : decode cX0_shownAt 181 = .ok (.ifCond .lt 46, 3) := by decide +kernel
theorem dX0_shownAt_184 : decode cX0_shownAt 184 = .ok (.iload 4, 2) := by decide +kernel
theorem dX0_shownAt_186 : decode cX0_shownAt 186 = .ok (.iload 12, 2) := by decide +kernel
theorem dX0_shownAt_188 : decode cX0_shownAt 188 = .ok (.ishr, 1) := by decide +kernel
theorem dX0_shownAt_189 : decode cX0_shownAt 189 = .ok (.iconst 1, 1) := by decide +kernel
theorem dX0_shownAt_190 : decode cX0_shownAt 190 = .ok (.iand, 1) := by decide +kernel
theorem dX0_shownAt_191 : decode cX0_shownAt 191 = .ok (.ifCond .eq 30, 3) := by decide +kernel
theorem dX0_shownAt_194 : decode cX0_shownAt 194 = .ok (.iload 12, 2) := by decide +kernel
theorem dX0_shownAt_196 : decode cX0_shownAt 196 = .ok (.aload_n 0, 1) := by decide +kernel
theorem dX0_shownAt_197 : decode cX0_shownAt 197 = .ok (.getfield 9, 3) := by decide +kernel
theorem dX0_shownAt_200 : decode cX0_shownAt 200 = .ok (.imul, 1) := by decide +kernel
theorem dX0_shownAt_201 : decode cX0_shownAt 201 = .ok (.iload 6, 2) := by decide +kernel
theorem dX0_shownAt_203 : decode cX0_shownAt 203 = .ok (.if_icmp .le 18, 3) := by decide +kernel
theorem dX0_shownAt_206 : decode cX0_shownAt 206 = .ok (.iload 12, 2) := by decide +kernel
theorem dX0_shownAt_208 : decode cX0_shownAt 208 = .ok (.istore 10, 2) := by decide +kernel
theorem dX0_shownAt_210 : decode cX0_shownAt 210 = .ok (.aload_n 0, 1) := by decide +kernel
theorem dX0_shownAt_211 : decode cX0_shownAt 211 = .ok (.getfield 20, 3) := by decide +kernel
theorem dX0_shownAt_214 : decode cX0_shownAt 214 = .ok (.iload_n 1, 1) := by decide +kernel
theorem dX0_shownAt_215 : decode cX0_shownAt 215 = .ok (.aaload, 1) := by decide +kernel
theorem dX0_shownAt_216 : decode cX0_shownAt 216 = .ok (.iload 12, 2) := by decide +kernel
theorem dX0_shownAt_218 : decode cX0_shownAt 218 = .ok (.iaload, 1) := by decide +kernel
theorem dX0_shownAt_219 : decode cX0_shownAt 219 = .ok (.istore 11, 2) := by decide +kernel
theorem dX0_shownAt_221 : decode cX0_shownAt 221 = .ok (.iinc 12 (-1), 3) := by decide +kernel
theorem dX0_shownAt_224 : decode cX0_shownAt 224 = .ok (.goto (-45), 3) := by decide +kernel
theorem dX0_shownAt_227 : decode cX0_shownAt 227 = .ok (.iload 10, 2) := by decide +kernel
theorem dX0_shownAt_229 : decode cX0_shownAt 229 = .ok (.iload 8, 2) := by decide +kernel
theorem dX0_shownAt_231 : decode cX0_shownAt 231 = .ok (.isub, 1) := by decide +kernel
theorem dX0_shownAt_232 : decode cX0_shownAt 232 = .ok (.aload_n 0, 1) := by decide +kernel
theorem dX0_shownAt_233 : decode cX0_shownAt 233 = .ok (.getfield 9, 3) := by decide +kernel
theorem dX0_shownAt_236 : decode cX0_shownAt 236 = .ok (.imul, 1) := by decide +kernel
theorem dX0_shownAt_237 : decode cX0_shownAt 237 = .ok (.istore 12, 2) := by decide +kernel
theorem dX0_shownAt_239 : decode cX0_shownAt 239 = .ok (.iload 12, 2) := by decide +kernel
theorem dX0_shownAt_241 : decode cX0_shownAt 241 = .ok (.ifCond .gt 8, 3) := by decide +kernel
theorem dX0_shownAt_244 : decode cX0_shownAt 244 = .ok (.iload 9, 2) := by decide +kernel
theorem dX0_shownAt_246 : decode cX0_shownAt 246 = .ok (.goto 29, 3) := by decide +kernel
theorem dX0_shownAt_249 : decode cX0_shownAt 249 = .ok (.iload 9, 2) := by decide +kernel
theorem dX0_shownAt_251 : decode cX0_shownAt 251 = .ok (.iload 11, 2) := by decide +kernel
theorem dX0_shownAt_253 : decode cX0_shownAt 253 = .ok (.iload 9, 2) := by decide +kernel
theorem dX0_shownAt_255 : decode cX0_shownAt 255 = .ok (.isub, 1) := by decide +kernel
theorem dX0_shownAt_256 : decode cX0_shownAt 256 = .ok (.i2l, 1) := by decide +kernel
theorem dX0_shownAt_257 : decode cX0_shownAt 257 = .ok (.iload 6, 2) := by decide +kernel
theorem dX0_shownAt_259 : decode cX0_shownAt 259 = .ok (.iload 8, 2) := by decide +kernel
theorem dX0_shownAt_261 : decode cX0_shownAt 261 = .ok (.aload_n 0, 1) := by decide +kernel
theorem dX0_shownAt_262 : decode cX0_shownAt 262 = .ok (.getfield 9, 3) := by decide +kernel
theorem dX0_shownAt_265 : decode cX0_shownAt 265 = .ok (.imul, 1) := by decide +kernel
theorem dX0_shownAt_266 : decode cX0_shownAt 266 = .ok (.isub, 1) := by decide +kernel
theorem dX0_shownAt_267 : decode cX0_shownAt 267 = .ok (.i2l, 1) := by decide +kernel
theorem dX0_shownAt_268 : decode cX0_shownAt 268 = .ok (.lmul, 1) := by decide +kernel
theorem dX0_shownAt_269 : decode cX0_shownAt 269 = .ok (.iload 12, 2) := by decide +kernel
theorem dX0_shownAt_271 : decode cX0_shownAt 271 = .ok (.i2l, 1) := by decide +kernel
theorem dX0_shownAt_272 : decode cX0_shownAt 272 = .ok (.ldiv, 1) := by decide +kernel
theorem dX0_shownAt_273 : decode cX0_shownAt 273 = .ok (.l2i, 1) := by decide +kernel
theorem dX0_shownAt_274 : decode cX0_shownAt 274 = .ok (.iadd, 1) := by decide +kernel
theorem dX0_shownAt_275 : decode cX0_shownAt 275 = .ok (.ireturn, 1) := by decide +kernel
theorem dX1_init_0 : decode cX1_init 0 = .ok (.aload_n 0, 1) := by decide +kernel
theorem dX1_init_1 : decode cX1_init 1 = .ok (.invokespecial 3, 3) := by decide +kernel
theorem dX1_init_4 : decode cX1_init 4 = .ok (.aload_n 0, 1) := by decide +kernel
theorem dX1_init_5 : decode cX1_init 5 = .ok (.bipush 8, 2) := by decide +kernel
theorem dX1_init_7 : decode cX1_init 7 = .ok (.anewarray 9, 3) := by decide +kernel
theorem dX1_init_10 : decode cX1_init 10 = .ok (.putfield 11, 3) := by decide +kernel
theorem dX1_init_13 : decode cX1_init 13 = .ok (.aload_n 0, 1) := by decide +kernel
theorem dX1_init_14 : decode cX1_init 14 = .ok (.bipush 40, 2) := by decide +kernel
theorem dX1_init_16 : decode cX1_init 16 = .ok (.anewarray 17, 3) := by decide +kernel
theorem dX1_init_19 : decode cX1_init 19 = .ok (.putfield 19, 3) := by decide +kernel
theorem dX1_init_22 : decode cX1_init 22 = .ok (.aload_n 0, 1) := by decide +kernel
theorem dX1_init_23 : decode cX1_init 23 = .ok (.sipush 1000, 3) := by decide +kernel
theorem dX1_init_26 : decode cX1_init 26 = .ok (.putfield 23, 3) := by decide +kernel
theorem dX1_init_29 : decode cX1_init 29 = .ok (.aload_n 0, 1) := by decide +kernel
theorem dX1_init_30 : decode cX1_init 30 = .ok (.bipush 15, 2) := by decide +kernel
theorem dX1_init_32 : decode cX1_init 32 = .ok (.anewarray 17, 3) := by decide +kernel
theorem dX1_init_35 : decode cX1_init 35 = .ok (.putfield 27, 3) := by decide +kernel
theorem dX1_init_38 : decode cX1_init 38 = .ok (.aload_n 0, 1) := by decide +kernel
theorem dX1_init_39 : decode cX1_init 39 = .ok (.aload_n 1, 1) := by decide +kernel
theorem dX1_init_40 : decode cX1_init 40 = .ok (.putfield 30, 3) := by decide +kernel
theorem dX1_init_43 : decode cX1_init 43 = .ok (.aload_n 0, 1) := by decide +kernel
theorem dX1_init_44 : decode cX1_init 44 = .ok (.aload_n 2, 1) := by decide +kernel
theorem dX1_init_45 : decode cX1_init 45 = .ok (.putfield 34, 3) := by decide +kernel
theorem dX1_init_48 : decode cX1_init 48 = .ok (.return_, 1) := by decide +kernel
theorem dX1_sheetAt_0 : decode cX1_sheetAt 0 = .ok (.iload_n 1, 1) := by decide +kernel
theorem dX1_sheetAt_1 : decode cX1_sheetAt 1 = .ok (.ifCond .lt 26, 3) := by decide +kernel
theorem dX1_sheetAt_4 : decode cX1_sheetAt 4 = .ok (.iload_n 1, 1) := by decide +kernel
theorem dX1_sheetAt_5 : decode cX1_sheetAt 5 = .ok (.aload_n 0, 1) := by decide +kernel
theorem dX1_sheetAt_6 : decode cX1_sheetAt 6 = .ok (.getfield 38, 3) := by decide +kernel
theorem dX1_sheetAt_9 : decode cX1_sheetAt 9 = .ok (.if_icmp .ge 18, 3) := by decide +kernel
theorem dX1_sheetAt_12 : decode cX1_sheetAt 12 = .ok (.iload_n 1, 1) := by decide +kernel
theorem dX1_sheetAt_13 : decode cX1_sheetAt 13 = .ok (.bipush 8, 2) := by decide +kernel
theorem dX1_sheetAt_15 : decode cX1_sheetAt 15 = .ok (.if_icmp .ge 12, 3) := by decide +kernel
theorem dX1_sheetAt_18 : decode cX1_sheetAt 18 = .ok (.aload_n 0, 1) := by decide +kernel
theorem dX1_sheetAt_19 : decode cX1_sheetAt 19 = .ok (.getfield 11, 3) := by decide +kernel
theorem dX1_sheetAt_22 : decode cX1_sheetAt 22 = .ok (.iload_n 1, 1) := by decide +kernel
theorem dX1_sheetAt_23 : decode cX1_sheetAt 23 = .ok (.aaload, 1) := by decide +kernel
theorem dX1_sheetAt_24 : decode cX1_sheetAt 24 = .ok (.goto 4, 3) := by decide +kernel
theorem dX1_sheetAt_27 : decode cX1_sheetAt 27 = .ok (.aconst_null, 1) := by decide +kernel
theorem dX1_sheetAt_28 : decode cX1_sheetAt 28 = .ok (.areturn, 1) := by decide +kernel
theorem dX1_ruleAt_0 : decode cX1_ruleAt 0 = .ok (.iload_n 1, 1) := by decide +kernel
theorem dX1_ruleAt_1 : decode cX1_ruleAt 1 = .ok (.ifCond .lt 26, 3) := by decide +kernel
theorem dX1_ruleAt_4 : decode cX1_ruleAt 4 = .ok (.iload_n 1, 1) := by decide +kernel
theorem dX1_ruleAt_5 : decode cX1_ruleAt 5 = .ok (.aload_n 0, 1) := by decide +kernel
theorem dX1_ruleAt_6 : decode cX1_ruleAt 6 = .ok (.getfield 41, 3) := by decide +kernel
theorem dX1_ruleAt_9 : decode cX1_ruleAt 9 = .ok (.if_icmp .ge 18, 3) := by decide +kernel
theorem dX1_ruleAt_12 : decode cX1_ruleAt 12 = .ok (.iload_n 1, 1) := by decide +kernel
theorem dX1_ruleAt_13 : decode cX1_ruleAt 13 = .ok (.bipush 40, 2) := by decide +kernel
theorem dX1_ruleAt_15 : decode cX1_ruleAt 15 = .ok (.if_icmp .ge 12, 3) := by decide +kernel
theorem dX1_ruleAt_18 : decode cX1_ruleAt 18 = .ok (.aload_n 0, 1) := by decide +kernel
theorem dX1_ruleAt_19 : decode cX1_ruleAt 19 = .ok (.getfield 19, 3) := by decide +kernel
theorem dX1_ruleAt_22 : decode cX1_ruleAt 22 = .ok (.iload_n 1, 1) := by decide +kernel
theorem dX1_ruleAt_23 : decode cX1_ruleAt 23 = .ok (.aaload, 1) := by decide +kernel
theorem dX1_ruleAt_24 : decode cX1_ruleAt 24 = .ok (.goto 4, 3) := by decide +kernel
theorem dX1_ruleAt_27 : decode cX1_ruleAt 27 = .ok (.aconst_null, 1) := by decide +kernel
theorem dX1_ruleAt_28 : decode cX1_ruleAt 28 = .ok (.areturn, 1) := by decide +kernel
theorem dX8_init_0 : decode cX8_init 0 = .ok (.aload_n 0, 1) := by decide +kernel
theorem dX8_init_1 : decode cX8_init 1 = .ok (.invokespecial 1, 3) := by decide +kernel
theorem dX8_init_4 : decode cX8_init 4 = .ok (.aload_n 0, 1) := by decide +kernel
theorem dX8_init_5 : decode cX8_init 5 = .ok (.iconst 1, 1) := by decide +kernel
theorem dX8_init_6 : decode cX8_init 6 = .ok (.putfield 7, 3) := by decide +kernel
theorem dX8_init_9 : decode cX8_init 9 = .ok (.aload_n 0, 1) := by decide +kernel
theorem dX8_init_10 : decode cX8_init 10 = .ok (.iload_n 1, 1) := by decide +kernel
theorem dX8_init_11 : decode cX8_init 11 = .ok (.putfield 13, 3) := by decide +kernel
theorem dX8_init_14 : decode cX8_init 14 = .ok (.aload_n 0, 1) := by decide +kernel
theorem dX8_init_15 : decode cX8_init 15 = .ok (.iload_n 2, 1) := by decide +kernel
theorem dX8_init_16 : decode cX8_init 16 = .ok (.putfield 17, 3) := by decide +kernel
theorem dX8_init_19 : decode cX8_init 19 = .ok (.aload_n 0, 1) := by decide +kernel
theorem dX8_init_20 : decode cX8_init 20 = .ok (.aload_n 3, 1) := by decide +kernel
theorem dX8_init_21 : decode cX8_init 21 = .ok (.putfield 20, 3) := by decide +kernel
theorem dX8_init_24 : decode cX8_init 24 = .ok (.aload_n 0, 1) := by decide +kernel
theorem dX8_init_25 : decode cX8_init 25 = .ok (.iload 4, 2) := by decide +kernel
theorem dX8_init_27 : decode cX8_init 27 = .ok (.putfield 24, 3) := by decide +kernel
theorem dX8_init_30 : decode cX8_init 30 = .ok (.return_, 1) := by decide +kernel
theorem dX1_addSheet_0 : decode cX1_addSheet 0 = .ok (.aload_n 0, 1) := by decide +kernel
theorem dX1_addSheet_1 : decode cX1_addSheet 1 = .ok (.getfield 38, 3) := by decide +kernel
theorem dX1_addSheet_4 : decode cX1_addSheet 4 = .ok (.bipush 8, 2) := by decide +kernel
theorem dX1_addSheet_6 : decode cX1_addSheet 6 = .ok (.if_icmp .ge 36, 3) := by decide +kernel
theorem dX1_addSheet_9 : decode cX1_addSheet 9 = .ok (.aload_n 0, 1) := by decide +kernel
theorem dX1_addSheet_10 : decode cX1_addSheet 10 = .ok (.getfield 11, 3) := by decide +kernel
theorem dX1_addSheet_13 : decode cX1_addSheet 13 = .ok (.aload_n 0, 1) := by decide +kernel
theorem dX1_addSheet_14 : decode cX1_addSheet 14 = .ok (.getfield 38, 3) := by decide +kernel
theorem dX1_addSheet_17 : decode cX1_addSheet 17 = .ok (.new 9, 3) := by decide +kernel
theorem dX1_addSheet_20 : decode cX1_addSheet 20 = .ok (.dup, 1) := by decide +kernel
theorem dX1_addSheet_21 : decode cX1_addSheet 21 = .ok (.aload_n 0, 1) := by decide +kernel
theorem dX1_addSheet_22 : decode cX1_addSheet 22 = .ok (.getfield 38, 3) := by decide +kernel
theorem dX1_addSheet_25 : decode cX1_addSheet 25 = .ok (.iload_n 1, 1) := by decide +kernel
theorem dX1_addSheet_26 : decode cX1_addSheet 26 = .ok (.aload_n 2, 1) := by decide +kernel
theorem dX1_addSheet_27 : decode cX1_addSheet 27 = .ok (.iload_n 3, 1) := by decide +kernel
theorem dX1_addSheet_28 : decode cX1_addSheet 28 = .ok (.invokespecial 44, 3) := by decide +kernel
theorem dX1_addSheet_31 : decode cX1_addSheet 31 = .ok (.aastore, 1) := by decide +kernel
theorem dX1_addSheet_32 : decode cX1_addSheet 32 = .ok (.aload_n 0, 1) := by decide +kernel
theorem dX1_addSheet_33 : decode cX1_addSheet 33 = .ok (.dup, 1) := by decide +kernel
theorem dX1_addSheet_34 : decode cX1_addSheet 34 = .ok (.getfield 38, 3) := by decide +kernel
theorem dX1_addSheet_37 : decode cX1_addSheet 37 = .ok (.iconst 1, 1) := by decide +kernel
theorem dX1_addSheet_38 : decode cX1_addSheet 38 = .ok (.iadd, 1) := by decide +kernel
theorem dX1_addSheet_39 : decode cX1_addSheet 39 = .ok (.putfield 38, 3) := by decide +kernel
theorem dX1_addSheet_42 : decode cX1_addSheet 42 = .ok (.aload_n 0, 1) := by decide +kernel
theorem dX1_addSheet_43 : decode cX1_addSheet 43 = .ok (.getfield 38, 3) := by decide +kernel
theorem dX1_addSheet_46 : decode cX1_addSheet 46 = .ok (.iconst 1, 1) := by decide +kernel
theorem dX1_addSheet_47 : decode cX1_addSheet 47 = .ok (.isub, 1) := by decide +kernel
theorem dX1_addSheet_48 : decode cX1_addSheet 48 = .ok (.ireturn, 1) := by decide +kernel
theorem dX6_init_0 : decode cX6_init 0 = .ok (.aload_n 0, 1) := by decide +kernel
theorem dX6_init_1 : decode cX6_init 1 = .ok (.invokespecial 3, 3) := by decide +kernel
theorem dX6_init_4 : decode cX6_init 4 = .ok (.aload_n 0, 1) := by decide +kernel
theorem dX6_init_5 : decode cX6_init 5 = .ok (.iconst (-1), 1) := by decide +kernel
theorem dX6_init_6 : decode cX6_init 6 = .ok (.putfield 9, 3) := by decide +kernel
theorem dX6_init_9 : decode cX6_init 9 = .ok (.aload_n 0, 1) := by decide +kernel
theorem dX6_init_10 : decode cX6_init 10 = .ok (.bipush 15, 2) := by decide +kernel
theorem dX6_init_12 : decode cX6_init 12 = .ok (.newarray .int, 2) := by decide +kernel
theorem dX6_init_14 : decode cX6_init 14 = .ok (.putfield 15, 3) := by decide +kernel
theorem dX6_init_17 : decode cX6_init 17 = .ok (.aload_n 0, 1) := by decide +kernel
theorem dX6_init_18 : decode cX6_init 18 = .ok (.bipush 15, 2) := by decide +kernel
theorem dX6_init_20 : decode cX6_init 20 = .ok (.newarray .int, 2) := by decide +kernel
theorem dX6_init_22 : decode cX6_init 22 = .ok (.putfield 19, 3) := by decide +kernel
theorem dX6_init_25 : decode cX6_init 25 = .ok (.aload_n 0, 1) := by decide +kernel
theorem dX6_init_26 : decode cX6_init 26 = .ok (.bipush 15, 2) := by decide +kernel
theorem dX6_init_28 : decode cX6_init 28 = .ok (.newarray .int, 2) := by decide +kernel
theorem dX6_init_30 : decode cX6_init 30 = .ok (.putfield 22, 3) := by decide +kernel
theorem dX6_init_33 : decode cX6_init 33 = .ok (.aload_n 0, 1) := by decide +kernel
theorem dX6_init_34 : decode cX6_init 34 = .ok (.bipush 15, 2) := by decide +kernel
theorem dX6_init_36 : decode cX6_init 36 = .ok (.newarray .int, 2) := by decide +kernel
theorem dX6_init_38 : decode cX6_init 38 = .ok (.putfield 25, 3) := by decide +kernel
theorem dX6_init_41 : decode cX6_init 41 = .ok (.aload_n 0, 1) := by decide +kernel
theorem dX6_init_42 : decode cX6_init 42 = .ok (.iload_n 1, 1) := by decide +kernel
theorem dX6_init_43 : decode cX6_init 43 = .ok (.putfield 28, 3) := by decide +kernel
theorem dX6_init_46 : decode cX6_init 46 = .ok (.aload_n 0, 1) := by decide +kernel
theorem dX6_init_47 : decode cX6_init 47 = .ok (.aload_n 2, 1) := by decide +kernel
theorem dX6_init_48 : decode cX6_init 48 = .ok (.putfield 31, 3) := by decide +kernel
theorem dX6_init_51 : decode cX6_init 51 = .ok (.aload_n 0, 1) := by decide +kernel
theorem dX6_init_52 : decode cX6_init 52 = .ok (.aload_n 3, 1) := by decide +kernel
theorem dX6_init_53 : decode cX6_init 53 = .ok (.putfield 35, 3) := by decide +kernel
theorem dX6_init_56 : decode cX6_init 56 = .ok (.aload_n 0, 1) := by decide +kernel
theorem dX6_init_57 : decode cX6_init 57 = .ok (.aload_n 2, 1) := by decide +kernel
theorem dX6_init_58 : decode cX6_init 58 = .ok (.ifnonnull 7, 3) := by decide +kernel
theorem dX6_init_61 : decode cX6_init 61 = .ok (.iconst 2, 1) := by decide +kernel
theorem dX6_init_62 : decode cX6_init 62 = .ok (.goto 7, 3) := by decide +kernel
theorem dX6_init_65 : decode cX6_init 65 = .ok (.aload_n 2, 1) := by decide +kernel
theorem dX6_init_66 : decode cX6_init 66 = .ok (.getfield 39, 3) := by decide +kernel
theorem dX6_init_69 : decode cX6_init 69 = .ok (.putfield 44, 3) := by decide +kernel
theorem dX6_init_72 : decode cX6_init 72 = .ok (.return_, 1) := by decide +kernel
theorem dX1_addRule_0 : decode cX1_addRule 0 = .ok (.aload_n 0, 1) := by decide +kernel
theorem dX1_addRule_1 : decode cX1_addRule 1 = .ok (.getfield 41, 3) := by decide +kernel
theorem dX1_addRule_4 : decode cX1_addRule 4 = .ok (.bipush 40, 2) := by decide +kernel
theorem dX1_addRule_6 : decode cX1_addRule 6 = .ok (.if_icmp .ge 117, 3) := by decide +kernel
theorem dX1_addRule_9 : decode cX1_addRule 9 = .ok (.new 17, 3) := by decide +kernel
theorem dX1_addRule_12 : decode cX1_addRule 12 = .ok (.dup, 1) := by decide +kernel
theorem dX1_addRule_13 : decode cX1_addRule 13 = .ok (.aload_n 0, 1) := by decide +kernel
theorem dX1_addRule_14 : decode cX1_addRule 14 = .ok (.getfield 41, 3) := by decide +kernel
theorem dX1_addRule_17 : decode cX1_addRule 17 = .ok (.aload_n 1, 1) := by decide +kernel
theorem dX1_addRule_18 : decode cX1_addRule 18 = .ok (.aload_n 2, 1) := by decide +kernel
theorem dX1_addRule_19 : decode cX1_addRule 19 = .ok (.invokespecial 47, 3) := by decide +kernel
theorem dX1_addRule_22 : decode cX1_addRule 22 = .ok (.astore_n 3, 1) := by decide +kernel
theorem dX1_addRule_23 : decode cX1_addRule 23 = .ok (.aload_n 0, 1) := by decide +kernel
theorem dX1_addRule_24 : decode cX1_addRule 24 = .ok (.getfield 19, 3) := by decide +kernel
theorem dX1_addRule_27 : decode cX1_addRule 27 = .ok (.aload_n 0, 1) := by decide +kernel
theorem dX1_addRule_28 : decode cX1_addRule 28 = .ok (.getfield 41, 3) := by decide +kernel
theorem dX1_addRule_31 : decode cX1_addRule 31 = .ok (.aload_n 3, 1) := by decide +kernel
theorem dX1_addRule_32 : decode cX1_addRule 32 = .ok (.aastore, 1) := by decide +kernel
theorem dX1_addRule_33 : decode cX1_addRule 33 = .ok (.aload_n 0, 1) := by decide +kernel
theorem dX1_addRule_34 : decode cX1_addRule 34 = .ok (.dup, 1) := by decide +kernel
theorem dX1_addRule_35 : decode cX1_addRule 35 = .ok (.getfield 41, 3) := by decide +kernel
theorem dX1_addRule_38 : decode cX1_addRule 38 = .ok (.iconst 1, 1) := by decide +kernel
theorem dX1_addRule_39 : decode cX1_addRule 39 = .ok (.iadd, 1) := by decide +kernel
theorem dX1_addRule_40 : decode cX1_addRule 40 = .ok (.putfield 41, 3) := by decide +kernel
theorem dX1_addRule_43 : decode cX1_addRule 43 = .ok (.aload_n 0, 1) := by decide +kernel
theorem dX1_addRule_44 : decode cX1_addRule 44 = .ok (.getfield 50, 3) := by decide +kernel
theorem dX1_addRule_47 : decode cX1_addRule 47 = .ok (.ifnonnull 11, 3) := by decide +kernel
theorem dX1_addRule_50 : decode cX1_addRule 50 = .ok (.aload_n 0, 1) := by decide +kernel
theorem dX1_addRule_51 : decode cX1_addRule 51 = .ok (.aload_n 3, 1) := by decide +kernel
theorem dX1_addRule_52 : decode cX1_addRule 52 = .ok (.putfield 54, 3) := by decide +kernel
theorem dX1_addRule_55 : decode cX1_addRule 55 = .ok (.goto 11, 3) := by decide +kernel
theorem dX1_addRule_58 : decode cX1_addRule 58 = .ok (.aload_n 0, 1) := by decide +kernel
theorem dX1_addRule_59 : decode cX1_addRule 59 = .ok (.getfield 50, 3) := by decide +kernel
theorem dX1_addRule_62 : decode cX1_addRule 62 = .ok (.aload_n 3, 1) := by decide +kernel
theorem dX1_addRule_63 : decode cX1_addRule 63 = .ok (.putfield 57, 3) := by decide +kernel
theorem dX1_addRule_66 : decode cX1_addRule 66 = .ok (.aload_n 0, 1) := by decide +kernel
theorem dX1_addRule_67 : decode cX1_addRule 67 = .ok (.aload_n 3, 1) := by decide +kernel
theorem dX1_addRule_68 : decode cX1_addRule 68 = .ok (.putfield 50, 3) := by decide +kernel
theorem dX1_addRule_71 : decode cX1_addRule 71 = .ok (.aload_n 0, 1) := by decide +kernel
theorem dX1_addRule_72 : decode cX1_addRule 72 = .ok (.dup, 1) := by decide +kernel
theorem dX1_addRule_73 : decode cX1_addRule 73 = .ok (.getfield 60, 3) := by decide +kernel
theorem dX1_addRule_76 : decode cX1_addRule 76 = .ok (.aload_n 2, 1) := by decide +kernel
theorem dX1_addRule_77 : decode cX1_addRule 77 = .ok (.getfield 63, 3) := by decide +kernel
theorem dX1_addRule_80 : decode cX1_addRule 80 = .ok (.ior, 1) := by decide +kernel
theorem dX1_addRule_81 : decode cX1_addRule 81 = .ok (.putfield 60, 3) := by decide +kernel
theorem dX1_addRule_84 : decode cX1_addRule 84 = .ok (.aload_n 0, 1) := by decide +kernel
theorem dX1_addRule_85 : decode cX1_addRule 85 = .ok (.dup, 1) := by decide +kernel
theorem dX1_addRule_86 : decode cX1_addRule 86 = .ok (.getfield 66, 3) := by decide +kernel
theorem dX1_addRule_89 : decode cX1_addRule 89 = .ok (.aload_n 2, 1) := by decide +kernel
theorem dX1_addRule_90 : decode cX1_addRule 90 = .ok (.getfield 69, 3) := by decide +kernel
theorem dX1_addRule_93 : decode cX1_addRule 93 = .ok (.ior, 1) := by decide +kernel
theorem dX1_addRule_94 : decode cX1_addRule 94 = .ok (.putfield 66, 3) := by decide +kernel
theorem dX1_addRule_97 : decode cX1_addRule 97 = .ok (.aload_n 0, 1) := by decide +kernel
theorem dX1_addRule_98 : decode cX1_addRule 98 = .ok (.dup, 1) := by decide +kernel
theorem dX1_addRule_99 : decode cX1_addRule 99 = .ok (.getfield 70, 3) := by decide +kernel
theorem dX1_addRule_102 : decode cX1_addRule 102 = .ok (.aload_n 2, 1) := by decide +kernel
theorem dX1_addRule_103 : decode cX1_addRule 103 = .ok (.getfield 74, 3) := by decide +kernel
theorem dX1_addRule_106 : decode cX1_addRule 106 = .ok (.ior, 1) := by decide +kernel
theorem dX1_addRule_107 : decode cX1_addRule 107 = .ok (.putfield 70, 3) := by decide +kernel
theorem dX1_addRule_110 : decode cX1_addRule 110 = .ok (.aload_n 0, 1) := by decide +kernel
theorem dX1_addRule_111 : decode cX1_addRule 111 = .ok (.dup, 1) := by decide +kernel
theorem dX1_addRule_112 : decode cX1_addRule 112 = .ok (.getfield 75, 3) := by decide +kernel
theorem dX1_addRule_115 : decode cX1_addRule 115 = .ok (.aload_n 2, 1) := by decide +kernel
theorem dX1_addRule_116 : decode cX1_addRule 116 = .ok (.getfield 78, 3) := by decide +kernel
theorem dX1_addRule_119 : decode cX1_addRule 119 = .ok (.ior, 1) := by decide +kernel
theorem dX1_addRule_120 : decode cX1_addRule 120 = .ok (.putfield 75, 3) := by decide +kernel
theorem dX1_addRule_123 : decode cX1_addRule 123 = .ok (.aload_n 0, 1) := by decide +kernel
theorem dX1_addRule_124 : decode cX1_addRule 124 = .ok (.getfield 41, 3) := by decide +kernel
theorem dX1_addRule_127 : decode cX1_addRule 127 = .ok (.iconst 1, 1) := by decide +kernel
theorem dX1_addRule_128 : decode cX1_addRule 128 = .ok (.isub, 1) := by decide +kernel
theorem dX1_addRule_129 : decode cX1_addRule 129 = .ok (.ireturn, 1) := by decide +kernel
theorem dX10_holdsElement_0 : decode cX10_holdsElement 0 = .ok (.aload_n 0, 1) := by decide +kernel
theorem dX10_holdsElement_1 : decode cX10_holdsElement 1 = .ok (.getfield 24, 3) := by decide +kernel
theorem dX10_holdsElement_4 : decode cX10_holdsElement 4 = .ok (.aload_n 1, 1) := by decide +kernel
theorem dX10_holdsElement_5 : decode cX10_holdsElement 5 = .ok (.getfield 31, 3) := by decide +kernel
theorem dX10_holdsElement_8 : decode cX10_holdsElement 8 = .ok (.ishr, 1) := by decide +kernel
theorem dX10_holdsElement_9 : decode cX10_holdsElement 9 = .ok (.iconst 1, 1) := by decide +kernel
theorem dX10_holdsElement_10 : decode cX10_holdsElement 10 = .ok (.iand, 1) := by decide +kernel
theorem dX10_holdsElement_11 : decode cX10_holdsElement 11 = .ok (.ifCond .eq 7, 3) := by decide +kernel
theorem dX10_holdsElement_14 : decode cX10_holdsElement 14 = .ok (.iconst 1, 1) := by decide +kernel
theorem dX10_holdsElement_15 : decode cX10_holdsElement 15 = .ok (.goto 4, 3) := by decide +kernel
theorem dX10_holdsElement_18 : decode cX10_holdsElement 18 = .ok (.iconst 0, 1) := by decide +kernel
theorem dX10_holdsElement_19 : decode cX10_holdsElement 19 = .ok (.ireturn, 1) := by decide +kernel
theorem dX1_isThere_0 : decode cX1_isThere 0 = .ok (.aload_n 1, 1) := by decide +kernel
theorem dX1_isThere_1 : decode cX1_isThere 1 = .ok (.getfield 94, 3) := by decide +kernel
theorem dX1_isThere_4 : decode cX1_isThere 4 = .ok (.ifnull 17, 3) := by decide +kernel
theorem dX1_isThere_7 : decode cX1_isThere 7 = .ok (.aload_n 0, 1) := by decide +kernel
theorem dX1_isThere_8 : decode cX1_isThere 8 = .ok (.getfield 30, 3) := by decide +kernel
theorem dX1_isThere_11 : decode cX1_isThere 11 = .ok (.aload_n 1, 1) := by decide +kernel
theorem dX1_isThere_12 : decode cX1_isThere 12 = .ok (.getfield 94, 3) := by decide +kernel
theorem dX1_isThere_15 : decode cX1_isThere 15 = .ok (.invokevirtual 115, 3) := by decide +kernel
theorem dX1_isThere_18 : decode cX1_isThere 18 = .ok (.ifCond .eq 7, 3) := by decide +kernel
theorem dX1_isThere_21 : decode cX1_isThere 21 = .ok (.iconst 1, 1) := by decide +kernel
theorem dX1_isThere_22 : decode cX1_isThere 22 = .ok (.goto 4, 3) := by decide +kernel
theorem dX1_isThere_25 : decode cX1_isThere 25 = .ok (.iconst 0, 1) := by decide +kernel
theorem dX1_isThere_26 : decode cX1_isThere 26 = .ok (.ireturn, 1) := by decide +kernel
theorem dX5_selectorAt_0 : decode cX5_selectorAt 0 = .ok (.iload_n 1, 1) := by decide +kernel
theorem dX5_selectorAt_1 : decode cX5_selectorAt 1 = .ok (.ifCond .lt 26, 3) := by decide +kernel
theorem dX5_selectorAt_4 : decode cX5_selectorAt 4 = .ok (.iload_n 1, 1) := by decide +kernel
theorem dX5_selectorAt_5 : decode cX5_selectorAt 5 = .ok (.aload_n 0, 1) := by decide +kernel
theorem dX5_selectorAt_6 : decode cX5_selectorAt 6 = .ok (.getfield 38, 3) := by decide +kernel
theorem dX5_selectorAt_9 : decode cX5_selectorAt 9 = .ok (.if_icmp .ge 18, 3) := by decide +kernel
theorem dX5_selectorAt_12 : decode cX5_selectorAt 12 = .ok (.iload_n 1, 1) := by decide +kernel
theorem dX5_selectorAt_13 : decode cX5_selectorAt 13 = .ok (.bipush 30, 2) := by decide +kernel
theorem dX5_selectorAt_15 : decode cX5_selectorAt 15 = .ok (.if_icmp .ge 12, 3) := by decide +kernel
theorem dX5_selectorAt_18 : decode cX5_selectorAt 18 = .ok (.aload_n 0, 1) := by decide +kernel
theorem dX5_selectorAt_19 : decode cX5_selectorAt 19 = .ok (.getfield 11, 3) := by decide +kernel
theorem dX5_selectorAt_22 : decode cX5_selectorAt 22 = .ok (.iload_n 1, 1) := by decide +kernel
theorem dX5_selectorAt_23 : decode cX5_selectorAt 23 = .ok (.aaload, 1) := by decide +kernel
theorem dX5_selectorAt_24 : decode cX5_selectorAt 24 = .ok (.goto 4, 3) := by decide +kernel
theorem dX5_selectorAt_27 : decode cX5_selectorAt 27 = .ok (.aconst_null, 1) := by decide +kernel
theorem dX5_selectorAt_28 : decode cX5_selectorAt 28 = .ok (.areturn, 1) := by decide +kernel
theorem dX10_at_0 : decode cX10_at 0 = .ok (.iload_n 1, 1) := by decide +kernel
theorem dX10_at_1 : decode cX10_at 1 = .ok (.ifCond .lt 26, 3) := by decide +kernel
theorem dX10_at_4 : decode cX10_at 4 = .ok (.iload_n 1, 1) := by decide +kernel
theorem dX10_at_5 : decode cX10_at 5 = .ok (.aload_n 0, 1) := by decide +kernel
theorem dX10_at_6 : decode cX10_at 6 = .ok (.getfield 20, 3) := by decide +kernel
theorem dX10_at_9 : decode cX10_at 9 = .ok (.if_icmp .ge 18, 3) := by decide +kernel
theorem dX10_at_12 : decode cX10_at 12 = .ok (.iload_n 1, 1) := by decide +kernel
theorem dX10_at_13 : decode cX10_at 13 = .ok (.bipush 30, 2) := by decide +kernel
theorem dX10_at_15 : decode cX10_at 15 = .ok (.if_icmp .ge 12, 3) := by decide +kernel
theorem dX10_at_18 : decode cX10_at 18 = .ok (.aload_n 0, 1) := by decide +kernel
theorem dX10_at_19 : decode cX10_at 19 = .ok (.getfield 27, 3) := by decide +kernel
theorem dX10_at_22 : decode cX10_at 22 = .ok (.iload_n 1, 1) := by decide +kernel
theorem dX10_at_23 : decode cX10_at 23 = .ok (.aaload, 1) := by decide +kernel
theorem dX10_at_24 : decode cX10_at 24 = .ok (.goto 4, 3) := by decide +kernel
theorem dX10_at_27 : decode cX10_at 27 = .ok (.aconst_null, 1) := by decide +kernel
theorem dX10_at_28 : decode cX10_at 28 = .ok (.areturn, 1) := by decide +kernel
theorem dX10_membersOf_0 : decode cX10_membersOf 0 = .ok (.iconst 0, 1) := by decide +kernel
theorem dX10_membersOf_1 : decode cX10_membersOf 1 = .ok (.istore_n 2, 1) := by decide +kernel
theorem dX10_membersOf_2 : decode cX10_membersOf 2 = .ok (.iconst 0, 1) := by decide +kernel
theorem dX10_membersOf_3 : decode cX10_membersOf 3 = .ok (.istore_n 3, 1) := by decide +kernel
theorem dX10_membersOf_4 : decode cX10_membersOf 4 = .ok (.iload_n 3, 1) := by decide +kernel
theorem dX10_membersOf_5 : decode cX10_membersOf 5 = .ok (.aload_n 0, 1) := by decide +kernel
theorem dX10_membersOf_6 : decode cX10_membersOf 6 = .ok (.getfield 20, 3) := by decide +kernel
theorem dX10_membersOf_9 : decode cX10_membersOf 9 = .ok (.if_icmp .ge 49, 3) := by decide +kernel
theorem dX10_membersOf_12 : decode cX10_membersOf 12 = .ok (.aload_n 0, 1) := by decide +kernel
theorem dX10_membersOf_13 : decode cX10_membersOf 13 = .ok (.iload_n 3, 1) := by decide +kernel
theorem dX10_membersOf_14 : decode cX10_membersOf 14 = .ok (.invokevirtual 34, 3) := by decide +kernel
theorem dX10_membersOf_17 : decode cX10_membersOf 17 = .ok (.astore 4, 2) := by decide +kernel
theorem dX10_membersOf_19 : decode cX10_membersOf 19 = .ok (.aload 4, 2) := by decide +kernel
theorem dX10_membersOf_21 : decode cX10_membersOf 21 = .ok (.ifnull 31, 3) := by decide +kernel
theorem dX10_membersOf_24 : decode cX10_membersOf 24 = .ok (.aload 4, 2) := by decide +kernel
theorem dX10_membersOf_26 : decode cX10_membersOf 26 = .ok (.getfield 101, 3) := by decide +kernel
theorem dX10_membersOf_29 : decode cX10_membersOf 29 = .ok (.aload_n 1, 1) := by decide +kernel
theorem dX10_membersOf_30 : decode cX10_membersOf 30 = .ok (.if_acmp .ne 22, 3) := by decide +kernel
theorem dX10_membersOf_33 : decode cX10_membersOf 33 = .ok (.aload_n 1, 1) := by decide +kernel
theorem dX10_membersOf_34 : decode cX10_membersOf 34 = .ok (.ifnonnull 12, 3) := by decide +kernel
theorem dX10_membersOf_37 : decode cX10_membersOf 37 = .ok (.aload_n 0, 1) := by decide +kernel
theorem dX10_membersOf_38 : decode cX10_membersOf 38 = .ok (.aload 4, 2) := by decide +kernel
theorem dX10_membersOf_40 : decode cX10_membersOf 40 = .ok (.invokevirtual 135, 3) := by decide +kernel
theorem dX10_membersOf_43 : decode cX10_membersOf 43 = .ok (.ifCond .eq 9, 3) := by decide +kernel
theorem dX10_membersOf_46 : decode cX10_membersOf 46 = .ok (.iload_n 2, 1) := by decide +kernel
theorem dX10_membersOf_47 : decode cX10_membersOf 47 = .ok (.iconst 1, 1) := by decide +kernel
theorem dX10_membersOf_48 : decode cX10_membersOf 48 = .ok (.iload_n 3, 1) := by decide +kernel
theorem dX10_membersOf_49 : decode cX10_membersOf 49 = .ok (.ishl, 1) := by decide +kernel
theorem dX10_membersOf_50 : decode cX10_membersOf 50 = .ok (.ior, 1) := by decide +kernel
theorem dX10_membersOf_51 : decode cX10_membersOf 51 = .ok (.istore_n 2, 1) := by decide +kernel
theorem dX10_membersOf_52 : decode cX10_membersOf 52 = .ok (.iinc 3 1, 3) := by decide +kernel
theorem dX10_membersOf_55 : decode cX10_membersOf 55 = .ok (.goto (-51), 3) := by decide +kernel
theorem dX10_membersOf_58 : decode cX10_membersOf 58 = .ok (.iload_n 2, 1) := by decide +kernel
theorem dX10_membersOf_59 : decode cX10_membersOf 59 = .ok (.ireturn, 1) := by decide +kernel
theorem dX11_isBelow_0 : decode cX11_isBelow 0 = .ok (.iload_n 0, 1) := by decide +kernel
theorem dX11_isBelow_1 : decode cX11_isBelow 1 = .ok (.ifCond .lt 12, 3) := by decide +kernel
theorem dX11_isBelow_4 : decode cX11_isBelow 4 = .ok (.iload_n 0, 1) := by decide +kernel
theorem dX11_isBelow_5 : decode cX11_isBelow 5 = .ok (.iload_n 1, 1) := by decide +kernel
theorem dX11_isBelow_6 : decode cX11_isBelow 6 = .ok (.if_icmp .ge 7, 3) := by decide +kernel
theorem dX11_isBelow_9 : decode cX11_isBelow 9 = .ok (.iconst 1, 1) := by decide +kernel
theorem dX11_isBelow_10 : decode cX11_isBelow 10 = .ok (.goto 4, 3) := by decide +kernel
theorem dX11_isBelow_13 : decode cX11_isBelow 13 = .ok (.iconst 0, 1) := by decide +kernel
theorem dX11_isBelow_14 : decode cX11_isBelow 14 = .ok (.ireturn, 1) := by decide +kernel
theorem dX5_sources_0 : decode cX5_sources 0 = .ok (.iconst 0, 1) := by decide +kernel
theorem dX5_sources_1 : decode cX5_sources 1 = .ok (.istore_n 3, 1) := by decide +kernel
theorem dX5_sources_2 : decode cX5_sources 2 = .ok (.iload_n 2, 1) := by decide +kernel
theorem dX5_sources_3 : decode cX5_sources 3 = .ok (.ifCond .eq 8, 3) := by decide +kernel
theorem dX5_sources_6 : decode cX5_sources 6 = .ok (.iload_n 2, 1) := by decide +kernel
theorem dX5_sources_7 : decode cX5_sources 7 = .ok (.iconst 1, 1) := by decide +kernel
theorem dX5_sources_8 : decode cX5_sources 8 = .ok (.if_icmp .ne 7, 3) := by decide +kernel
theorem dX5_sources_11 : decode cX5_sources 11 = .ok (.iconst 1, 1) := by decide +kernel
theorem dX5_sources_12 : decode cX5_sources 12 = .ok (.goto 4, 3) := by decide +kernel
theorem dX5_sources_15 : decode cX5_sources 15 = .ok (.iconst 0, 1) := by decide +kernel
theorem dX5_sources_16 : decode cX5_sources 16 = .ok (.istore 4, 2) := by decide +kernel
theorem dX5_sources_18 : decode cX5_sources 18 = .ok (.iload_n 2, 1) := by decide +kernel
theorem dX5_sources_19 : decode cX5_sources 19 = .ok (.ifCond .eq 8, 3) := by decide +kernel
theorem dX5_sources_22 : decode cX5_sources 22 = .ok (.iload_n 2, 1) := by decide +kernel
theorem dX5_sources_23 : decode cX5_sources 23 = .ok (.iconst 3, 1) := by decide +kernel
theorem dX5_sources_24 : decode cX5_sources 24 = .ok (.if_icmp .ne 8, 3) := by decide +kernel
theorem dX5_sources_27 : decode cX5_sources 27 = .ok (.bipush 30, 2) := by decide +kernel
theorem dX5_sources_29 : decode cX5_sources 29 = .ok (.goto 4, 3) := by decide +kernel
theorem dX5_sources_32 : decode cX5_sources 32 = .ok (.iconst 1, 1) := by decide +kernel
theorem dX5_sources_33 : decode cX5_sources 33 = .ok (.istore 5, 2) := by decide +kernel
theorem dX5_sources_35 : decode cX5_sources 35 = .ok (.aload_n 1, 1) := by decide +kernel
theorem dX5_sources_36 : decode cX5_sources 36 = .ok (.astore 6, 2) := by decide +kernel
theorem dX5_sources_38 : decode cX5_sources 38 = .ok (.iconst 0, 1) := by decide +kernel
theorem dX5_sources_39 : decode cX5_sources 39 = .ok (.istore 7, 2) := by decide +kernel
theorem dX5_sources_41 : decode cX5_sources 41 = .ok (.iload 7, 2) := by decide +kernel
theorem dX5_sources_43 : decode cX5_sources 43 = .ok (.iload 5, 2) := by decide +kernel
theorem dX5_sources_45 : decode cX5_sources 45 = .ok (.if_icmp .ge 69, 3) := by decide +kernel
theorem dX5_sources_48 : decode cX5_sources 48 = .ok (.aload 6, 2) := by decide +kernel
theorem dX5_sources_50 : decode cX5_sources 50 = .ok (.ifnull 64, 3) := by decide +kernel
theorem dX5_sources_53 : decode cX5_sources 53 = .ok (.iload 4, 2) := by decide +kernel
theorem dX5_sources_55 : decode cX5_sources 55 = .ok (.ifCond .ne 11, 3) := by decide +kernel
theorem dX5_sources_58 : decode cX5_sources 58 = .ok (.aload 6, 2) := by decide +kernel
theorem dX5_sources_60 : decode cX5_sources 60 = .ok (.getfield 155, 3) := by decide +kernel
theorem dX5_sources_63 : decode cX5_sources 63 = .ok (.goto 24, 3) := by decide +kernel
theorem dX5_sources_66 : decode cX5_sources 66 = .ok (.aload 6, 2) := by decide +kernel
theorem dX5_sources_68 : decode cX5_sources 68 = .ok (.getfield 159, 3) := by decide +kernel
theorem dX5_sources_71 : decode cX5_sources 71 = .ok (.ifnull 11, 3) := by decide +kernel
theorem dX5_sources_74 : decode cX5_sources 74 = .ok (.aload 6, 2) := by decide +kernel
theorem dX5_sources_76 : decode cX5_sources 76 = .ok (.getfield 159, 3) := by decide +kernel
theorem dX5_sources_79 : decode cX5_sources 79 = .ok (.goto 8, 3) := by decide +kernel
theorem dX5_sources_82 : decode cX5_sources 82 = .ok (.aload 6, 2) := by decide +kernel
theorem dX5_sources_84 : decode cX5_sources 84 = .ok (.getfield 162, 3) := by decide +kernel
theorem dX5_sources_87 : decode cX5_sources 87 = .ok (.astore 6, 2) := by decide +kernel
theorem dX5_sources_89 : decode cX5_sources 89 = .ok (.iload_n 3, 1) := by decide +kernel
theorem dX5_sources_90 : decode cX5_sources 90 = .ok (.aload 6, 2) := by decide +kernel
theorem dX5_sources_92 : decode cX5_sources 92 = .ok (.ifnonnull 7, 3) := by decide +kernel
theorem dX5_sources_95 : decode cX5_sources 95 = .ok (.iconst 0, 1) := by decide +kernel
theorem dX5_sources_96 : decode cX5_sources 96 = .ok (.goto 10, 3) := by decide +kernel
theorem dX5_sources_99 : decode cX5_sources 99 = .ok (.iconst 1, 1) := by decide +kernel
theorem dX5_sources_100 : decode cX5_sources 100 = .ok (.aload 6, 2) := by decide +kernel
theorem dX5_sources_102 : decode cX5_sources 102 = .ok (.getfield 46, 3) := by decide +kernel
theorem dX5_sources_105 : decode cX5_sources 105 = .ok (.ishl, 1) := by decide +kernel
theorem dX5_sources_106 : decode cX5_sources 106 = .ok (.ior, 1) := by decide +kernel
theorem dX5_sources_107 : decode cX5_sources 107 = .ok (.istore_n 3, 1) := by decide +kernel
theorem dX5_sources_108 : decode cX5_sources 108 = .ok (.iinc 7 1, 3) := by decide +kernel
theorem dX5_sources_111 : decode cX5_sources 111 = .ok (.goto (-70), 3) := by decide +kernel
theorem dX5_sources_114 : decode cX5_sources 114 = .ok (.iload_n 3, 1) := by decide +kernel
theorem dX5_sources_115 : decode cX5_sources 115 = .ok (.ireturn, 1) := by decide +kernel
theorem dX5_origins_0 : decode cX5_origins 0 = .ok (.iconst 0, 1) := by decide +kernel
theorem dX5_origins_1 : decode cX5_origins 1 = .ok (.istore_n 3, 1) := by decide +kernel
theorem dX5_origins_2 : decode cX5_origins 2 = .ok (.iconst 0, 1) := by decide +kernel
theorem dX5_origins_3 : decode cX5_origins 3 = .ok (.istore 4, 2) := by decide +kernel
theorem dX5_origins_5 : decode cX5_origins 5 = .ok (.iload 4, 2) := by decide +kernel
theorem dX5_origins_7 : decode cX5_origins 7 = .ok (.aload_n 0, 1) := by decide +kernel
theorem dX5_origins_8 : decode cX5_origins 8 = .ok (.getfield 34, 3) := by decide +kernel
theorem dX5_origins_11 : decode cX5_origins 11 = .ok (.getfield 124, 3) := by decide +kernel
theorem dX5_origins_14 : decode cX5_origins 14 = .ok (.if_icmp .ge 44, 3) := by decide +kernel
theorem dX5_origins_17 : decode cX5_origins 17 = .ok (.aload_n 0, 1) := by decide +kernel
theorem dX5_origins_18 : decode cX5_origins 18 = .ok (.getfield 34, 3) := by decide +kernel
theorem dX5_origins_21 : decode cX5_origins 21 = .ok (.iload 4, 2) := by decide +kernel
theorem dX5_origins_23 : decode cX5_origins 23 = .ok (.invokevirtual 125, 3) := by decide +kernel
theorem dX5_origins_26 : decode cX5_origins 26 = .ok (.astore 5, 2) := by decide +kernel
theorem dX5_origins_28 : decode cX5_origins 28 = .ok (.aload 5, 2) := by decide +kernel
theorem dX5_origins_30 : decode cX5_origins 30 = .ok (.ifnull 22, 3) := by decide +kernel
theorem dX5_origins_33 : decode cX5_origins 33 = .ok (.iload_n 1, 1) := by decide +kernel
theorem dX5_origins_34 : decode cX5_origins 34 = .ok (.iload 4, 2) := by decide +kernel
theorem dX5_origins_36 : decode cX5_origins 36 = .ok (.ishr, 1) := by decide +kernel
theorem dX5_origins_37 : decode cX5_origins 37 = .ok (.iconst 1, 1) := by decide +kernel
theorem dX5_origins_38 : decode cX5_origins 38 = .ok (.iand, 1) := by decide +kernel
theorem dX5_origins_39 : decode cX5_origins 39 = .ok (.ifCond .eq 13, 3) := by decide +kernel
theorem dX5_origins_42 : decode cX5_origins 42 = .ok (.iload_n 3, 1) := by decide +kernel
theorem dX5_origins_43 : decode cX5_origins 43 = .ok (.aload_n 0, 1) := by decide +kernel
theorem dX5_origins_44 : decode cX5_origins 44 = .ok (.aload 5, 2) := by decide +kernel
theorem dX5_origins_46 : decode cX5_origins 46 = .ok (.iload_n 2, 1) := by decide +kernel
theorem dX5_origins_47 : decode cX5_origins 47 = .ok (.invokevirtual 151, 3) := by decide +kernel
theorem dX5_origins_50 : decode cX5_origins 50 = .ok (.ior, 1) := by decide +kernel
theorem dX5_origins_51 : decode cX5_origins 51 = .ok (.istore_n 3, 1) := by decide +kernel
theorem dX5_origins_52 : decode cX5_origins 52 = .ok (.iinc 4 1, 3) := by decide +kernel
theorem dX5_origins_55 : decode cX5_origins 55 = .ok (.goto (-50), 3) := by decide +kernel
theorem dX5_origins_58 : decode cX5_origins 58 = .ok (.iload_n 3, 1) := by decide +kernel
theorem dX5_origins_59 : decode cX5_origins 59 = .ok (.ireturn, 1) := by decide +kernel
theorem dX5_passes_0 : decode cX5_passes 0 = .ok (.iload_n 2, 1) := by decide +kernel
theorem dX5_passes_1 : decode cX5_passes 1 = .ok (.tableswitch 105 0 3 #[31, 45, 62, 79], 31) := by decide +kernel
theorem dX5_passes_32 : decode cX5_passes 32 = .ok (.aload_n 1, 1) := by decide +kernel
theorem dX5_passes_33 : decode cX5_passes 33 = .ok (.getfield 133, 3) := by decide +kernel
theorem dX5_passes_36 : decode cX5_passes 36 = .ok (.iload_n 3, 1) := by decide +kernel
theorem dX5_passes_37 : decode cX5_passes 37 = .ok (.if_icmp .ne 7, 3) := by decide +kernel
theorem dX5_passes_40 : decode cX5_passes 40 = .ok (.iconst 1, 1) := by decide +kernel
theorem dX5_passes_41 : decode cX5_passes 41 = .ok (.goto 4, 3) := by decide +kernel
theorem dX5_passes_44 : decode cX5_passes 44 = .ok (.iconst 0, 1) := by decide +kernel
theorem dX5_passes_45 : decode cX5_passes 45 = .ok (.ireturn, 1) := by decide +kernel
theorem dX5_passes_46 : decode cX5_passes 46 = .ok (.aload_n 1, 1) := by decide +kernel
theorem dX5_passes_47 : decode cX5_passes 47 = .ok (.getfield 136, 3) := by decide +kernel
theorem dX5_passes_50 : decode cX5_passes 50 = .ok (.iload_n 3, 1) := by decide +kernel
theorem dX5_passes_51 : decode cX5_passes 51 = .ok (.ishr, 1) := by decide +kernel
theorem dX5_passes_52 : decode cX5_passes 52 = .ok (.iconst 1, 1) := by decide +kernel
theorem dX5_passes_53 : decode cX5_passes 53 = .ok (.iand, 1) := by decide +kernel
theorem dX5_passes_54 : decode cX5_passes 54 = .ok (.ifCond .eq 7, 3) := by decide +kernel
theorem dX5_passes_57 : decode cX5_passes 57 = .ok (.iconst 1, 1) := by decide +kernel
theorem dX5_passes_58 : decode cX5_passes 58 = .ok (.goto 4, 3) := by decide +kernel
theorem dX5_passes_61 : decode cX5_passes 61 = .ok (.iconst 0, 1) := by decide +kernel
theorem dX5_passes_62 : decode cX5_passes 62 = .ok (.ireturn, 1) := by decide +kernel
theorem dX5_passes_63 : decode cX5_passes 63 = .ok (.aload_n 1, 1) := by decide +kernel
theorem dX5_passes_64 : decode cX5_passes 64 = .ok (.getfield 139, 3) := by decide +kernel
theorem dX5_passes_67 : decode cX5_passes 67 = .ok (.iload_n 3, 1) := by decide +kernel
theorem dX5_passes_68 : decode cX5_passes 68 = .ok (.ishr, 1) := by decide +kernel
theorem dX5_passes_69 : decode cX5_passes 69 = .ok (.iconst 1, 1) := by decide +kernel
theorem dX5_passes_70 : decode cX5_passes 70 = .ok (.iand, 1) := by decide +kernel
theorem dX5_passes_71 : decode cX5_passes 71 = .ok (.ifCond .eq 7, 3) := by decide +kernel
theorem dX5_passes_74 : decode cX5_passes 74 = .ok (.iconst 1, 1) := by decide +kernel
theorem dX5_passes_75 : decode cX5_passes 75 = .ok (.goto 4, 3) := by decide +kernel
theorem dX5_passes_78 : decode cX5_passes 78 = .ok (.iconst 0, 1) := by decide +kernel
theorem dX5_passes_79 : decode cX5_passes 79 = .ok (.ireturn, 1) := by decide +kernel
theorem dX5_passes_80 : decode cX5_passes 80 = .ok (.iload_n 3, 1) := by decide +kernel
theorem dX5_passes_81 : decode cX5_passes 81 = .ok (.ifCond .ne 10, 3) := by decide +kernel
theorem dX5_passes_84 : decode cX5_passes 84 = .ok (.aload_n 1, 1) := by decide +kernel
theorem dX5_passes_85 : decode cX5_passes 85 = .ok (.getfield 142, 3) := by decide +kernel
theorem dX5_passes_88 : decode cX5_passes 88 = .ok (.goto 7, 3) := by decide +kernel
theorem dX5_passes_91 : decode cX5_passes 91 = .ok (.aload_n 1, 1) := by decide +kernel
theorem dX5_passes_92 : decode cX5_passes 92 = .ok (.getfield 145, 3) := by decide +kernel
theorem dX5_passes_95 : decode cX5_passes 95 = .ok (.iload 4, 2) := by decide +kernel
theorem dX5_passes_97 : decode cX5_passes 97 = .ok (.if_icmp .ne 7, 3) := by decide +kernel
theorem dX5_passes_100 : decode cX5_passes 100 = .ok (.iconst 1, 1) := by decide +kernel
theorem dX5_passes_101 : decode cX5_passes 101 = .ok (.goto 4, 3) := by decide +kernel
theorem dX5_passes_104 : decode cX5_passes 104 = .ok (.iconst 0, 1) := by decide +kernel
theorem dX5_passes_105 : decode cX5_passes 105 = .ok (.ireturn, 1) := by decide +kernel
theorem dX5_passes_106 : decode cX5_passes 106 = .ok (.aload_n 1, 1) := by decide +kernel
theorem dX5_passes_107 : decode cX5_passes 107 = .ok (.getfield 148, 3) := by decide +kernel
theorem dX5_passes_110 : decode cX5_passes 110 = .ok (.iload 4, 2) := by decide +kernel
theorem dX5_passes_112 : decode cX5_passes 112 = .ok (.isub, 1) := by decide +kernel
theorem dX5_passes_113 : decode cX5_passes 113 = .ok (.istore 5, 2) := by decide +kernel
theorem dX5_passes_115 : decode cX5_passes 115 = .ok (.iload_n 3, 1) := by decide +kernel
theorem dX5_passes_116 : decode cX5_passes 116 = .ok (.ifCond .ne 16, 3) := by decide +kernel
theorem dX5_passes_119 : decode cX5_passes 119 = .ok (.iload 5, 2) := by decide +kernel
theorem dX5_passes_121 : decode cX5_passes 121 = .ok (.ifCond .ne 7, 3) := by decide +kernel
theorem dX5_passes_124 : decode cX5_passes 124 = .ok (.iconst 1, 1) := by decide +kernel
theorem dX5_passes_125 : decode cX5_passes 125 = .ok (.goto 26, 3) := by decide +kernel
theorem dX5_passes_128 : decode cX5_passes 128 = .ok (.iconst 0, 1) := by decide +kernel
theorem dX5_passes_129 : decode cX5_passes 129 = .ok (.goto 22, 3) := by decide +kernel
theorem dX5_passes_132 : decode cX5_passes 132 = .ok (.iload 5, 2) := by decide +kernel
theorem dX5_passes_134 : decode cX5_passes 134 = .ok (.iload_n 3, 1) := by decide +kernel
theorem dX5_passes_135 : decode cX5_passes 135 = .ok (.irem, 1) := by decide +kernel
theorem dX5_passes_136 : decode cX5_passes 136 = .ok (.ifCond .ne 14, 3) := by decide +kernel
theorem dX5_passes_139 : decode cX5_passes 139 = .ok (.iload 5, 2) := by decide +kernel
theorem dX5_passes_141 : decode cX5_passes 141 = .ok (.iload_n 3, 1) := by decide +kernel
theorem dX5_passes_142 : decode cX5_passes 142 = .ok (.idiv, 1) := by decide +kernel
theorem dX5_passes_143 : decode cX5_passes 143 = .ok (.ifCond .lt 7, 3) := by decide +kernel
theorem dX5_passes_146 : decode cX5_passes 146 = .ok (.iconst 1, 1) := by decide +kernel
theorem dX5_passes_147 : decode cX5_passes 147 = .ok (.goto 4, 3) := by decide +kernel
theorem dX5_passes_150 : decode cX5_passes 150 = .ok (.iconst 0, 1) := by decide +kernel
theorem dX5_passes_151 : decode cX5_passes 151 = .ok (.ireturn, 1) := by decide +kernel
theorem dX5_passing_0 : decode cX5_passing 0 = .ok (.iload_n 1, 1) := by decide +kernel
theorem dX5_passing_1 : decode cX5_passing 1 = .ok (.istore 5, 2) := by decide +kernel
theorem dX5_passing_3 : decode cX5_passing 3 = .ok (.iconst 0, 1) := by decide +kernel
theorem dX5_passing_4 : decode cX5_passing 4 = .ok (.istore 6, 2) := by decide +kernel
theorem dX5_passing_6 : decode cX5_passing 6 = .ok (.iload 6, 2) := by decide +kernel
theorem dX5_passing_8 : decode cX5_passing 8 = .ok (.aload_n 0, 1) := by decide +kernel
theorem dX5_passing_9 : decode cX5_passing 9 = .ok (.getfield 34, 3) := by decide +kernel
theorem dX5_passing_12 : decode cX5_passing 12 = .ok (.getfield 124, 3) := by decide +kernel
theorem dX5_passing_15 : decode cX5_passing 15 = .ok (.if_icmp .ge 58, 3) := by decide +kernel
theorem dX5_passing_18 : decode cX5_passing 18 = .ok (.aload_n 0, 1) := by decide +kernel
theorem dX5_passing_19 : decode cX5_passing 19 = .ok (.getfield 34, 3) := by decide +kernel
theorem dX5_passing_22 : decode cX5_passing 22 = .ok (.iload 6, 2) := by decide +kernel
theorem dX5_passing_24 : decode cX5_passing 24 = .ok (.invokevirtual 125, 3) := by decide +kernel
theorem dX5_passing_27 : decode cX5_passing 27 = .ok (.astore 7, 2) := by decide +kernel
theorem dX5_passing_29 : decode cX5_passing 29 = .ok (.aload 7, 2) := by decide +kernel
theorem dX5_passing_31 : decode cX5_passing 31 = .ok (.ifnull 36, 3) := by decide +kernel
theorem dX5_passing_34 : decode cX5_passing 34 = .ok (.iload_n 1, 1) := by decide +kernel
theorem dX5_passing_35 : decode cX5_passing 35 = .ok (.iload 6, 2) := by decide +kernel
theorem dX5_passing_37 : decode cX5_passing 37 = .ok (.ishr, 1) := by decide +kernel
theorem dX5_passing_38 : decode cX5_passing 38 = .ok (.iconst 1, 1) := by decide +kernel
theorem dX5_passing_39 : decode cX5_passing 39 = .ok (.iand, 1) := by decide +kernel
theorem dX5_passing_40 : decode cX5_passing 40 = .ok (.ifCond .eq 27, 3) := by decide +kernel
theorem dX5_passing_43 : decode cX5_passing 43 = .ok (.aload_n 0, 1) := by decide +kernel
theorem dX5_passing_44 : decode cX5_passing 44 = .ok (.aload 7, 2) := by decide +kernel
theorem dX5_passing_46 : decode cX5_passing 46 = .ok (.iload_n 2, 1) := by decide +kernel
theorem dX5_passing_47 : decode cX5_passing 47 = .ok (.iload_n 3, 1) := by decide +kernel
theorem dX5_passing_48 : decode cX5_passing 48 = .ok (.iload 4, 2) := by decide +kernel
theorem dX5_passing_50 : decode cX5_passing 50 = .ok (.invokevirtual 129, 3) := by decide +kernel
theorem dX5_passing_53 : decode cX5_passing 53 = .ok (.ifCond .ne 14, 3) := by decide +kernel
theorem dX5_passing_56 : decode cX5_passing 56 = .ok (.iload 5, 2) := by decide +kernel
theorem dX5_passing_58 : decode cX5_passing 58 = .ok (.iconst 1, 1) := by decide +kernel
theorem dX5_passing_59 : decode cX5_passing 59 = .ok (.iload 6, 2) := by decide +kernel
theorem dX5_passing_61 : decode cX5_passing 61 = .ok (.ishl, 1) := by decide +kernel
theorem dX5_passing_62 : decode cX5_passing 62 = .ok (.iconst (-1), 1) := by decide +kernel
theorem dX5_passing_63 : decode cX5_passing 63 = .ok (.ixor, 1) := by decide +kernel
theorem dX5_passing_64 : decode cX5_passing 64 = .ok (.iand, 1) := by decide +kernel
theorem dX5_passing_65 : decode cX5_passing 65 = .ok (.istore 5, 2) := by decide +kernel
theorem dX5_passing_67 : decode cX5_passing 67 = .ok (.iinc 6 1, 3) := by decide +kernel
theorem dX5_passing_70 : decode cX5_passing 70 = .ok (.goto (-64), 3) := by decide +kernel
theorem dX5_passing_73 : decode cX5_passing 73 = .ok (.iload 5, 2) := by decide +kernel
theorem dX5_passing_75 : decode cX5_passing 75 = .ok (.ireturn, 1) := by decide +kernel
theorem dX5_findFitting_0 : decode cX5_findFitting 0 = .ok (.iload_n 2, 1) := by decide +kernel
theorem dX5_findFitting_1 : decode cX5_findFitting 1 = .ok (.istore 4, 2) := by decide +kernel
theorem dX5_findFitting_3 : decode cX5_findFitting 3 = .ok (.iconst 0, 1) := by decide +kernel
theorem dX5_findFitting_4 : decode cX5_findFitting 4 = .ok (.istore 5, 2) := by decide +kernel
theorem dX5_findFitting_6 : decode cX5_findFitting 6 = .ok (.iload 5, 2) := by decide +kernel
theorem dX5_findFitting_8 : decode cX5_findFitting 8 = .ok (.aload_n 1, 1) := by decide +kernel
theorem dX5_findFitting_9 : decode cX5_findFitting 9 = .ok (.getfield 103, 3) := by decide +kernel
theorem dX5_findFitting_12 : decode cX5_findFitting 12 = .ok (.if_icmp .ge 182, 3) := by decide +kernel
theorem dX5_findFitting_15 : decode cX5_findFitting 15 = .ok (.iload 5, 2) := by decide +kernel
theorem dX5_findFitting_17 : decode cX5_findFitting 17 = .ok (.iconst 4, 1) := by decide +kernel
theorem dX5_findFitting_18 : decode cX5_findFitting 18 = .ok (.if_icmp .ge 176, 3) := by decide +kernel
theorem dX5_findFitting_21 : decode cX5_findFitting 21 = .ok (.aload_n 1, 1) := by decide +kernel
theorem dX5_findFitting_22 : decode cX5_findFitting 22 = .ok (.getfield 104, 3) := by decide +kernel
theorem dX5_findFitting_25 : decode cX5_findFitting 25 = .ok (.iload 5, 2) := by decide +kernel
theorem dX5_findFitting_27 : decode cX5_findFitting 27 = .ok (.iaload, 1) := by decide +kernel
theorem dX5_findFitting_28 : decode cX5_findFitting 28 = .ok (.istore 6, 2) := by decide +kernel
theorem dX5_findFitting_30 : decode cX5_findFitting 30 = .ok (.aload_n 1, 1) := by decide +kernel
theorem dX5_findFitting_31 : decode cX5_findFitting 31 = .ok (.getfield 107, 3) := by decide +kernel
theorem dX5_findFitting_34 : decode cX5_findFitting 34 = .ok (.iload 5, 2) := by decide +kernel
theorem dX5_findFitting_36 : decode cX5_findFitting 36 = .ok (.iaload, 1) := by decide +kernel
theorem dX5_findFitting_37 : decode cX5_findFitting 37 = .ok (.istore 7, 2) := by decide +kernel
theorem dX5_findFitting_39 : decode cX5_findFitting 39 = .ok (.aload_n 1, 1) := by decide +kernel
theorem dX5_findFitting_40 : decode cX5_findFitting 40 = .ok (.getfield 110, 3) := by decide +kernel
theorem dX5_findFitting_43 : decode cX5_findFitting 43 = .ok (.iload 5, 2) := by decide +kernel
theorem dX5_findFitting_45 : decode cX5_findFitting 45 = .ok (.iaload, 1) := by decide +kernel
theorem dX5_findFitting_46 : decode cX5_findFitting 46 = .ok (.tableswitch 123 5 9 #[34, 62, 88, 120, 120], 34) := by decide +kernel
theorem dX5_findFitting_80 : decode cX5_findFitting 80 = .ok (.iload 4, 2) := by decide +kernel
theorem dX5_findFitting_82 : decode cX5_findFitting 82 = .ok (.iload 6, 2) := by decide +kernel
theorem dX5_findFitting_84 : decode cX5_findFitting 84 = .ok (.bipush 30, 2) := by decide +kernel
theorem dX5_findFitting_86 : decode cX5_findFitting 86 = .ok (.invokestatic 113, 3) := by decide +kernel
theorem dX5_findFitting_89 : decode cX5_findFitting 89 = .ok (.ifCond .eq 12, 3) := by decide +kernel
theorem dX5_findFitting_92 : decode cX5_findFitting 92 = .ok (.aload_n 3, 1) := by decide +kernel
theorem dX5_findFitting_93 : decode cX5_findFitting 93 = .ok (.iload 6, 2) := by decide +kernel
theorem dX5_findFitting_95 : decode cX5_findFitting 95 = .ok (.iaload, 1) := by decide +kernel
theorem dX5_findFitting_96 : decode cX5_findFitting 96 = .ok (.iconst (-1), 1) := by decide +kernel
theorem dX5_findFitting_97 : decode cX5_findFitting 97 = .ok (.ixor, 1) := by decide +kernel
theorem dX5_findFitting_98 : decode cX5_findFitting 98 = .ok (.goto 4, 3) := by decide +kernel
theorem dX5_findFitting_101 : decode cX5_findFitting 101 = .ok (.iconst 0, 1) := by decide +kernel
theorem dX5_findFitting_102 : decode cX5_findFitting 102 = .ok (.iand, 1) := by decide +kernel
theorem dX5_findFitting_103 : decode cX5_findFitting 103 = .ok (.istore 4, 2) := by decide +kernel
theorem dX5_findFitting_105 : decode cX5_findFitting 105 = .ok (.goto 83, 3) := by decide +kernel
theorem dX5_findFitting_108 : decode cX5_findFitting 108 = .ok (.iload 4, 2) := by decide +kernel
theorem dX5_findFitting_110 : decode cX5_findFitting 110 = .ok (.iload 6, 2) := by decide +kernel
theorem dX5_findFitting_112 : decode cX5_findFitting 112 = .ok (.bipush 30, 2) := by decide +kernel
theorem dX5_findFitting_114 : decode cX5_findFitting 114 = .ok (.invokestatic 113, 3) := by decide +kernel
theorem dX5_findFitting_117 : decode cX5_findFitting 117 = .ok (.ifCond .eq 10, 3) := by decide +kernel
theorem dX5_findFitting_120 : decode cX5_findFitting 120 = .ok (.aload_n 3, 1) := by decide +kernel
theorem dX5_findFitting_121 : decode cX5_findFitting 121 = .ok (.iload 6, 2) := by decide +kernel
theorem dX5_findFitting_123 : decode cX5_findFitting 123 = .ok (.iaload, 1) := by decide +kernel
theorem dX5_findFitting_124 : decode cX5_findFitting 124 = .ok (.goto 4, 3) := by decide +kernel
theorem dX5_findFitting_127 : decode cX5_findFitting 127 = .ok (.iconst 0, 1) := by decide +kernel
theorem dX5_findFitting_128 : decode cX5_findFitting 128 = .ok (.iand, 1) := by decide +kernel
theorem dX5_findFitting_129 : decode cX5_findFitting 129 = .ok (.istore 4, 2) := by decide +kernel
theorem dX5_findFitting_131 : decode cX5_findFitting 131 = .ok (.goto 57, 3) := by decide +kernel
theorem dX5_findFitting_134 : decode cX5_findFitting 134 = .ok (.iload 4, 2) := by decide +kernel
theorem dX5_findFitting_136 : decode cX5_findFitting 136 = .ok (.iload 7, 2) := by decide +kernel
theorem dX5_findFitting_138 : decode cX5_findFitting 138 = .ok (.bipush 30, 2) := by decide +kernel
theorem dX5_findFitting_140 : decode cX5_findFitting 140 = .ok (.invokestatic 113, 3) := by decide +kernel
theorem dX5_findFitting_143 : decode cX5_findFitting 143 = .ok (.ifCond .eq 16, 3) := by decide +kernel
theorem dX5_findFitting_146 : decode cX5_findFitting 146 = .ok (.aload_n 0, 1) := by decide +kernel
theorem dX5_findFitting_147 : decode cX5_findFitting 147 = .ok (.aload_n 3, 1) := by decide +kernel
theorem dX5_findFitting_148 : decode cX5_findFitting 148 = .ok (.iload 7, 2) := by decide +kernel
theorem dX5_findFitting_150 : decode cX5_findFitting 150 = .ok (.iaload, 1) := by decide +kernel
theorem dX5_findFitting_151 : decode cX5_findFitting 151 = .ok (.iload 6, 2) := by decide +kernel
theorem dX5_findFitting_153 : decode cX5_findFitting 153 = .ok (.invokevirtual 117, 3) := by decide +kernel
theorem dX5_findFitting_156 : decode cX5_findFitting 156 = .ok (.goto 4, 3) := by decide +kernel
theorem dX5_findFitting_159 : decode cX5_findFitting 159 = .ok (.iconst 0, 1) := by decide +kernel
theorem dX5_findFitting_160 : decode cX5_findFitting 160 = .ok (.iand, 1) := by decide +kernel
theorem dX5_findFitting_161 : decode cX5_findFitting 161 = .ok (.istore 4, 2) := by decide +kernel
theorem dX5_findFitting_163 : decode cX5_findFitting 163 = .ok (.goto 25, 3) := by decide +kernel
theorem dX5_findFitting_166 : decode cX5_findFitting 166 = .ok (.goto 22, 3) := by decide +kernel
theorem dX5_findFitting_169 : decode cX5_findFitting 169 = .ok (.aload_n 0, 1) := by decide +kernel
theorem dX5_findFitting_170 : decode cX5_findFitting 170 = .ok (.iload 4, 2) := by decide +kernel
theorem dX5_findFitting_172 : decode cX5_findFitting 172 = .ok (.aload_n 1, 1) := by decide +kernel
theorem dX5_findFitting_173 : decode cX5_findFitting 173 = .ok (.getfield 110, 3) := by decide +kernel
theorem dX5_findFitting_176 : decode cX5_findFitting 176 = .ok (.iload 5, 2) := by decide +kernel
theorem dX5_findFitting_178 : decode cX5_findFitting 178 = .ok (.iaload, 1) := by decide +kernel
theorem dX5_findFitting_179 : decode cX5_findFitting 179 = .ok (.iload 6, 2) := by decide +kernel
theorem dX5_findFitting_181 : decode cX5_findFitting 181 = .ok (.iload 7, 2) := by decide +kernel
theorem dX5_findFitting_183 : decode cX5_findFitting 183 = .ok (.invokevirtual 120, 3) := by decide +kernel
theorem dX5_findFitting_186 : decode cX5_findFitting 186 = .ok (.istore 4, 2) := by decide +kernel
theorem dX5_findFitting_188 : decode cX5_findFitting 188 = .ok (.iinc 5 1, 3) := by decide +kernel
theorem dX5_findFitting_191 : decode cX5_findFitting 191 = .ok (.goto (-185), 3) := by decide +kernel
theorem dX5_findFitting_194 : decode cX5_findFitting 194 = .ok (.iload 4, 2) := by decide +kernel
theorem dX5_findFitting_196 : decode cX5_findFitting 196 = .ok (.ireturn, 1) := by decide +kernel
theorem dX5_reached_0 : decode cX5_reached 0 = .ok (.iconst 0, 1) := by decide +kernel
theorem dX5_reached_1 : decode cX5_reached 1 = .ok (.istore 4, 2) := by decide +kernel
theorem dX5_reached_3 : decode cX5_reached 3 = .ok (.iconst 0, 1) := by decide +kernel
theorem dX5_reached_4 : decode cX5_reached 4 = .ok (.istore 5, 2) := by decide +kernel
theorem dX5_reached_6 : decode cX5_reached 6 = .ok (.iload 5, 2) := by decide +kernel
theorem dX5_reached_8 : decode cX5_reached 8 = .ok (.aload_n 0, 1) := by decide +kernel
theorem dX5_reached_9 : decode cX5_reached 9 = .ok (.getfield 34, 3) := by decide +kernel
theorem dX5_reached_12 : decode cX5_reached 12 = .ok (.getfield 124, 3) := by decide +kernel
theorem dX5_reached_15 : decode cX5_reached 15 = .ok (.if_icmp .ge 55, 3) := by decide +kernel
theorem dX5_reached_18 : decode cX5_reached 18 = .ok (.aload_n 0, 1) := by decide +kernel
theorem dX5_reached_19 : decode cX5_reached 19 = .ok (.getfield 34, 3) := by decide +kernel
theorem dX5_reached_22 : decode cX5_reached 22 = .ok (.iload 5, 2) := by decide +kernel
theorem dX5_reached_24 : decode cX5_reached 24 = .ok (.invokevirtual 125, 3) := by decide +kernel
theorem dX5_reached_27 : decode cX5_reached 27 = .ok (.astore 6, 2) := by decide +kernel
theorem dX5_reached_29 : decode cX5_reached 29 = .ok (.aload 6, 2) := by decide +kernel
theorem dX5_reached_31 : decode cX5_reached 31 = .ok (.ifnull 33, 3) := by decide +kernel
theorem dX5_reached_34 : decode cX5_reached 34 = .ok (.iload_n 1, 1) := by decide +kernel
theorem dX5_reached_35 : decode cX5_reached 35 = .ok (.iload 5, 2) := by decide +kernel
theorem dX5_reached_37 : decode cX5_reached 37 = .ok (.ishr, 1) := by decide +kernel
theorem dX5_reached_38 : decode cX5_reached 38 = .ok (.iconst 1, 1) := by decide +kernel
theorem dX5_reached_39 : decode cX5_reached 39 = .ok (.iand, 1) := by decide +kernel
theorem dX5_reached_40 : decode cX5_reached 40 = .ok (.ifCond .eq 24, 3) := by decide +kernel
theorem dX5_reached_43 : decode cX5_reached 43 = .ok (.aload_n 0, 1) := by decide +kernel
theorem dX5_reached_44 : decode cX5_reached 44 = .ok (.aload 6, 2) := by decide +kernel
theorem dX5_reached_46 : decode cX5_reached 46 = .ok (.iload_n 2, 1) := by decide +kernel
theorem dX5_reached_47 : decode cX5_reached 47 = .ok (.invokevirtual 151, 3) := by decide +kernel
theorem dX5_reached_50 : decode cX5_reached 50 = .ok (.iload_n 3, 1) := by decide +kernel
theorem dX5_reached_51 : decode cX5_reached 51 = .ok (.iand, 1) := by decide +kernel
theorem dX5_reached_52 : decode cX5_reached 52 = .ok (.ifCond .eq 12, 3) := by decide +kernel
theorem dX5_reached_55 : decode cX5_reached 55 = .ok (.iload 4, 2) := by decide +kernel
theorem dX5_reached_57 : decode cX5_reached 57 = .ok (.iconst 1, 1) := by decide +kernel
theorem dX5_reached_58 : decode cX5_reached 58 = .ok (.iload 5, 2) := by decide +kernel
theorem dX5_reached_60 : decode cX5_reached 60 = .ok (.ishl, 1) := by decide +kernel
theorem dX5_reached_61 : decode cX5_reached 61 = .ok (.ior, 1) := by decide +kernel
theorem dX5_reached_62 : decode cX5_reached 62 = .ok (.istore 4, 2) := by decide +kernel
theorem dX5_reached_64 : decode cX5_reached 64 = .ok (.iinc 5 1, 3) := by decide +kernel
theorem dX5_reached_67 : decode cX5_reached 67 = .ok (.goto (-61), 3) := by decide +kernel
theorem dX5_reached_70 : decode cX5_reached 70 = .ok (.iload 4, 2) := by decide +kernel
theorem dX5_reached_72 : decode cX5_reached 72 = .ok (.ireturn, 1) := by decide +kernel
theorem dX10_partsIn_0 : decode cX10_partsIn 0 = .ok (.iconst 0, 1) := by decide +kernel
theorem dX10_partsIn_1 : decode cX10_partsIn 1 = .ok (.istore_n 3, 1) := by decide +kernel
theorem dX10_partsIn_2 : decode cX10_partsIn 2 = .ok (.iconst 0, 1) := by decide +kernel
theorem dX10_partsIn_3 : decode cX10_partsIn 3 = .ok (.istore 4, 2) := by decide +kernel
theorem dX10_partsIn_5 : decode cX10_partsIn 5 = .ok (.iload 4, 2) := by decide +kernel
theorem dX10_partsIn_7 : decode cX10_partsIn 7 = .ok (.aload_n 0, 1) := by decide +kernel
theorem dX10_partsIn_8 : decode cX10_partsIn 8 = .ok (.getfield 20, 3) := by decide +kernel
theorem dX10_partsIn_11 : decode cX10_partsIn 11 = .ok (.if_icmp .ge 61, 3) := by decide +kernel
theorem dX10_partsIn_14 : decode cX10_partsIn 14 = .ok (.aload_n 0, 1) := by decide +kernel
theorem dX10_partsIn_15 : decode cX10_partsIn 15 = .ok (.iload 4, 2) := by decide +kernel
theorem dX10_partsIn_17 : decode cX10_partsIn 17 = .ok (.invokevirtual 34, 3) := by decide +kernel
theorem dX10_partsIn_20 : decode cX10_partsIn 20 = .ok (.astore 5, 2) := by decide +kernel
theorem dX10_partsIn_22 : decode cX10_partsIn 22 = .ok (.aload 5, 2) := by decide +kernel
theorem dX10_partsIn_24 : decode cX10_partsIn 24 = .ok (.ifnull 42, 3) := by decide +kernel
theorem dX10_partsIn_27 : decode cX10_partsIn 27 = .ok (.aload 5, 2) := by decide +kernel
theorem dX10_partsIn_29 : decode cX10_partsIn 29 = .ok (.getfield 139, 3) := by decide +kernel
theorem dX10_partsIn_32 : decode cX10_partsIn 32 = .ok (.iload_n 2, 1) := by decide +kernel
theorem dX10_partsIn_33 : decode cX10_partsIn 33 = .ok (.if_icmp .ne 33, 3) := by decide +kernel
theorem dX10_partsIn_36 : decode cX10_partsIn 36 = .ok (.aload 5, 2) := by decide +kernel
theorem dX10_partsIn_38 : decode cX10_partsIn 38 = .ok (.getfield 101, 3) := by decide +kernel
theorem dX10_partsIn_41 : decode cX10_partsIn 41 = .ok (.ifnull 25, 3) := by decide +kernel
theorem dX10_partsIn_44 : decode cX10_partsIn 44 = .ok (.iload_n 1, 1) := by decide +kernel
theorem dX10_partsIn_45 : decode cX10_partsIn 45 = .ok (.aload 5, 2) := by decide +kernel
theorem dX10_partsIn_47 : decode cX10_partsIn 47 = .ok (.getfield 101, 3) := by decide +kernel
theorem dX10_partsIn_50 : decode cX10_partsIn 50 = .ok (.getfield 31, 3) := by decide +kernel
theorem dX10_partsIn_53 : decode cX10_partsIn 53 = .ok (.ishr, 1) := by decide +kernel
theorem dX10_partsIn_54 : decode cX10_partsIn 54 = .ok (.iconst 1, 1) := by decide +kernel
theorem dX10_partsIn_55 : decode cX10_partsIn 55 = .ok (.iand, 1) := by decide +kernel
theorem dX10_partsIn_56 : decode cX10_partsIn 56 = .ok (.ifCond .eq 10, 3) := by decide +kernel
theorem dX10_partsIn_59 : decode cX10_partsIn 59 = .ok (.iload_n 3, 1) := by decide +kernel
theorem dX10_partsIn_60 : decode cX10_partsIn 60 = .ok (.iconst 1, 1) := by decide +kernel
theorem dX10_partsIn_61 : decode cX10_partsIn 61 = .ok (.iload 4, 2) := by decide +kernel
theorem dX10_partsIn_63 : decode cX10_partsIn 63 = .ok (.ishl, 1) := by decide +kernel
theorem dX10_partsIn_64 : decode cX10_partsIn 64 = .ok (.ior, 1) := by decide +kernel
theorem dX10_partsIn_65 : decode cX10_partsIn 65 = .ok (.istore_n 3, 1) := by decide +kernel
theorem dX10_partsIn_66 : decode cX10_partsIn 66 = .ok (.iinc 4 1, 3) := by decide +kernel
theorem dX10_partsIn_69 : decode cX10_partsIn 69 = .ok (.goto (-64), 3) := by decide +kernel
theorem dX10_partsIn_72 : decode cX10_partsIn 72 = .ok (.iload_n 3, 1) := by decide +kernel
theorem dX10_partsIn_73 : decode cX10_partsIn 73 = .ok (.ireturn, 1) := by decide +kernel
theorem dX5_findSet_0 : decode cX5_findSet 0 = .ok (.aload_n 0, 1) := by decide +kernel
theorem dX5_findSet_1 : decode cX5_findSet 1 = .ok (.getfield 34, 3) := by decide +kernel
theorem dX5_findSet_4 : decode cX5_findSet 4 = .ok (.aload_n 2, 1) := by decide +kernel
theorem dX5_findSet_5 : decode cX5_findSet 5 = .ok (.invokevirtual 68, 3) := by decide +kernel
theorem dX5_findSet_8 : decode cX5_findSet 8 = .ok (.istore 4, 2) := by decide +kernel
theorem dX5_findSet_10 : decode cX5_findSet 10 = .ok (.iconst 0, 1) := by decide +kernel
theorem dX5_findSet_11 : decode cX5_findSet 11 = .ok (.istore 5, 2) := by decide +kernel
theorem dX5_findSet_13 : decode cX5_findSet 13 = .ok (.aload_n 1, 1) := by decide +kernel
theorem dX5_findSet_14 : decode cX5_findSet 14 = .ok (.getfield 72, 3) := by decide +kernel
theorem dX5_findSet_17 : decode cX5_findSet 17 = .ok (.astore 6, 2) := by decide +kernel
theorem dX5_findSet_19 : decode cX5_findSet 19 = .ok (.aload 6, 2) := by decide +kernel
theorem dX5_findSet_21 : decode cX5_findSet 21 = .ok (.ifnull 78, 3) := by decide +kernel
theorem dX5_findSet_24 : decode cX5_findSet 24 = .ok (.aload_n 0, 1) := by decide +kernel
theorem dX5_findSet_25 : decode cX5_findSet 25 = .ok (.aload 6, 2) := by decide +kernel
theorem dX5_findSet_27 : decode cX5_findSet 27 = .ok (.aload 6, 2) := by decide +kernel
theorem dX5_findSet_29 : decode cX5_findSet 29 = .ok (.getfield 76, 3) := by decide +kernel
theorem dX5_findSet_32 : decode cX5_findSet 32 = .ok (.ifCond .eq 20, 3) := by decide +kernel
theorem dX5_findSet_35 : decode cX5_findSet 35 = .ok (.aload_n 2, 1) := by decide +kernel
theorem dX5_findSet_36 : decode cX5_findSet 36 = .ok (.ifnonnull 7, 3) := by decide +kernel
theorem dX5_findSet_39 : decode cX5_findSet 39 = .ok (.iconst 0, 1) := by decide +kernel
theorem dX5_findSet_40 : decode cX5_findSet 40 = .ok (.goto 14, 3) := by decide +kernel
theorem dX5_findSet_43 : decode cX5_findSet 43 = .ok (.iconst 1, 1) := by decide +kernel
theorem dX5_findSet_44 : decode cX5_findSet 44 = .ok (.aload_n 2, 1) := by decide +kernel
theorem dX5_findSet_45 : decode cX5_findSet 45 = .ok (.getfield 46, 3) := by decide +kernel
theorem dX5_findSet_48 : decode cX5_findSet 48 = .ok (.ishl, 1) := by decide +kernel
theorem dX5_findSet_49 : decode cX5_findSet 49 = .ok (.goto 5, 3) := by decide +kernel
theorem dX5_findSet_52 : decode cX5_findSet 52 = .ok (.iload 4, 2) := by decide +kernel
theorem dX5_findSet_54 : decode cX5_findSet 54 = .ok (.aload_n 3, 1) := by decide +kernel
theorem dX5_findSet_55 : decode cX5_findSet 55 = .ok (.invokevirtual 82, 3) := by decide +kernel
theorem dX5_findSet_58 : decode cX5_findSet 58 = .ok (.istore 7, 2) := by decide +kernel
theorem dX5_findSet_60 : decode cX5_findSet 60 = .ok (.aload 6, 2) := by decide +kernel
theorem dX5_findSet_62 : decode cX5_findSet 62 = .ok (.aload_n 1, 1) := by decide +kernel
theorem dX5_findSet_63 : decode cX5_findSet 63 = .ok (.getfield 72, 3) := by decide +kernel
theorem dX5_findSet_66 : decode cX5_findSet 66 = .ok (.if_acmp .ne 8, 3) := by decide +kernel
theorem dX5_findSet_69 : decode cX5_findSet 69 = .ok (.iload 7, 2) := by decide +kernel
theorem dX5_findSet_71 : decode cX5_findSet 71 = .ok (.goto 16, 3) := by decide +kernel
theorem dX5_findSet_74 : decode cX5_findSet 74 = .ok (.aload_n 0, 1) := by decide +kernel
theorem dX5_findSet_75 : decode cX5_findSet 75 = .ok (.iload 7, 2) := by decide +kernel
theorem dX5_findSet_77 : decode cX5_findSet 77 = .ok (.aload 6, 2) := by decide +kernel
theorem dX5_findSet_79 : decode cX5_findSet 79 = .ok (.getfield 86, 3) := by decide +kernel
theorem dX5_findSet_82 : decode cX5_findSet 82 = .ok (.iload 5, 2) := by decide +kernel
theorem dX5_findSet_84 : decode cX5_findSet 84 = .ok (.invokevirtual 89, 3) := by decide +kernel
theorem dX5_findSet_87 : decode cX5_findSet 87 = .ok (.istore 5, 2) := by decide +kernel
theorem dX5_findSet_89 : decode cX5_findSet 89 = .ok (.aload 6, 2) := by decide +kernel
theorem dX5_findSet_91 : decode cX5_findSet 91 = .ok (.getfield 93, 3) := by decide +kernel
theorem dX5_findSet_94 : decode cX5_findSet 94 = .ok (.astore 6, 2) := by decide +kernel
theorem dX5_findSet_96 : decode cX5_findSet 96 = .ok (.goto (-77), 3) := by decide +kernel
theorem dX5_findSet_99 : decode cX5_findSet 99 = .ok (.aload_n 1, 1) := by decide +kernel
theorem dX5_findSet_100 : decode cX5_findSet 100 = .ok (.getfield 96, 3) := by decide +kernel
theorem dX5_findSet_103 : decode cX5_findSet 103 = .ok (.iconst (-1), 1) := by decide +kernel
theorem dX5_findSet_104 : decode cX5_findSet 104 = .ok (.if_icmp .ne 8, 3) := by decide +kernel
theorem dX5_findSet_107 : decode cX5_findSet 107 = .ok (.iload 5, 2) := by decide +kernel
theorem dX5_findSet_109 : decode cX5_findSet 109 = .ok (.goto 16, 3) := by decide +kernel
theorem dX5_findSet_112 : decode cX5_findSet 112 = .ok (.aload_n 0, 1) := by decide +kernel
theorem dX5_findSet_113 : decode cX5_findSet 113 = .ok (.getfield 34, 3) := by decide +kernel
theorem dX5_findSet_116 : decode cX5_findSet 116 = .ok (.iload 5, 2) := by decide +kernel
theorem dX5_findSet_118 : decode cX5_findSet 118 = .ok (.aload_n 1, 1) := by decide +kernel
theorem dX5_findSet_119 : decode cX5_findSet 119 = .ok (.getfield 96, 3) := by decide +kernel
theorem dX5_findSet_122 : decode cX5_findSet 122 = .ok (.invokevirtual 99, 3) := by decide +kernel
theorem dX5_findSet_125 : decode cX5_findSet 125 = .ok (.ireturn, 1) := by decide +kernel
theorem dX5_setOf_0 : decode cX5_setOf 0 = .ok (.aload_n 2, 1) := by decide +kernel
theorem dX5_setOf_1 : decode cX5_setOf 1 = .ok (.ifnonnull 8, 3) := by decide +kernel
theorem dX5_setOf_4 : decode cX5_setOf 4 = .ok (.bipush 30, 2) := by decide +kernel
theorem dX5_setOf_6 : decode cX5_setOf 6 = .ok (.goto 7, 3) := by decide +kernel
theorem dX5_setOf_9 : decode cX5_setOf 9 = .ok (.aload_n 2, 1) := by decide +kernel
theorem dX5_setOf_10 : decode cX5_setOf 10 = .ok (.getfield 46, 3) := by decide +kernel
theorem dX5_setOf_13 : decode cX5_setOf 13 = .ok (.istore_n 3, 1) := by decide +kernel
theorem dX5_setOf_14 : decode cX5_setOf 14 = .ok (.iload_n 3, 1) := by decide +kernel
theorem dX5_setOf_15 : decode cX5_setOf 15 = .ok (.ifCond .lt 25, 3) := by decide +kernel
theorem dX5_setOf_18 : decode cX5_setOf 18 = .ok (.iload_n 3, 1) := by decide +kernel
theorem dX5_setOf_19 : decode cX5_setOf 19 = .ok (.bipush 30, 2) := by decide +kernel
theorem dX5_setOf_21 : decode cX5_setOf 21 = .ok (.if_icmp .gt 19, 3) := by decide +kernel
theorem dX5_setOf_24 : decode cX5_setOf 24 = .ok (.aload_n 1, 1) := by decide +kernel
theorem dX5_setOf_25 : decode cX5_setOf 25 = .ok (.getfield 51, 3) := by decide +kernel
theorem dX5_setOf_28 : decode cX5_setOf 28 = .ok (.ifCond .lt 12, 3) := by decide +kernel
theorem dX5_setOf_31 : decode cX5_setOf 31 = .ok (.aload_n 1, 1) := by decide +kernel
theorem dX5_setOf_32 : decode cX5_setOf 32 = .ok (.getfield 51, 3) := by decide +kernel
theorem dX5_setOf_35 : decode cX5_setOf 35 = .ok (.bipush 30, 2) := by decide +kernel
theorem dX5_setOf_37 : decode cX5_setOf 37 = .ok (.if_icmp .lt 5, 3) := by decide +kernel
theorem dX5_setOf_40 : decode cX5_setOf 40 = .ok (.iconst 0, 1) := by decide +kernel
theorem dX5_setOf_41 : decode cX5_setOf 41 = .ok (.ireturn, 1) := by decide +kernel
theorem dX5_setOf_42 : decode cX5_setOf 42 = .ok (.aload_n 0, 1) := by decide +kernel
theorem dX5_setOf_43 : decode cX5_setOf 43 = .ok (.getfield 31, 3) := by decide +kernel
theorem dX5_setOf_46 : decode cX5_setOf 46 = .ok (.iload_n 3, 1) := by decide +kernel
theorem dX5_setOf_47 : decode cX5_setOf 47 = .ok (.iaload, 1) := by decide +kernel
theorem dX5_setOf_48 : decode cX5_setOf 48 = .ok (.aload_n 0, 1) := by decide +kernel
theorem dX5_setOf_49 : decode cX5_setOf 49 = .ok (.getfield 34, 3) := by decide +kernel
theorem dX5_setOf_52 : decode cX5_setOf 52 = .ok (.getfield 52, 3) := by decide +kernel
theorem dX5_setOf_55 : decode cX5_setOf 55 = .ok (.if_icmp .eq 23, 3) := by decide +kernel
theorem dX5_setOf_58 : decode cX5_setOf 58 = .ok (.aload_n 0, 1) := by decide +kernel
theorem dX5_setOf_59 : decode cX5_setOf 59 = .ok (.getfield 31, 3) := by decide +kernel
theorem dX5_setOf_62 : decode cX5_setOf 62 = .ok (.iload_n 3, 1) := by decide +kernel
theorem dX5_setOf_63 : decode cX5_setOf 63 = .ok (.aload_n 0, 1) := by decide +kernel
theorem dX5_setOf_64 : decode cX5_setOf 64 = .ok (.getfield 34, 3) := by decide +kernel
theorem dX5_setOf_67 : decode cX5_setOf 67 = .ok (.getfield 52, 3) := by decide +kernel
theorem dX5_setOf_70 : decode cX5_setOf 70 = .ok (.iastore, 1) := by decide +kernel
theorem dX5_setOf_71 : decode cX5_setOf 71 = .ok (.aload_n 0, 1) := by decide +kernel
theorem dX5_setOf_72 : decode cX5_setOf 72 = .ok (.getfield 27, 3) := by decide +kernel
theorem dX5_setOf_75 : decode cX5_setOf 75 = .ok (.iload_n 3, 1) := by decide +kernel
theorem dX5_setOf_76 : decode cX5_setOf 76 = .ok (.iconst 0, 1) := by decide +kernel
theorem dX5_setOf_77 : decode cX5_setOf 77 = .ok (.iastore, 1) := by decide +kernel
theorem dX5_setOf_78 : decode cX5_setOf 78 = .ok (.aload_n 1, 1) := by decide +kernel
theorem dX5_setOf_79 : decode cX5_setOf 79 = .ok (.getfield 57, 3) := by decide +kernel
theorem dX5_setOf_82 : decode cX5_setOf 82 = .ok (.aload_n 0, 1) := by decide +kernel
theorem dX5_setOf_83 : decode cX5_setOf 83 = .ok (.getfield 27, 3) := by decide +kernel
theorem dX5_setOf_86 : decode cX5_setOf 86 = .ok (.iload_n 3, 1) := by decide +kernel
theorem dX5_setOf_87 : decode cX5_setOf 87 = .ok (.iaload, 1) := by decide +kernel
theorem dX5_setOf_88 : decode cX5_setOf 88 = .ok (.iconst (-1), 1) := by decide +kernel
theorem dX5_setOf_89 : decode cX5_setOf 89 = .ok (.ixor, 1) := by decide +kernel
theorem dX5_setOf_90 : decode cX5_setOf 90 = .ok (.iand, 1) := by decide +kernel
theorem dX5_setOf_91 : decode cX5_setOf 91 = .ok (.istore 4, 2) := by decide +kernel
theorem dX5_setOf_93 : decode cX5_setOf 93 = .ok (.iconst 0, 1) := by decide +kernel
theorem dX5_setOf_94 : decode cX5_setOf 94 = .ok (.istore 5, 2) := by decide +kernel
theorem dX5_setOf_96 : decode cX5_setOf 96 = .ok (.iload 5, 2) := by decide +kernel
theorem dX5_setOf_98 : decode cX5_setOf 98 = .ok (.aload_n 1, 1) := by decide +kernel
theorem dX5_setOf_99 : decode cX5_setOf 99 = .ok (.getfield 51, 3) := by decide +kernel
theorem dX5_setOf_102 : decode cX5_setOf 102 = .ok (.if_icmp .gt 59, 3) := by decide +kernel
theorem dX5_setOf_105 : decode cX5_setOf 105 = .ok (.iload 4, 2) := by decide +kernel
theorem dX5_setOf_107 : decode cX5_setOf 107 = .ok (.ifCond .eq 54, 3) := by decide +kernel
theorem dX5_setOf_110 : decode cX5_setOf 110 = .ok (.aload_n 0, 1) := by decide +kernel
theorem dX5_setOf_111 : decode cX5_setOf 111 = .ok (.iload 5, 2) := by decide +kernel
theorem dX5_setOf_113 : decode cX5_setOf 113 = .ok (.invokevirtual 60, 3) := by decide +kernel
theorem dX5_setOf_116 : decode cX5_setOf 116 = .ok (.astore 6, 2) := by decide +kernel
theorem dX5_setOf_118 : decode cX5_setOf 118 = .ok (.aload 6, 2) := by decide +kernel
theorem dX5_setOf_120 : decode cX5_setOf 120 = .ok (.ifnull 35, 3) := by decide +kernel
theorem dX5_setOf_123 : decode cX5_setOf 123 = .ok (.iload 4, 2) := by decide +kernel
theorem dX5_setOf_125 : decode cX5_setOf 125 = .ok (.iload 5, 2) := by decide +kernel
theorem dX5_setOf_127 : decode cX5_setOf 127 = .ok (.ishr, 1) := by decide +kernel
theorem dX5_setOf_128 : decode cX5_setOf 128 = .ok (.iconst 1, 1) := by decide +kernel
theorem dX5_setOf_129 : decode cX5_setOf 129 = .ok (.iand, 1) := by decide +kernel
theorem dX5_setOf_130 : decode cX5_setOf 130 = .ok (.ifCond .eq 25, 3) := by decide +kernel
theorem dX5_setOf_133 : decode cX5_setOf 133 = .ok (.aload_n 0, 1) := by decide +kernel
theorem dX5_setOf_134 : decode cX5_setOf 134 = .ok (.getfield 24, 3) := by decide +kernel
theorem dX5_setOf_137 : decode cX5_setOf 137 = .ok (.iload_n 3, 1) := by decide +kernel
theorem dX5_setOf_138 : decode cX5_setOf 138 = .ok (.aaload, 1) := by decide +kernel
theorem dX5_setOf_139 : decode cX5_setOf 139 = .ok (.iload 5, 2) := by decide +kernel
theorem dX5_setOf_141 : decode cX5_setOf 141 = .ok (.aload_n 0, 1) := by decide +kernel
theorem dX5_setOf_142 : decode cX5_setOf 142 = .ok (.aload 6, 2) := by decide +kernel
theorem dX5_setOf_144 : decode cX5_setOf 144 = .ok (.aload_n 2, 1) := by decide +kernel
theorem dX5_setOf_145 : decode cX5_setOf 145 = .ok (.aload_n 0, 1) := by decide +kernel
theorem dX5_setOf_146 : decode cX5_setOf 146 = .ok (.getfield 24, 3) := by decide +kernel
theorem dX5_setOf_149 : decode cX5_setOf 149 = .ok (.iload_n 3, 1) := by decide +kernel
theorem dX5_setOf_150 : decode cX5_setOf 150 = .ok (.aaload, 1) := by decide +kernel
theorem dX5_setOf_151 : decode cX5_setOf 151 = .ok (.invokevirtual 64, 3) := by decide +kernel
theorem dX5_setOf_154 : decode cX5_setOf 154 = .ok (.iastore, 1) := by decide +kernel
theorem dX5_setOf_155 : decode cX5_setOf 155 = .ok (.iinc 5 1, 3) := by decide +kernel
theorem dX5_setOf_158 : decode cX5_setOf 158 = .ok (.goto (-62), 3) := by decide +kernel
theorem dX5_setOf_161 : decode cX5_setOf 161 = .ok (.aload_n 0, 1) := by decide +kernel
theorem dX5_setOf_162 : decode cX5_setOf 162 = .ok (.getfield 27, 3) := by decide +kernel
theorem dX5_setOf_165 : decode cX5_setOf 165 = .ok (.iload_n 3, 1) := by decide +kernel
theorem dX5_setOf_166 : decode cX5_setOf 166 = .ok (.dup2, 1) := by decide +kernel
theorem dX5_setOf_167 : decode cX5_setOf 167 = .ok (.iaload, 1) := by decide +kernel
theorem dX5_setOf_168 : decode cX5_setOf 168 = .ok (.iload 4, 2) := by decide +kernel
theorem dX5_setOf_170 : decode cX5_setOf 170 = .ok (.ior, 1) := by decide +kernel
theorem dX5_setOf_171 : decode cX5_setOf 171 = .ok (.iastore, 1) := by decide +kernel
theorem dX5_setOf_172 : decode cX5_setOf 172 = .ok (.aload_n 0, 1) := by decide +kernel
theorem dX5_setOf_173 : decode cX5_setOf 173 = .ok (.getfield 24, 3) := by decide +kernel
theorem dX5_setOf_176 : decode cX5_setOf 176 = .ok (.iload_n 3, 1) := by decide +kernel
theorem dX5_setOf_177 : decode cX5_setOf 177 = .ok (.aaload, 1) := by decide +kernel
theorem dX5_setOf_178 : decode cX5_setOf 178 = .ok (.aload_n 1, 1) := by decide +kernel
theorem dX5_setOf_179 : decode cX5_setOf 179 = .ok (.getfield 51, 3) := by decide +kernel
theorem dX5_setOf_182 : decode cX5_setOf 182 = .ok (.iaload, 1) := by decide +kernel
theorem dX5_setOf_183 : decode cX5_setOf 183 = .ok (.ireturn, 1) := by decide +kernel
theorem dX1_prepare_0 : decode cX1_prepare 0 = .ok (.aload_n 0, 1) := by decide +kernel
theorem dX1_prepare_1 : decode cX1_prepare 1 = .ok (.getfield 54, 3) := by decide +kernel
theorem dX1_prepare_4 : decode cX1_prepare 4 = .ok (.astore_n 1, 1) := by decide +kernel
theorem dX1_prepare_5 : decode cX1_prepare 5 = .ok (.aload_n 1, 1) := by decide +kernel
theorem dX1_prepare_6 : decode cX1_prepare 6 = .ok (.ifnull 99, 3) := by decide +kernel
theorem dX1_prepare_9 : decode cX1_prepare 9 = .ok (.aload_n 1, 1) := by decide +kernel
theorem dX1_prepare_10 : decode cX1_prepare 10 = .ok (.getfield 79, 3) := by decide +kernel
theorem dX1_prepare_13 : decode cX1_prepare 13 = .ok (.astore_n 2, 1) := by decide +kernel
theorem dX1_prepare_14 : decode cX1_prepare 14 = .ok (.aload_n 2, 1) := by decide +kernel
theorem dX1_prepare_15 : decode cX1_prepare 15 = .ok (.ifnull 22, 3) := by decide +kernel
theorem dX1_prepare_18 : decode cX1_prepare 18 = .ok (.aload_n 2, 1) := by decide +kernel
theorem dX1_prepare_19 : decode cX1_prepare 19 = .ok (.getfield 83, 3) := by decide +kernel
theorem dX1_prepare_22 : decode cX1_prepare 22 = .ok (.ifCond .eq 15, 3) := by decide +kernel
theorem dX1_prepare_25 : decode cX1_prepare 25 = .ok (.aload_n 0, 1) := by decide +kernel
theorem dX1_prepare_26 : decode cX1_prepare 26 = .ok (.aload_n 2, 1) := by decide +kernel
theorem dX1_prepare_27 : decode cX1_prepare 27 = .ok (.invokevirtual 86, 3) := by decide +kernel
theorem dX1_prepare_30 : decode cX1_prepare 30 = .ok (.ifCond .eq 7, 3) := by decide +kernel
theorem dX1_prepare_33 : decode cX1_prepare 33 = .ok (.iconst 1, 1) := by decide +kernel
theorem dX1_prepare_34 : decode cX1_prepare 34 = .ok (.goto 4, 3) := by decide +kernel
theorem dX1_prepare_37 : decode cX1_prepare 37 = .ok (.iconst 0, 1) := by decide +kernel
theorem dX1_prepare_38 : decode cX1_prepare 38 = .ok (.istore_n 3, 1) := by decide +kernel
theorem dX1_prepare_39 : decode cX1_prepare 39 = .ok (.aload_n 1, 1) := by decide +kernel
theorem dX1_prepare_40 : decode cX1_prepare 40 = .ok (.iload_n 3, 1) := by decide +kernel
theorem dX1_prepare_41 : decode cX1_prepare 41 = .ok (.ifCond .eq 21, 3) := by decide +kernel
theorem dX1_prepare_44 : decode cX1_prepare 44 = .ok (.aload_n 0, 1) := by decide +kernel
theorem dX1_prepare_45 : decode cX1_prepare 45 = .ok (.getfield 34, 3) := by decide +kernel
theorem dX1_prepare_48 : decode cX1_prepare 48 = .ok (.aload_n 1, 1) := by decide +kernel
theorem dX1_prepare_49 : decode cX1_prepare 49 = .ok (.getfield 90, 3) := by decide +kernel
theorem dX1_prepare_52 : decode cX1_prepare 52 = .ok (.aload_n 2, 1) := by decide +kernel
theorem dX1_prepare_53 : decode cX1_prepare 53 = .ok (.getfield 94, 3) := by decide +kernel
theorem dX1_prepare_56 : decode cX1_prepare 56 = .ok (.invokevirtual 98, 3) := by decide +kernel
theorem dX1_prepare_59 : decode cX1_prepare 59 = .ok (.goto 4, 3) := by decide +kernel
theorem dX1_prepare_62 : decode cX1_prepare 62 = .ok (.iconst 0, 1) := by decide +kernel
theorem dX1_prepare_63 : decode cX1_prepare 63 = .ok (.putfield 104, 3) := by decide +kernel
theorem dX1_prepare_66 : decode cX1_prepare 66 = .ok (.aload_n 1, 1) := by decide +kernel
theorem dX1_prepare_67 : decode cX1_prepare 67 = .ok (.aload_n 2, 1) := by decide +kernel
theorem dX1_prepare_68 : decode cX1_prepare 68 = .ok (.ifnull 10, 3) := by decide +kernel
theorem dX1_prepare_71 : decode cX1_prepare 71 = .ok (.aload_n 2, 1) := by decide +kernel
theorem dX1_prepare_72 : decode cX1_prepare 72 = .ok (.getfield 94, 3) := by decide +kernel
theorem dX1_prepare_75 : decode cX1_prepare 75 = .ok (.ifnonnull 7, 3) := by decide +kernel
theorem dX1_prepare_78 : decode cX1_prepare 78 = .ok (.iconst 0, 1) := by decide +kernel
theorem dX1_prepare_79 : decode cX1_prepare 79 = .ok (.goto 15, 3) := by decide +kernel
theorem dX1_prepare_82 : decode cX1_prepare 82 = .ok (.aload_n 2, 1) := by decide +kernel
theorem dX1_prepare_83 : decode cX1_prepare 83 = .ok (.getfield 94, 3) := by decide +kernel
theorem dX1_prepare_86 : decode cX1_prepare 86 = .ok (.getfield 107, 3) := by decide +kernel
theorem dX1_prepare_89 : decode cX1_prepare 89 = .ok (.getfield 112, 3) := by decide +kernel
theorem dX1_prepare_92 : decode cX1_prepare 92 = .ok (.iconst 1, 1) := by decide +kernel
theorem dX1_prepare_93 : decode cX1_prepare 93 = .ok (.iadd, 1) := by decide +kernel
theorem dX1_prepare_94 : decode cX1_prepare 94 = .ok (.putfield 112, 3) := by decide +kernel
theorem dX1_prepare_97 : decode cX1_prepare 97 = .ok (.aload_n 1, 1) := by decide +kernel
theorem dX1_prepare_98 : decode cX1_prepare 98 = .ok (.getfield 57, 3) := by decide +kernel
theorem dX1_prepare_101 : decode cX1_prepare 101 = .ok (.astore_n 1, 1) := by decide +kernel
theorem dX1_prepare_102 : decode cX1_prepare 102 = .ok (.goto (-97), 3) := by decide +kernel
theorem dX1_prepare_105 : decode cX1_prepare 105 = .ok (.return_, 1) := by decide +kernel
def f_X0_shownAt_16  (x0 : Nat) (x3 : Int32) (σ : cS) : Option (Int32) := some x3
def f_X0_shownAt_48  (x0 : Nat) (x3 : Int32) (σ : cS) : Option (Int32) := some x3
def f_X0_shownAt_275  (x0 : Nat) (y0 : Int32) (σ : cS) : Option (Int32) := some y0
def f_X0_shownAt_221 (k179 : Int32 → Int32 → Int32 → Int32 → Int32 → Int32 → Int32 → Int32 → Option (Int32)) (x0 : Nat) (x1 : Int32) (x4 : Int32) (x6 : Int32) (x8 : Int32) (x9 : Int32) (x10 : Int32) (x11 : Int32) (x12 : Int32) (σ : cS) : Option (Int32) := k179 (x1) (x4) (x6) (x8) (x9) (x10) (x11) ((x12 + ((-1):Int32)))
def f_X0_shownAt_179  (x0 : Nat) : Nat → Int32 → Int32 → Int32 → Int32 → Int32 → Int32 → Int32 → Int32 → cS → Option (Int32)
  | 0, _, _, _, _, _, _, _, _, _ => none
  | n + 1, x1, x4, x6, x8, x9, x10, x11, x12, σ => if x12 < (0:Int32) then ((gI σ (some x0) 0 0).bind (fun v1 => if (0:Int32) < ((x10 - x8) * v1) then ((gI σ (some x0) 0 0).bind (fun v2 => (ldv (((x11 - x9)).toInt64 * ((x6 - (x8 * v2))).toInt64) (((x10 - x8) * v1)).toInt64).bind (fun v3 => f_X0_shownAt_275 x0 ((x9 + (v3).toInt32)) σ))) else (f_X0_shownAt_275 x0 (x9) σ))) else (if ((x4 >>> (x12 &&& 31)) &&& (1:Int32)) = (0:Int32) then (f_X0_shownAt_221 (fun z0 z1 z2 z3 z4 z5 z6 z7 => f_X0_shownAt_179 x0 n z0 z1 z2 z3 z4 z5 z6 z7 σ) x0 (x1) (x4) (x6) (x8) (x9) (x10) (x11) (x12) σ) else ((gI σ (some x0) 0 0).bind (fun v4 => if (x12 * v4) ≤ x6 then (f_X0_shownAt_221 (fun z0 z1 z2 z3 z4 z5 z6 z7 => f_X0_shownAt_179 x0 n z0 z1 z2 z3 z4 z5 z6 z7 σ) x0 (x1) (x4) (x6) (x8) (x9) (x10) (x11) (x12) σ) else ((gR σ (some x0) 0 3).bind (fun v5 => (aR σ v5 50 x1).bind (fun v6 => (aI σ v6 x12).bind (fun v7 => f_X0_shownAt_221 (fun z0 z1 z2 z3 z4 z5 z6 z7 => f_X0_shownAt_179 x0 n z0 z1 z2 z3 z4 z5 z6 z7 σ) x0 (x1) (x4) (x6) (x8) (x9) (x12) (v7) (x12) σ)))))))
def f_X0_shownAt_169 (k125 : Int32 → Int32 → Int32 → Int32 → Int32 → Int32 → Int32 → Int32 → Option (Int32)) (x0 : Nat) (x1 : Int32) (x4 : Int32) (x6 : Int32) (x8 : Int32) (x9 : Int32) (x10 : Int32) (x11 : Int32) (x12 : Int32) (σ : cS) : Option (Int32) := k125 (x1) (x4) (x6) (x8) (x9) (x10) (x11) ((x12 + (1:Int32)))
def f_X0_shownAt_125  (x0 : Nat) : Nat → Int32 → Int32 → Int32 → Int32 → Int32 → Int32 → Int32 → Int32 → cS → Option (Int32)
  | 0, _, _, _, _, _, _, _, _, _ => none
  | n + 1, x1, x4, x6, x8, x9, x10, x11, x12, σ => if (10:Int32) < x12 then (f_X0_shownAt_179 x0 4000 (x1) (x4) (x6) (x8) (x9) (x10) (x11) ((10:Int32)) σ) else (if ((x4 >>> (x12 &&& 31)) &&& (1:Int32)) = (0:Int32) then (f_X0_shownAt_169 (fun z0 z1 z2 z3 z4 z5 z6 z7 => f_X0_shownAt_125 x0 n z0 z1 z2 z3 z4 z5 z6 z7 σ) x0 (x1) (x4) (x6) (x8) (x9) (x10) (x11) (x12) σ) else ((gI σ (some x0) 0 0).bind (fun v1 => if x6 < (x12 * v1) then (f_X0_shownAt_169 (fun z0 z1 z2 z3 z4 z5 z6 z7 => f_X0_shownAt_125 x0 n z0 z1 z2 z3 z4 z5 z6 z7 σ) x0 (x1) (x4) (x6) (x8) (x9) (x10) (x11) (x12) σ) else ((gR σ (some x0) 0 3).bind (fun v2 => (aR σ v2 50 x1).bind (fun v3 => (aI σ v3 x12).bind (fun v4 => f_X0_shownAt_169 (fun z0 z1 z2 z3 z4 z5 z6 z7 => f_X0_shownAt_125 x0 n z0 z1 z2 z3 z4 z5 z6 z7 σ) x0 (x1) (x4) (x6) (x12) (v4) (x10) (x11) (x12) σ)))))))
def f_X0_shownAt_105  (x0 : Nat) (x1 : Int32) (x4 : Int32) (x6 : Int32) (y0 : Int32) (σ : cS) : Option (Int32) := f_X0_shownAt_125 x0 4000 (x1) (x4) (x6) ((0:Int32)) (y0) ((10:Int32)) (y0) ((0:Int32)) σ
def f_X0_shownAt_91  (x0 : Nat) (x1 : Int32) (x3 : Int32) (x4 : Int32) (y0 : Int32) (y1 : Int32) (σ : cS) : Option (Int32) := if x3 = ((-1000000):Int32) then (f_X0_shownAt_105 x0 (x1) (x4) ((y0 * y1)) ((0:Int32)) σ) else (f_X0_shownAt_105 x0 (x1) (x4) ((y0 * y1)) (x3) σ)
def f_X0_shownAt_89  (x0 : Nat) (x1 : Int32) (x3 : Int32) (x4 : Int32) (x5 : Int32) (y0 : Int32) (σ : cS) : Option (Int32) := f_X0_shownAt_91 x0 (x1) (x3) (x4) (y0) (x5) σ
def f_X0_shownAt (x0 : Nat) (x1 : Int32) (x2 : Int32) (x3 : Int32) (σ : cS) : Option (Int32) := if x1 < (0:Int32) then (f_X0_shownAt_16 x0 (x3) σ) else (if (5:Int32) ≤ x1 then (f_X0_shownAt_16 x0 (x3) σ) else ((gI σ (some x0) 0 0).bind (fun v1 => if (0:Int32) < v1 then ((gR σ (some x0) 0 4).bind (fun v2 => (aI σ v2 x1).bind (fun v3 => if v3 = (0:Int32) then (f_X0_shownAt_48 x0 (x3) σ) else (if x2 < (0:Int32) then (f_X0_shownAt_48 x0 (x3) σ) else ((gI σ (some x0) 0 0).bind (fun v4 => (gI σ (some x0) 0 1).bind (fun v5 => if x2 < (v4 * v5) then ((gI σ (some x0) 0 0).bind (fun v6 => (rm x2 v6).bind (fun v7 => (gI σ (some x0) 0 2).bind (fun v8 => if v8 = (0:Int32) then (f_X0_shownAt_89 x0 (x1) (x3) (v3) (v7) ((10:Int32)) σ) else ((gI σ (some x0) 0 0).bind (fun v9 => (dv x2 v9).bind (fun v10 => (rm v10 (2:Int32)).bind (fun v11 => if v11 = (1:Int32) then ((gI σ (some x0) 0 0).bind (fun v12 => f_X0_shownAt_91 x0 (x1) (x3) (v3) ((10:Int32)) ((v12 - v7)) σ)) else (f_X0_shownAt_89 x0 (x1) (x3) (v3) (v7) ((10:Int32)) σ))))))))) else (f_X0_shownAt_48 x0 (x3) σ)))))))) else (f_X0_shownAt_16 x0 (x3) σ))))
set_option maxRecDepth 20000 in
set_option maxHeartbeats 4000000 in
theorem N_X0_shownAt_16 {p : Program} {l : Launch} {e : Env} {s : State} {m : MethodId} {args : Array Value} {below : List Frame} {meth : Method} {c : Code} {D : cD} {Φ : cG} {x0 : Nat}   {x3 : Int32} {σ : cS} {ls : Array Slot} {r : Int32} (X : cX p s m args meth c cX0_shownAt 13 (some .int) RX0 D Φ) (hP : cP D Φ σ s.heap) (hS : va_S (cReg Φ) s.heap s.heap [])  (hl : lv_has ls 13 [(3, .int x3)]) (h : f_X0_shownAt_16  x0 x3 σ = some r) : cWr p l e 0 0 s m args below meth c (some (.int r)) (F0 m 16 ls []) := by
  have hx := X.1
  have hb := X.2.1
  have hown := X.2.2.2.1
  have hts := X.2.2.2.2.1
  have h : (some x3) = some r := h
  refine lv_iload_n hx hb dX0_shownAt_16 rfl (lv_at hl 0 rfl) ?_
  obtain rfl := sj h
  exact c_ri X dX0_shownAt_17
set_option maxRecDepth 20000 in
set_option maxHeartbeats 4000000 in
theorem N_X0_shownAt_48 {p : Program} {l : Launch} {e : Env} {s : State} {m : MethodId} {args : Array Value} {below : List Frame} {meth : Method} {c : Code} {D : cD} {Φ : cG} {x0 : Nat}   {x3 : Int32} {σ : cS} {ls : Array Slot} {r : Int32} (X : cX p s m args meth c cX0_shownAt 13 (some .int) RX0 D Φ) (hP : cP D Φ σ s.heap) (hS : va_S (cReg Φ) s.heap s.heap [])  (hl : lv_has ls 13 [(3, .int x3)]) (h : f_X0_shownAt_48  x0 x3 σ = some r) : cWr p l e 0 0 s m args below meth c (some (.int r)) (F0 m 48 ls []) := by
  have hx := X.1
  have hb := X.2.1
  have hown := X.2.2.2.1
  have hts := X.2.2.2.2.1
  have h : (some x3) = some r := h
  refine lv_iload_n hx hb dX0_shownAt_48 rfl (lv_at hl 0 rfl) ?_
  obtain rfl := sj h
  exact c_ri X dX0_shownAt_49
set_option maxRecDepth 20000 in
set_option maxHeartbeats 4000000 in
theorem N_X0_shownAt_275 {p : Program} {l : Launch} {e : Env} {s : State} {m : MethodId} {args : Array Value} {below : List Frame} {meth : Method} {c : Code} {D : cD} {Φ : cG} {x0 : Nat}   {y0 : Int32} {σ : cS} {ls : Array Slot} {r : Int32} (X : cX p s m args meth c cX0_shownAt 13 (some .int) RX0 D Φ) (hP : cP D Φ σ s.heap) (hS : va_S (cReg Φ) s.heap s.heap [])  (hl : lv_has ls 13 []) (h : f_X0_shownAt_275  x0 y0 σ = some r) : cWr p l e 0 0 s m args below meth c (some (.int r)) (F0 m 275 ls [.int y0]) := by
  have hx := X.1
  have hb := X.2.1
  have hown := X.2.2.2.1
  have hts := X.2.2.2.2.1
  have h : (some y0) = some r := h
  obtain rfl := sj h
  exact c_ri X dX0_shownAt_275
set_option maxRecDepth 20000 in
set_option maxHeartbeats 4000000 in
theorem N_X0_shownAt_221 {p : Program} {l : Launch} {e : Env} {s : State} {m : MethodId} {args : Array Value} {below : List Frame} {meth : Method} {c : Code} {D : cD} {Φ : cG} {x0 : Nat} {k179 : Int32 → Int32 → Int32 → Int32 → Int32 → Int32 → Int32 → Int32 → Option (Int32)}  {x1 : Int32} {x4 : Int32} {x6 : Int32} {x8 : Int32} {x9 : Int32} {x10 : Int32} {x11 : Int32} {x12 : Int32} {σ : cS} {ls : Array Slot} {r : Int32} (X : cX p s m args meth c cX0_shownAt 13 (some .int) RX0 D Φ) (hP : cP D Φ σ s.heap) (hS : va_S (cReg Φ) s.heap s.heap []) (hk179 : ∀ {x1 : Int32} {x4 : Int32} {x6 : Int32} {x8 : Int32} {x9 : Int32} {x10 : Int32} {x11 : Int32} {x12 : Int32} {ls : Array Slot}, lv_has ls 13 [(0, cv Φ (some x0)), (1, .int x1), (4, .int x4), (6, .int x6), (8, .int x8), (9, .int x9), (10, .int x10), (11, .int x11), (12, .int x12)] → k179 x1 x4 x6 x8 x9 x10 x11 x12 = some r → cWr p l e 0 0 s m args below meth c (some (.int r)) (F0 m 179 ls [])) (hl : lv_has ls 13 [(0, cv Φ (some x0)), (1, .int x1), (4, .int x4), (6, .int x6), (8, .int x8), (9, .int x9), (10, .int x10), (11, .int x11), (12, .int x12)]) (h : f_X0_shownAt_221 k179 x0 x1 x4 x6 x8 x9 x10 x11 x12 σ = some r) : cWr p l e 0 0 s m args below meth c (some (.int r)) (F0 m 221 ls []) := by
  have hx := X.1
  have hb := X.2.1
  have hown := X.2.2.2.1
  have hts := X.2.2.2.2.1
  have h : (k179 (x1) (x4) (x6) (x8) (x9) (x10) (x11) ((x12 + ((-1):Int32)))) = some r := h
  refine c_iinc (v := (x12 + ((-1):Int32))) hx hb dX0_shownAt_221 hl (k := 8) rfl rfl (Nat.le_of_ble_eq_true rfl) (lvKa rfl (lvKa rfl (lvKa rfl (lvKa rfl (lvKa rfl (lvKa rfl (lvKa rfl (lvKi (lvKa rfl lvK0))))))))) rfl (fun ls (hl : lv_has ls 13 [(12, .int (x12 + ((-1):Int32))), (0, cv Φ (some x0)), (1, .int x1), (4, .int x4), (6, .int x6), (8, .int x8), (9, .int x9), (10, .int x10), (11, .int x11)]) => ?_)
  refine lv_goto (tgt := 179) hx hb dX0_shownAt_224 rfl ?_
  exact hk179 (lv_sub hl [1, 2, 3, 4, 5, 6, 7, 8, 0] rfl) h
set_option maxRecDepth 20000 in
set_option maxHeartbeats 4000000 in
theorem N_X0_shownAt_179 {p : Program} {l : Launch} {e : Env} {s : State} {m : MethodId} {args : Array Value} {below : List Frame} {meth : Method} {c : Code} {D : cD} {Φ : cG} {x0 : Nat}  {n : Nat} {x1 : Int32} {x4 : Int32} {x6 : Int32} {x8 : Int32} {x9 : Int32} {x10 : Int32} {x11 : Int32} {x12 : Int32} {σ : cS} {ls : Array Slot} {r : Int32} (X : cX p s m args meth c cX0_shownAt 13 (some .int) RX0 D Φ) (hP : cP D Φ σ s.heap) (hS : va_S (cReg Φ) s.heap s.heap [])  (hl : lv_has ls 13 [(0, cv Φ (some x0)), (1, .int x1), (4, .int x4), (6, .int x6), (8, .int x8), (9, .int x9), (10, .int x10), (11, .int x11), (12, .int x12)]) (h : f_X0_shownAt_179  x0 n x1 x4 x6 x8 x9 x10 x11 x12 σ = some r) : cWr p l e 0 0 s m args below meth c (some (.int r)) (F0 m 179 ls []) := by
  have hx := X.1
  have hb := X.2.1
  have hown := X.2.2.2.1
  have hts := X.2.2.2.2.1
  induction n generalizing x1 x4 x6 x8 x9 x10 x11 x12 ls with
  | zero => exact absurd (show none = some r from h) (by simp)
  | succ n ih =>
    have h : (if x12 < (0:Int32) then ((gI σ (some x0) 0 0).bind (fun v1 => if (0:Int32) < ((x10 - x8) * v1) then ((gI σ (some x0) 0 0).bind (fun v2 => (ldv (((x11 - x9)).toInt64 * ((x6 - (x8 * v2))).toInt64) (((x10 - x8) * v1)).toInt64).bind (fun v3 => f_X0_shownAt_275 x0 ((x9 + (v3).toInt32)) σ))) else (f_X0_shownAt_275 x0 (x9) σ))) else (if ((x4 >>> (x12 &&& 31)) &&& (1:Int32)) = (0:Int32) then (f_X0_shownAt_221 (fun z0 z1 z2 z3 z4 z5 z6 z7 => f_X0_shownAt_179 x0 n z0 z1 z2 z3 z4 z5 z6 z7 σ) x0 (x1) (x4) (x6) (x8) (x9) (x10) (x11) (x12) σ) else ((gI σ (some x0) 0 0).bind (fun v4 => if (x12 * v4) ≤ x6 then (f_X0_shownAt_221 (fun z0 z1 z2 z3 z4 z5 z6 z7 => f_X0_shownAt_179 x0 n z0 z1 z2 z3 z4 z5 z6 z7 σ) x0 (x1) (x4) (x6) (x8) (x9) (x10) (x11) (x12) σ) else ((gR σ (some x0) 0 3).bind (fun v5 => (aR σ v5 50 x1).bind (fun v6 => (aI σ v6 x12).bind (fun v7 => f_X0_shownAt_221 (fun z0 z1 z2 z3 z4 z5 z6 z7 => f_X0_shownAt_179 x0 n z0 z1 z2 z3 z4 z5 z6 z7 σ) x0 (x1) (x4) (x6) (x8) (x9) (x12) (v7) (x12) σ)))))))) = some r := h
    refine lv_iload hx hb dX0_shownAt_179 (lv_at hl 8 rfl) ?_
    refine lv_if_lt (tgt := 227) hx hb dX0_shownAt_181 rfl (fun hc => ?_) (fun hc => ?_)
    · have h := ip hc h
      refine lv_iload hx hb dX0_shownAt_227 (lv_at hl 6 rfl) ?_
      refine lv_iload hx hb dX0_shownAt_229 (lv_at hl 4 rfl) ?_
      refine lv_isub hx hb dX0_shownAt_231 ?_
      refine c_aload_n hx hb dX0_shownAt_232 rfl (lv_at hl 0 rfl) ?_
      obtain ⟨v1, hv1, h⟩ := ob h
      refine c_gI X hP hv1 (Nat.le_of_ble_eq_true rfl) (Nat.le_of_ble_eq_true rfl) rfl w_555 dX0_shownAt_233 ?_
      refine lv_imul hx hb dX0_shownAt_236 ?_
      refine c_istore hx hb dX0_shownAt_237 hl (Nat.le_of_ble_eq_true rfl) (lvKa rfl (lvKa rfl (lvKa rfl (lvKa rfl (lvKa rfl (lvKa rfl (lvKa rfl (lvKi (lvKa rfl lvK0))))))))) rfl (fun ls (hl : lv_has ls 13 [(12, .int ((x10 - x8) * v1)), (0, cv Φ (some x0)), (1, .int x1), (4, .int x4), (6, .int x6), (8, .int x8), (9, .int x9), (10, .int x10), (11, .int x11)]) => ?_)
      refine lv_iload hx hb dX0_shownAt_239 (lv_at hl 0 rfl) ?_
      refine lv_if_gt (tgt := 249) hx hb dX0_shownAt_241 rfl (fun hc => ?_) (fun hc => ?_)
      · have h := ip hc h
        refine lv_iload hx hb dX0_shownAt_249 (lv_at hl 6 rfl) ?_
        refine lv_iload hx hb dX0_shownAt_251 (lv_at hl 8 rfl) ?_
        refine lv_iload hx hb dX0_shownAt_253 (lv_at hl 6 rfl) ?_
        refine lv_isub hx hb dX0_shownAt_255 ?_
        refine lv_i2l hx hb dX0_shownAt_256 rfl ?_
        refine lv_iload hx hb dX0_shownAt_257 (lv_at hl 4 rfl) ?_
        refine lv_iload hx hb dX0_shownAt_259 (lv_at hl 5 rfl) ?_
        refine c_aload_n hx hb dX0_shownAt_261 rfl (lv_at hl 1 rfl) ?_
        obtain ⟨v2, hv2, h⟩ := ob h
        refine c_gI X hP hv2 (Nat.le_of_ble_eq_true rfl) (Nat.le_of_ble_eq_true rfl) rfl w_555 dX0_shownAt_262 ?_
        refine lv_imul hx hb dX0_shownAt_265 ?_
        refine lv_isub hx hb dX0_shownAt_266 ?_
        refine lv_i2l hx hb dX0_shownAt_267 rfl ?_
        refine lv_lmul hx hb dX0_shownAt_268 ?_
        refine lv_iload hx hb dX0_shownAt_269 (lv_at hl 0 rfl) ?_
        refine lv_i2l hx hb dX0_shownAt_271 rfl ?_
        obtain ⟨v3, hv3, h⟩ := ob h
        obtain ⟨hnv3, hev3⟩ := ldv_spec hv3
        refine lv_ldiv hx hb dX0_shownAt_272 hnv3 ?_
        rw [hev3]
        refine lv_l2i hx hb dX0_shownAt_273 rfl ?_
        refine lv_iadd hx hb dX0_shownAt_274 ?_
        exact N_X0_shownAt_275 X hP hS (lv_sub hl [] rfl) h
      · have h := ine hc h
        refine lv_iload hx hb dX0_shownAt_244 (lv_at hl 6 rfl) ?_
        refine lv_goto (tgt := 275) hx hb dX0_shownAt_246 rfl ?_
        exact N_X0_shownAt_275 X hP hS (lv_sub hl [] rfl) h
    · have h := ine hc h
      refine lv_iload hx hb dX0_shownAt_184 (lv_at hl 2 rfl) ?_
      refine lv_iload hx hb dX0_shownAt_186 (lv_at hl 8 rfl) ?_
      refine lv_ishr hx hb dX0_shownAt_188 ?_
      refine lv_iconst (v := (1:Int32)) hx hb dX0_shownAt_189 (by decide) ?_
      refine lv_iand hx hb dX0_shownAt_190 ?_
      refine lv_if_eq (tgt := 221) hx hb dX0_shownAt_191 rfl (fun hc => ?_) (fun hc => ?_)
      · have h := ip hc h
        exact N_X0_shownAt_221 X hP hS ih (lv_sub hl [0, 1, 2, 3, 4, 5, 6, 7, 8] rfl) h
      · have h := ine hc h
        refine lv_iload hx hb dX0_shownAt_194 (lv_at hl 8 rfl) ?_
        refine c_aload_n hx hb dX0_shownAt_196 rfl (lv_at hl 0 rfl) ?_
        obtain ⟨v4, hv4, h⟩ := ob h
        refine c_gI X hP hv4 (Nat.le_of_ble_eq_true rfl) (Nat.le_of_ble_eq_true rfl) rfl w_555 dX0_shownAt_197 ?_
        refine lv_imul hx hb dX0_shownAt_200 ?_
        refine lv_iload hx hb dX0_shownAt_201 (lv_at hl 3 rfl) ?_
        refine lv_icmp_le (tgt := 221) hx hb dX0_shownAt_203 rfl (fun hc => ?_) (fun hc => ?_)
        · have h := ip hc h
          exact N_X0_shownAt_221 X hP hS ih (lv_sub hl [0, 1, 2, 3, 4, 5, 6, 7, 8] rfl) h
        · have h := ine hc h
          refine lv_iload hx hb dX0_shownAt_206 (lv_at hl 8 rfl) ?_
          refine c_istore hx hb dX0_shownAt_208 hl (Nat.le_of_ble_eq_true rfl) (lvKa rfl (lvKa rfl (lvKa rfl (lvKa rfl (lvKa rfl (lvKi (lvKa rfl (lvKa rfl (lvKa rfl lvK0))))))))) rfl (fun ls (hl : lv_has ls 13 [(10, .int x12), (0, cv Φ (some x0)), (1, .int x1), (4, .int x4), (6, .int x6), (8, .int x8), (9, .int x9), (11, .int x11), (12, .int x12)]) => ?_)
          refine c_aload_n hx hb dX0_shownAt_210 rfl (lv_at hl 1 rfl) ?_
          obtain ⟨v5, hv5, h⟩ := ob h
          refine c_gR X hP hv5 (Nat.le_of_ble_eq_true rfl) (Nat.le_of_ble_eq_true rfl) rfl w_558 dX0_shownAt_211 ?_
          refine lv_iload_n hx hb dX0_shownAt_214 rfl (lv_at hl 2 rfl) ?_
          obtain ⟨v6, hv6, h⟩ := ob h
          refine c_aldq X hP hv6 (ty := .array .int) rfl (by decide) rfl dX0_shownAt_215 ?_
          refine lv_iload hx hb dX0_shownAt_216 (lv_at hl 8 rfl) ?_
          obtain ⟨v7, hv7, h⟩ := ob h
          refine c_ald X hP hv7 dX0_shownAt_218 ?_
          refine c_istore hx hb dX0_shownAt_219 hl (Nat.le_of_ble_eq_true rfl) (lvKi (lvKa rfl (lvKa rfl (lvKa rfl (lvKa rfl (lvKa rfl (lvKa rfl (lvKa rfl (lvKa rfl lvK0))))))))) rfl (fun ls (hl : lv_has ls 13 [(11, .int v7), (10, .int x12), (0, cv Φ (some x0)), (1, .int x1), (4, .int x4), (6, .int x6), (8, .int x8), (9, .int x9), (12, .int x12)]) => ?_)
          exact N_X0_shownAt_221 X hP hS ih (lv_sub hl [2, 3, 4, 5, 6, 7, 1, 0, 8] rfl) h
set_option maxRecDepth 20000 in
set_option maxHeartbeats 4000000 in
theorem N_X0_shownAt_169 {p : Program} {l : Launch} {e : Env} {s : State} {m : MethodId} {args : Array Value} {below : List Frame} {meth : Method} {c : Code} {D : cD} {Φ : cG} {x0 : Nat} {k125 : Int32 → Int32 → Int32 → Int32 → Int32 → Int32 → Int32 → Int32 → Option (Int32)}  {x1 : Int32} {x4 : Int32} {x6 : Int32} {x8 : Int32} {x9 : Int32} {x10 : Int32} {x11 : Int32} {x12 : Int32} {σ : cS} {ls : Array Slot} {r : Int32} (X : cX p s m args meth c cX0_shownAt 13 (some .int) RX0 D Φ) (hP : cP D Φ σ s.heap) (hS : va_S (cReg Φ) s.heap s.heap []) (hk125 : ∀ {x1 : Int32} {x4 : Int32} {x6 : Int32} {x8 : Int32} {x9 : Int32} {x10 : Int32} {x11 : Int32} {x12 : Int32} {ls : Array Slot}, lv_has ls 13 [(0, cv Φ (some x0)), (1, .int x1), (4, .int x4), (6, .int x6), (8, .int x8), (9, .int x9), (10, .int x10), (11, .int x11), (12, .int x12)] → k125 x1 x4 x6 x8 x9 x10 x11 x12 = some r → cWr p l e 0 0 s m args below meth c (some (.int r)) (F0 m 125 ls [])) (hl : lv_has ls 13 [(0, cv Φ (some x0)), (1, .int x1), (4, .int x4), (6, .int x6), (8, .int x8), (9, .int x9), (10, .int x10), (11, .int x11), (12, .int x12)]) (h : f_X0_shownAt_169 k125 x0 x1 x4 x6 x8 x9 x10 x11 x12 σ = some r) : cWr p l e 0 0 s m args below meth c (some (.int r)) (F0 m 169 ls []) := by
  have hx := X.1
  have hb := X.2.1
  have hown := X.2.2.2.1
  have hts := X.2.2.2.2.1
  have h : (k125 (x1) (x4) (x6) (x8) (x9) (x10) (x11) ((x12 + (1:Int32)))) = some r := h
  refine c_iinc (v := (x12 + (1:Int32))) hx hb dX0_shownAt_169 hl (k := 8) rfl rfl (Nat.le_of_ble_eq_true rfl) (lvKa rfl (lvKa rfl (lvKa rfl (lvKa rfl (lvKa rfl (lvKa rfl (lvKa rfl (lvKi (lvKa rfl lvK0))))))))) rfl (fun ls (hl : lv_has ls 13 [(12, .int (x12 + (1:Int32))), (0, cv Φ (some x0)), (1, .int x1), (4, .int x4), (6, .int x6), (8, .int x8), (9, .int x9), (10, .int x10), (11, .int x11)]) => ?_)
  refine lv_goto (tgt := 125) hx hb dX0_shownAt_172 rfl ?_
  exact hk125 (lv_sub hl [1, 2, 3, 4, 5, 6, 7, 8, 0] rfl) h
set_option maxRecDepth 20000 in
set_option maxHeartbeats 4000000 in
theorem N_X0_shownAt_125 {p : Program} {l : Launch} {e : Env} {s : State} {m : MethodId} {args : Array Value} {below : List Frame} {meth : Method} {c : Code} {D : cD} {Φ : cG} {x0 : Nat}  {n : Nat} {x1 : Int32} {x4 : Int32} {x6 : Int32} {x8 : Int32} {x9 : Int32} {x10 : Int32} {x11 : Int32} {x12 : Int32} {σ : cS} {ls : Array Slot} {r : Int32} (X : cX p s m args meth c cX0_shownAt 13 (some .int) RX0 D Φ) (hP : cP D Φ σ s.heap) (hS : va_S (cReg Φ) s.heap s.heap [])  (hl : lv_has ls 13 [(0, cv Φ (some x0)), (1, .int x1), (4, .int x4), (6, .int x6), (8, .int x8), (9, .int x9), (10, .int x10), (11, .int x11), (12, .int x12)]) (h : f_X0_shownAt_125  x0 n x1 x4 x6 x8 x9 x10 x11 x12 σ = some r) : cWr p l e 0 0 s m args below meth c (some (.int r)) (F0 m 125 ls []) := by
  have hx := X.1
  have hb := X.2.1
  have hown := X.2.2.2.1
  have hts := X.2.2.2.2.1
  induction n generalizing x1 x4 x6 x8 x9 x10 x11 x12 ls with
  | zero => exact absurd (show none = some r from h) (by simp)
  | succ n ih =>
    have h : (if (10:Int32) < x12 then (f_X0_shownAt_179 x0 4000 (x1) (x4) (x6) (x8) (x9) (x10) (x11) ((10:Int32)) σ) else (if ((x4 >>> (x12 &&& 31)) &&& (1:Int32)) = (0:Int32) then (f_X0_shownAt_169 (fun z0 z1 z2 z3 z4 z5 z6 z7 => f_X0_shownAt_125 x0 n z0 z1 z2 z3 z4 z5 z6 z7 σ) x0 (x1) (x4) (x6) (x8) (x9) (x10) (x11) (x12) σ) else ((gI σ (some x0) 0 0).bind (fun v1 => if x6 < (x12 * v1) then (f_X0_shownAt_169 (fun z0 z1 z2 z3 z4 z5 z6 z7 => f_X0_shownAt_125 x0 n z0 z1 z2 z3 z4 z5 z6 z7 σ) x0 (x1) (x4) (x6) (x8) (x9) (x10) (x11) (x12) σ) else ((gR σ (some x0) 0 3).bind (fun v2 => (aR σ v2 50 x1).bind (fun v3 => (aI σ v3 x12).bind (fun v4 => f_X0_shownAt_169 (fun z0 z1 z2 z3 z4 z5 z6 z7 => f_X0_shownAt_125 x0 n z0 z1 z2 z3 z4 z5 z6 z7 σ) x0 (x1) (x4) (x6) (x12) (v4) (x10) (x11) (x12) σ)))))))) = some r := h
    refine lv_iload hx hb dX0_shownAt_125 (lv_at hl 8 rfl) ?_
    refine lv_bipush (v := (10:Int32)) hx hb dX0_shownAt_127 (by decide) ?_
    refine lv_icmp_gt (tgt := 175) hx hb dX0_shownAt_129 rfl (fun hc => ?_) (fun hc => ?_)
    · have h := ip hc h
      refine lv_bipush (v := (10:Int32)) hx hb dX0_shownAt_175 (by decide) ?_
      refine c_istore hx hb dX0_shownAt_177 hl (Nat.le_of_ble_eq_true rfl) (lvKa rfl (lvKa rfl (lvKa rfl (lvKa rfl (lvKa rfl (lvKa rfl (lvKa rfl (lvKi (lvKa rfl lvK0))))))))) rfl (fun ls (hl : lv_has ls 13 [(12, .int (10:Int32)), (0, cv Φ (some x0)), (1, .int x1), (4, .int x4), (6, .int x6), (8, .int x8), (9, .int x9), (10, .int x10), (11, .int x11)]) => ?_)
      exact N_X0_shownAt_179 X hP hS (lv_sub hl [1, 2, 3, 4, 5, 6, 7, 8, 0] rfl) h
    · have h := ine hc h
      refine lv_iload hx hb dX0_shownAt_132 (lv_at hl 2 rfl) ?_
      refine lv_iload hx hb dX0_shownAt_134 (lv_at hl 8 rfl) ?_
      refine lv_ishr hx hb dX0_shownAt_136 ?_
      refine lv_iconst (v := (1:Int32)) hx hb dX0_shownAt_137 (by decide) ?_
      refine lv_iand hx hb dX0_shownAt_138 ?_
      refine lv_if_eq (tgt := 169) hx hb dX0_shownAt_139 rfl (fun hc => ?_) (fun hc => ?_)
      · have h := ip hc h
        exact N_X0_shownAt_169 X hP hS ih (lv_sub hl [0, 1, 2, 3, 4, 5, 6, 7, 8] rfl) h
      · have h := ine hc h
        refine lv_iload hx hb dX0_shownAt_142 (lv_at hl 8 rfl) ?_
        refine c_aload_n hx hb dX0_shownAt_144 rfl (lv_at hl 0 rfl) ?_
        obtain ⟨v1, hv1, h⟩ := ob h
        refine c_gI X hP hv1 (Nat.le_of_ble_eq_true rfl) (Nat.le_of_ble_eq_true rfl) rfl w_555 dX0_shownAt_145 ?_
        refine lv_imul hx hb dX0_shownAt_148 ?_
        refine lv_iload hx hb dX0_shownAt_149 (lv_at hl 3 rfl) ?_
        refine lv_icmp_gt (tgt := 169) hx hb dX0_shownAt_151 rfl (fun hc => ?_) (fun hc => ?_)
        · have h := ip hc h
          exact N_X0_shownAt_169 X hP hS ih (lv_sub hl [0, 1, 2, 3, 4, 5, 6, 7, 8] rfl) h
        · have h := ine hc h
          refine lv_iload hx hb dX0_shownAt_154 (lv_at hl 8 rfl) ?_
          refine c_istore hx hb dX0_shownAt_156 hl (Nat.le_of_ble_eq_true rfl) (lvKa rfl (lvKa rfl (lvKa rfl (lvKa rfl (lvKa rfl (lvKa rfl (lvKa rfl (lvKa rfl (lvKa rfl lvK0))))))))) rfl (fun ls (hl : lv_has ls 13 [(8, .int x12), (0, cv Φ (some x0)), (1, .int x1), (4, .int x4), (6, .int x6), (9, .int x9), (10, .int x10), (11, .int x11), (12, .int x12)]) => ?_)
          refine c_aload_n hx hb dX0_shownAt_158 rfl (lv_at hl 1 rfl) ?_
          obtain ⟨v2, hv2, h⟩ := ob h
          refine c_gR X hP hv2 (Nat.le_of_ble_eq_true rfl) (Nat.le_of_ble_eq_true rfl) rfl w_558 dX0_shownAt_159 ?_
          refine lv_iload_n hx hb dX0_shownAt_162 rfl (lv_at hl 2 rfl) ?_
          obtain ⟨v3, hv3, h⟩ := ob h
          refine c_aldq X hP hv3 (ty := .array .int) rfl (by decide) rfl dX0_shownAt_163 ?_
          refine lv_iload hx hb dX0_shownAt_164 (lv_at hl 8 rfl) ?_
          obtain ⟨v4, hv4, h⟩ := ob h
          refine c_ald X hP hv4 dX0_shownAt_166 ?_
          refine c_istore hx hb dX0_shownAt_167 hl (Nat.le_of_ble_eq_true rfl) (lvKi (lvKa rfl (lvKa rfl (lvKa rfl (lvKa rfl (lvKa rfl (lvKa rfl (lvKa rfl (lvKa rfl lvK0))))))))) rfl (fun ls (hl : lv_has ls 13 [(9, .int v4), (8, .int x12), (0, cv Φ (some x0)), (1, .int x1), (4, .int x4), (6, .int x6), (10, .int x10), (11, .int x11), (12, .int x12)]) => ?_)
          exact N_X0_shownAt_169 X hP hS ih (lv_sub hl [2, 3, 4, 5, 1, 0, 6, 7, 8] rfl) h
set_option maxRecDepth 20000 in
set_option maxHeartbeats 4000000 in
theorem N_X0_shownAt_105 {p : Program} {l : Launch} {e : Env} {s : State} {m : MethodId} {args : Array Value} {below : List Frame} {meth : Method} {c : Code} {D : cD} {Φ : cG} {x0 : Nat}   {x1 : Int32} {x4 : Int32} {x6 : Int32} {y0 : Int32} {σ : cS} {ls : Array Slot} {r : Int32} (X : cX p s m args meth c cX0_shownAt 13 (some .int) RX0 D Φ) (hP : cP D Φ σ s.heap) (hS : va_S (cReg Φ) s.heap s.heap [])  (hl : lv_has ls 13 [(0, cv Φ (some x0)), (1, .int x1), (4, .int x4), (6, .int x6)]) (h : f_X0_shownAt_105  x0 x1 x4 x6 y0 σ = some r) : cWr p l e 0 0 s m args below meth c (some (.int r)) (F0 m 105 ls [.int y0]) := by
  have hx := X.1
  have hb := X.2.1
  have hown := X.2.2.2.1
  have hts := X.2.2.2.2.1
  have h : (f_X0_shownAt_125 x0 4000 (x1) (x4) (x6) ((0:Int32)) (y0) ((10:Int32)) (y0) ((0:Int32)) σ) = some r := h
  refine c_istore hx hb dX0_shownAt_105 hl (Nat.le_of_ble_eq_true rfl) (lvKa rfl (lvKa rfl (lvKa rfl (lvKi lvK0)))) rfl (fun ls (hl : lv_has ls 13 [(7, .int y0), (0, cv Φ (some x0)), (1, .int x1), (4, .int x4), (6, .int x6)]) => ?_)
  refine lv_iconst (v := (0:Int32)) hx hb dX0_shownAt_107 (by decide) ?_
  refine c_istore hx hb dX0_shownAt_108 hl (Nat.le_of_ble_eq_true rfl) (lvKi (lvKa rfl (lvKa rfl (lvKa rfl (lvKa rfl lvK0))))) rfl (fun ls (hl : lv_has ls 13 [(8, .int (0:Int32)), (7, .int y0), (0, cv Φ (some x0)), (1, .int x1), (4, .int x4), (6, .int x6)]) => ?_)
  refine lv_iload hx hb dX0_shownAt_110 (lv_at hl 1 rfl) ?_
  refine c_istore hx hb dX0_shownAt_112 hl (Nat.le_of_ble_eq_true rfl) (lvKi (lvKa rfl (lvKa rfl (lvKa rfl (lvKa rfl (lvKa rfl lvK0)))))) rfl (fun ls (hl : lv_has ls 13 [(9, .int y0), (8, .int (0:Int32)), (7, .int y0), (0, cv Φ (some x0)), (1, .int x1), (4, .int x4), (6, .int x6)]) => ?_)
  refine lv_bipush (v := (10:Int32)) hx hb dX0_shownAt_114 (by decide) ?_
  refine c_istore hx hb dX0_shownAt_116 hl (Nat.le_of_ble_eq_true rfl) (lvKi (lvKa rfl (lvKa rfl (lvKa rfl (lvKa rfl (lvKa rfl (lvKa rfl lvK0))))))) rfl (fun ls (hl : lv_has ls 13 [(10, .int (10:Int32)), (9, .int y0), (8, .int (0:Int32)), (7, .int y0), (0, cv Φ (some x0)), (1, .int x1), (4, .int x4), (6, .int x6)]) => ?_)
  refine lv_iload hx hb dX0_shownAt_118 (lv_at hl 3 rfl) ?_
  refine c_istore hx hb dX0_shownAt_120 hl (Nat.le_of_ble_eq_true rfl) (lvKi (lvKa rfl (lvKa rfl (lvKa rfl (lvKa rfl (lvKa rfl (lvKa rfl (lvKa rfl lvK0)))))))) rfl (fun ls (hl : lv_has ls 13 [(11, .int y0), (10, .int (10:Int32)), (9, .int y0), (8, .int (0:Int32)), (7, .int y0), (0, cv Φ (some x0)), (1, .int x1), (4, .int x4), (6, .int x6)]) => ?_)
  refine lv_iconst (v := (0:Int32)) hx hb dX0_shownAt_122 (by decide) ?_
  refine c_istore hx hb dX0_shownAt_123 hl (Nat.le_of_ble_eq_true rfl) (lvKi (lvKa rfl (lvKa rfl (lvKa rfl (lvKa rfl (lvKa rfl (lvKa rfl (lvKa rfl (lvKa rfl lvK0))))))))) rfl (fun ls (hl : lv_has ls 13 [(12, .int (0:Int32)), (11, .int y0), (10, .int (10:Int32)), (9, .int y0), (8, .int (0:Int32)), (7, .int y0), (0, cv Φ (some x0)), (1, .int x1), (4, .int x4), (6, .int x6)]) => ?_)
  exact N_X0_shownAt_125 X hP hS (lv_sub hl [6, 7, 8, 9, 4, 3, 2, 1, 0] rfl) h
set_option maxRecDepth 20000 in
set_option maxHeartbeats 4000000 in
theorem N_X0_shownAt_91 {p : Program} {l : Launch} {e : Env} {s : State} {m : MethodId} {args : Array Value} {below : List Frame} {meth : Method} {c : Code} {D : cD} {Φ : cG} {x0 : Nat}   {x1 : Int32} {x3 : Int32} {x4 : Int32} {y0 : Int32} {y1 : Int32} {σ : cS} {ls : Array Slot} {r : Int32} (X : cX p s m args meth c cX0_shownAt 13 (some .int) RX0 D Φ) (hP : cP D Φ σ s.heap) (hS : va_S (cReg Φ) s.heap s.heap [])  (hl : lv_has ls 13 [(0, cv Φ (some x0)), (1, .int x1), (3, .int x3), (4, .int x4)]) (h : f_X0_shownAt_91  x0 x1 x3 x4 y0 y1 σ = some r) : cWr p l e 0 0 s m args below meth c (some (.int r)) (F0 m 91 ls [.int y1, .int y0]) := by
  have hx := X.1
  have hb := X.2.1
  have hown := X.2.2.2.1
  have hts := X.2.2.2.2.1
  have h : (if x3 = ((-1000000):Int32) then (f_X0_shownAt_105 x0 (x1) (x4) ((y0 * y1)) ((0:Int32)) σ) else (f_X0_shownAt_105 x0 (x1) (x4) ((y0 * y1)) (x3) σ)) = some r := h
  refine lv_imul hx hb dX0_shownAt_91 ?_
  refine c_istore hx hb dX0_shownAt_92 hl (Nat.le_of_ble_eq_true rfl) (lvKa rfl (lvKa rfl (lvKa rfl (lvKa rfl lvK0)))) rfl (fun ls (hl : lv_has ls 13 [(6, .int (y0 * y1)), (0, cv Φ (some x0)), (1, .int x1), (3, .int x3), (4, .int x4)]) => ?_)
  refine lv_iload_n hx hb dX0_shownAt_94 rfl (lv_at hl 3 rfl) ?_
  refine lv_ldc hx hb hown (hts _ w_1071) dX0_shownAt_95 ?_
  refine lv_icmp_ne (tgt := 104) hx hb dX0_shownAt_97 rfl (fun hc => ?_) (fun hc => ?_)
  · have h := ine hc h
    refine lv_iload_n hx hb dX0_shownAt_104 rfl (lv_at hl 3 rfl) ?_
    exact N_X0_shownAt_105 X hP hS (lv_sub hl [1, 2, 4, 0] rfl) h
  · have h := ip hc h
    refine lv_iconst (v := (0:Int32)) hx hb dX0_shownAt_100 (by decide) ?_
    refine lv_goto (tgt := 105) hx hb dX0_shownAt_101 rfl ?_
    exact N_X0_shownAt_105 X hP hS (lv_sub hl [1, 2, 4, 0] rfl) h
set_option maxRecDepth 20000 in
set_option maxHeartbeats 4000000 in
theorem N_X0_shownAt_89 {p : Program} {l : Launch} {e : Env} {s : State} {m : MethodId} {args : Array Value} {below : List Frame} {meth : Method} {c : Code} {D : cD} {Φ : cG} {x0 : Nat}   {x1 : Int32} {x3 : Int32} {x4 : Int32} {x5 : Int32} {y0 : Int32} {σ : cS} {ls : Array Slot} {r : Int32} (X : cX p s m args meth c cX0_shownAt 13 (some .int) RX0 D Φ) (hP : cP D Φ σ s.heap) (hS : va_S (cReg Φ) s.heap s.heap [])  (hl : lv_has ls 13 [(0, cv Φ (some x0)), (1, .int x1), (3, .int x3), (4, .int x4), (5, .int x5)]) (h : f_X0_shownAt_89  x0 x1 x3 x4 x5 y0 σ = some r) : cWr p l e 0 0 s m args below meth c (some (.int r)) (F0 m 89 ls [.int y0]) := by
  have hx := X.1
  have hb := X.2.1
  have hown := X.2.2.2.1
  have hts := X.2.2.2.2.1
  have h : (f_X0_shownAt_91 x0 (x1) (x3) (x4) (y0) (x5) σ) = some r := h
  refine lv_iload hx hb dX0_shownAt_89 (lv_at hl 4 rfl) ?_
  exact N_X0_shownAt_91 X hP hS (lv_sub hl [0, 1, 2, 3] rfl) h
set_option maxRecDepth 20000 in
set_option maxHeartbeats 4000000 in
theorem K_X0_shownAt (l : Launch) (D : cD) (Φ : cG) (σ : cS) (x0 : Nat) (x1 : Int32) (x2 : Int32) (x3 : Int32) {r : Int32} (h : f_X0_shownAt x0 x1 x2 x3 σ = some r) : Met l yX0_shownAt (Cond.code yX0_shownAt cX0_shownAt 13 (some .int) :: BG) (rA 0 0 0 0) (cPc D Φ σ [cv Φ (some x0), .int x1, .int x2, .int x3]) (cQr (some (.int r))) 0 0 (fun _ => False) := by
  refine Met.ofW (cc := cX0_shownAt) (maxL := 13) (ret := (some .int)) (by decide) rfl ?_
  intro p e s m args below meth c s₁ B hml hv
  obtain ⟨rfl, hP, hK, hZ⟩ := hv
  have X : cX p s m [cv Φ (some x0), .int x1, .int x2, .int x3].toArray meth c cX0_shownAt 13 (some .int) RX0 D Φ := cX_of B hml hK hZ
  have hx := X.1
  have hb := X.2.1
  have hown := X.2.2.2.1
  have hts := X.2.2.2.2.1
  have hl := lv_entry [cv Φ (some x0), .int x1, .int x2, .int x3] (n := 13) (by simp only [lgs_r, lgs_i, lgs_l, lgs_0, List.length]; exact Nat.le_of_ble_eq_true rfl)
  rw [lg_entry_eq]
  generalize (lg_sl [cv Φ (some x0), .int x1, .int x2, .int x3] ++ List.replicate (13 - (lg_sl [cv Φ (some x0), .int x1, .int x2, .int x3]).length) Slot.unset).toArray = ls at hl ⊢
  simp only [lv_args_r, lv_args_i, lv_args_l, lv_args_0] at hl
  have hl : lv_has ls 13 [(0, cv Φ (some x0)), (1, .int x1), (2, .int x2), (3, .int x3)] := hl
  have hS : va_S (cReg Φ) s.heap s.heap [] := va_S.rf
  show cWr p l e 0 0 s m [cv Φ (some x0), .int x1, .int x2, .int x3].toArray below meth c (some (.int r)) (F0 m 0 ls [])
  have h : (if x1 < (0:Int32) then (f_X0_shownAt_16 x0 (x3) σ) else (if (5:Int32) ≤ x1 then (f_X0_shownAt_16 x0 (x3) σ) else ((gI σ (some x0) 0 0).bind (fun v1 => if (0:Int32) < v1 then ((gR σ (some x0) 0 4).bind (fun v2 => (aI σ v2 x1).bind (fun v3 => if v3 = (0:Int32) then (f_X0_shownAt_48 x0 (x3) σ) else (if x2 < (0:Int32) then (f_X0_shownAt_48 x0 (x3) σ) else ((gI σ (some x0) 0 0).bind (fun v4 => (gI σ (some x0) 0 1).bind (fun v5 => if x2 < (v4 * v5) then ((gI σ (some x0) 0 0).bind (fun v6 => (rm x2 v6).bind (fun v7 => (gI σ (some x0) 0 2).bind (fun v8 => if v8 = (0:Int32) then (f_X0_shownAt_89 x0 (x1) (x3) (v3) (v7) ((10:Int32)) σ) else ((gI σ (some x0) 0 0).bind (fun v9 => (dv x2 v9).bind (fun v10 => (rm v10 (2:Int32)).bind (fun v11 => if v11 = (1:Int32) then ((gI σ (some x0) 0 0).bind (fun v12 => f_X0_shownAt_91 x0 (x1) (x3) (v3) ((10:Int32)) ((v12 - v7)) σ)) else (f_X0_shownAt_89 x0 (x1) (x3) (v3) (v7) ((10:Int32)) σ))))))))) else (f_X0_shownAt_48 x0 (x3) σ)))))))) else (f_X0_shownAt_16 x0 (x3) σ))))) = some r := h
  refine lv_iload_n hx hb dX0_shownAt_0 rfl (lv_at hl 1 rfl) ?_
  refine lv_if_lt (tgt := 16) hx hb dX0_shownAt_1 rfl (fun hc => ?_) (fun hc => ?_)
  · have h := ip hc h
    exact N_X0_shownAt_16 X hP hS (lv_sub hl [3] rfl) h
  · have h := ine hc h
    refine lv_iload_n hx hb dX0_shownAt_4 rfl (lv_at hl 1 rfl) ?_
    refine lv_iconst (v := (5:Int32)) hx hb dX0_shownAt_5 (by decide) ?_
    refine lv_icmp_ge (tgt := 16) hx hb dX0_shownAt_6 rfl (fun hc => ?_) (fun hc => ?_)
    · have h := ip hc h
      exact N_X0_shownAt_16 X hP hS (lv_sub hl [3] rfl) h
    · have h := ine hc h
      refine c_aload_n hx hb dX0_shownAt_9 rfl (lv_at hl 0 rfl) ?_
      obtain ⟨v1, hv1, h⟩ := ob h
      refine c_gI X hP hv1 (Nat.le_of_ble_eq_true rfl) (Nat.le_of_ble_eq_true rfl) rfl w_555 dX0_shownAt_10 ?_
      refine lv_if_gt (tgt := 18) hx hb dX0_shownAt_13 rfl (fun hc => ?_) (fun hc => ?_)
      · have h := ip hc h
        refine c_aload_n hx hb dX0_shownAt_18 rfl (lv_at hl 0 rfl) ?_
        obtain ⟨v2, hv2, h⟩ := ob h
        refine c_gR X hP hv2 (Nat.le_of_ble_eq_true rfl) (Nat.le_of_ble_eq_true rfl) rfl w_559 dX0_shownAt_19 ?_
        refine lv_iload_n hx hb dX0_shownAt_22 rfl (lv_at hl 1 rfl) ?_
        obtain ⟨v3, hv3, h⟩ := ob h
        refine c_ald X hP hv3 dX0_shownAt_23 ?_
        refine c_istore hx hb dX0_shownAt_24 hl (Nat.le_of_ble_eq_true rfl) (lvKa rfl (lvKa rfl (lvKa rfl (lvKi lvK0)))) rfl (fun ls (hl : lv_has ls 13 [(4, .int v3), (0, cv Φ (some x0)), (1, .int x1), (2, .int x2), (3, .int x3)]) => ?_)
        refine lv_iload hx hb dX0_shownAt_26 (lv_at hl 0 rfl) ?_
        refine lv_if_eq (tgt := 48) hx hb dX0_shownAt_28 rfl (fun hc => ?_) (fun hc => ?_)
        · have h := ip hc h
          exact N_X0_shownAt_48 X hP hS (lv_sub hl [4] rfl) h
        · have h := ine hc h
          refine lv_iload_n hx hb dX0_shownAt_31 rfl (lv_at hl 3 rfl) ?_
          refine lv_if_lt (tgt := 48) hx hb dX0_shownAt_32 rfl (fun hc => ?_) (fun hc => ?_)
          · have h := ip hc h
            exact N_X0_shownAt_48 X hP hS (lv_sub hl [4] rfl) h
          · have h := ine hc h
            refine lv_iload_n hx hb dX0_shownAt_35 rfl (lv_at hl 3 rfl) ?_
            refine c_aload_n hx hb dX0_shownAt_36 rfl (lv_at hl 1 rfl) ?_
            obtain ⟨v4, hv4, h⟩ := ob h
            refine c_gI X hP hv4 (Nat.le_of_ble_eq_true rfl) (Nat.le_of_ble_eq_true rfl) rfl w_555 dX0_shownAt_37 ?_
            refine c_aload_n hx hb dX0_shownAt_40 rfl (lv_at hl 1 rfl) ?_
            obtain ⟨v5, hv5, h⟩ := ob h
            refine c_gI X hP hv5 (Nat.le_of_ble_eq_true rfl) (Nat.le_of_ble_eq_true rfl) rfl w_556 dX0_shownAt_41 ?_
            refine lv_imul hx hb dX0_shownAt_44 ?_
            refine lv_icmp_lt (tgt := 50) hx hb dX0_shownAt_45 rfl (fun hc => ?_) (fun hc => ?_)
            · have h := ip hc h
              refine lv_iload_n hx hb dX0_shownAt_50 rfl (lv_at hl 3 rfl) ?_
              refine c_aload_n hx hb dX0_shownAt_51 rfl (lv_at hl 1 rfl) ?_
              obtain ⟨v6, hv6, h⟩ := ob h
              refine c_gI X hP hv6 (Nat.le_of_ble_eq_true rfl) (Nat.le_of_ble_eq_true rfl) rfl w_555 dX0_shownAt_52 ?_
              obtain ⟨v7, hv7, h⟩ := ob h
              obtain ⟨hnv7, hev7⟩ := rm_spec hv7
              refine lv_irem hx hb dX0_shownAt_55 hnv7 ?_
              rw [hev7]
              refine c_istore hx hb dX0_shownAt_56 hl (Nat.le_of_ble_eq_true rfl) (lvKi (lvKa rfl (lvKa rfl (lvKa rfl (lvKa rfl lvK0))))) rfl (fun ls (hl : lv_has ls 13 [(5, .int v7), (4, .int v3), (0, cv Φ (some x0)), (1, .int x1), (2, .int x2), (3, .int x3)]) => ?_)
              refine lv_bipush (v := (10:Int32)) hx hb dX0_shownAt_58 (by decide) ?_
              refine c_aload_n hx hb dX0_shownAt_60 rfl (lv_at hl 2 rfl) ?_
              obtain ⟨v8, hv8, h⟩ := ob h
              refine c_gI X hP hv8 (Nat.le_of_ble_eq_true rfl) (Nat.le_of_ble_eq_true rfl) rfl w_557 dX0_shownAt_61 ?_
              refine lv_if_eq (tgt := 89) hx hb dX0_shownAt_64 rfl (fun hc => ?_) (fun hc => ?_)
              · have h := ip hc h
                exact N_X0_shownAt_89 X hP hS (lv_sub hl [2, 3, 5, 1, 0] rfl) h
              · have h := ine hc h
                refine lv_iload_n hx hb dX0_shownAt_67 rfl (lv_at hl 4 rfl) ?_
                refine c_aload_n hx hb dX0_shownAt_68 rfl (lv_at hl 2 rfl) ?_
                obtain ⟨v9, hv9, h⟩ := ob h
                refine c_gI X hP hv9 (Nat.le_of_ble_eq_true rfl) (Nat.le_of_ble_eq_true rfl) rfl w_555 dX0_shownAt_69 ?_
                obtain ⟨v10, hv10, h⟩ := ob h
                obtain ⟨hnv10, hev10⟩ := dv_spec hv10
                refine lv_idiv hx hb dX0_shownAt_72 hnv10 ?_
                rw [hev10]
                refine lv_iconst (v := (2:Int32)) hx hb dX0_shownAt_73 (by decide) ?_
                obtain ⟨v11, hv11, h⟩ := ob h
                obtain ⟨hnv11, hev11⟩ := rm_spec hv11
                refine lv_irem hx hb dX0_shownAt_74 hnv11 ?_
                rw [hev11]
                refine lv_iconst (v := (1:Int32)) hx hb dX0_shownAt_75 (by decide) ?_
                refine lv_icmp_ne (tgt := 89) hx hb dX0_shownAt_76 rfl (fun hc => ?_) (fun hc => ?_)
                · have h := ine hc h
                  exact N_X0_shownAt_89 X hP hS (lv_sub hl [2, 3, 5, 1, 0] rfl) h
                · have h := ip hc h
                  refine c_aload_n hx hb dX0_shownAt_79 rfl (lv_at hl 2 rfl) ?_
                  obtain ⟨v12, hv12, h⟩ := ob h
                  refine c_gI X hP hv12 (Nat.le_of_ble_eq_true rfl) (Nat.le_of_ble_eq_true rfl) rfl w_555 dX0_shownAt_80 ?_
                  refine lv_iload hx hb dX0_shownAt_83 (lv_at hl 0 rfl) ?_
                  refine lv_isub hx hb dX0_shownAt_85 ?_
                  refine lv_goto (tgt := 91) hx hb dX0_shownAt_86 rfl ?_
                  exact N_X0_shownAt_91 X hP hS (lv_sub hl [2, 3, 5, 1] rfl) h
            · have h := ine hc h
              exact N_X0_shownAt_48 X hP hS (lv_sub hl [4] rfl) h
      · have h := ine hc h
        exact N_X0_shownAt_16 X hP hS (lv_sub hl [3] rfl) h
theorem ww_X0_shownAt : Cond.instanceMethod yX0_shownAt ∈ BG ∧ Cond.selects (yX0_shownAt).cls yX0_shownAt yX0_shownAt ∈ BG ∧ Cond.initialized (yX0_shownAt).cls ∈ BG ∧ Cond.code yX0_shownAt cX0_shownAt 13 (some .int) ∈ BG := ⟨w_1068, w_1069, w_65, w_1070⟩
theorem hy_X0_shownAt : (yX0_shownAt).cls ≠ "java/lang/invoke/MethodHandle" ∧ (yX0_shownAt).cls ≠ "java/lang/invoke/VarHandle" ∧ (parseMethodDescriptor (yX0_shownAt).desc).map (fun d => d.parameters.length) = some 3 := ⟨by decide, by decide, by decide +kernel⟩
def f_X1_init (x0 : Nat) (x1 : Option Nat) (x2 : Option Nat) (σ : cS) : Option (cS) := (pR (na σ 38 8) (some x0) 1 2 (some (σ).2)).bind (fun v1 => (pR (na v1 36 40) (some x0) 1 3 (some (v1).2)).bind (fun v2 => (pI v2 (some x0) 1 8 (1000:Int32)).bind (fun v3 => (pR (na v3 36 15) (some x0) 1 13 (some (v3).2)).bind (fun v4 => (pR v4 (some x0) 1 0 x1).bind (fun v5 => (pR v5 (some x0) 1 1 x2).bind (fun v6 => some v6))))))
set_option maxRecDepth 20000 in
set_option maxHeartbeats 4000000 in
theorem K_X1_init (l : Launch) (D : cD) (Φ : cG) (σ : cS) (x0 : Nat) (x1 : Option Nat) (x2 : Option Nat) {q : cS} (h : f_X1_init x0 x1 x2 σ = some q) : Met l yX1_init (Cond.code yX1_init cX1_init 3 none :: BG) (rA 1 3 63 20) (cPc D Φ σ [cv Φ (some x0), cv Φ x1, cv Φ x2]) (cQw D Φ q none) 3 63 (cReg Φ) := by
  refine Met.ofW (cc := cX1_init) (maxL := 3) (ret := none) (by decide) rfl ?_
  intro p e s m args below meth c s₁ B hml hv
  obtain ⟨rfl, hP, hK, hZ⟩ := hv
  have X : cX p s m [cv Φ (some x0), cv Φ x1, cv Φ x2].toArray meth c cX1_init 3 none RX1 D Φ := cX_of B hml hK hZ
  have hin : meth.name = "<init>" := (name_of_methodNamed B.named B.method).1
  have hx := X.1
  have hb := X.2.1
  have hown := X.2.2.2.1
  have hts := X.2.2.2.2.1
  have hl := lv_entry [cv Φ (some x0), cv Φ x1, cv Φ x2] (n := 3) (by simp only [lgs_r, lgs_i, lgs_l, lgs_0, List.length]; exact Nat.le_of_ble_eq_true rfl)
  rw [lg_entry_eq]
  generalize (lg_sl [cv Φ (some x0), cv Φ x1, cv Φ x2] ++ List.replicate (3 - (lg_sl [cv Φ (some x0), cv Φ x1, cv Φ x2]).length) Slot.unset).toArray = ls at hl ⊢
  simp only [lv_args_r, lv_args_i, lv_args_l, lv_args_0] at hl
  have hl : lv_has ls 3 [(0, cv Φ (some x0)), (1, cv Φ x1), (2, cv Φ x2)] := hl
  have hS : va_S (cReg Φ) s.heap s.heap [] := va_S.rf
  show cWw p l e 1 3 63 20 s m [cv Φ (some x0), cv Φ x1, cv Φ x2].toArray below meth c D Φ q none s.heap [] 0 0 (F0 m 0 ls [])
  have h : ((pR (na σ 38 8) (some x0) 1 2 (some (σ).2)).bind (fun v1 => (pR (na v1 36 40) (some x0) 1 3 (some (v1).2)).bind (fun v2 => (pI v2 (some x0) 1 8 (1000:Int32)).bind (fun v3 => (pR (na v3 36 15) (some x0) 1 13 (some (v3).2)).bind (fun v4 => (pR v4 (some x0) 1 0 x1).bind (fun v5 => (pR v5 (some x0) 1 1 x2).bind (fun v6 => some v6))))))) = some q := h
  refine c_aload_n hx hb dX1_init_0 rfl (lv_at hl 0 rfl) ?_
  refine W.objInit hx hb hown (hts _ w_493) (hts _ w_oi) (hts _ w_oc) rfl (hl.1.trans X.2.2.1.symm) rfl dX1_init_1 (Nat.le_of_ble_eq_true rfl) (Nat.le_of_ble_eq_true rfl) ?_
  refine W.eq (g2 := F0 m 4 ls []) rfl ?_
  refine c_aload_n hx hb dX1_init_4 rfl (lv_at hl 0 rfl) ?_
  refine lv_bipush (v := (8:Int32)) hx hb dX1_init_5 (by decide) ?_
  refine c_newq X hP hS (ci := 8) (N := 8) (Nat.le_of_ble_eq_true rfl) rfl w_494 (by decide) rfl (Nat.le_of_ble_eq_true rfl) (Nat.le_of_ble_eq_true rfl) (Nat.le_of_ble_eq_true rfl) dX1_init_7 (fun H hP hS => ?_)
  obtain ⟨v1, hv1, h⟩ := ob h
  refine c_pR X hP hS hv1 (Nat.le_of_ble_eq_true rfl) (Nat.le_of_ble_eq_true rfl) rfl (Or.inr ⟨rfl, hin, rfl⟩) w_500 dX1_init_10 (fun H locs hP hS => ?_)
  refine c_aload_n hx hb dX1_init_13 rfl (lv_at hl 0 rfl) ?_
  refine lv_bipush (v := (40:Int32)) hx hb dX1_init_14 (by decide) ?_
  refine c_newq X hP hS (ci := 6) (N := 40) (Nat.le_of_ble_eq_true rfl) rfl w_496 (by decide) rfl (Nat.le_of_ble_eq_true rfl) (Nat.le_of_ble_eq_true rfl) (Nat.le_of_ble_eq_true rfl) dX1_init_16 (fun H hP hS => ?_)
  obtain ⟨v2, hv2, h⟩ := ob h
  refine c_pR X hP hS hv2 (Nat.le_of_ble_eq_true rfl) (Nat.le_of_ble_eq_true rfl) rfl (Or.inr ⟨rfl, hin, rfl⟩) w_501 dX1_init_19 (fun H locs hP hS => ?_)
  refine c_aload_n hx hb dX1_init_22 rfl (lv_at hl 0 rfl) ?_
  refine lv_sipush (v := (1000:Int32)) hx hb dX1_init_23 (by decide) ?_
  obtain ⟨v3, hv3, h⟩ := ob h
  refine c_pI X hP hS hv3 (Nat.le_of_ble_eq_true rfl) (Nat.le_of_ble_eq_true rfl) rfl rfl (Or.inl rfl) w_508 dX1_init_26 (fun H locs hP hS => ?_)
  refine c_aload_n hx hb dX1_init_29 rfl (lv_at hl 0 rfl) ?_
  refine lv_bipush (v := (15:Int32)) hx hb dX1_init_30 (by decide) ?_
  refine c_newq X hP hS (ci := 6) (N := 15) (Nat.le_of_ble_eq_true rfl) rfl w_496 (by decide) rfl (Nat.le_of_ble_eq_true rfl) (Nat.le_of_ble_eq_true rfl) (Nat.le_of_ble_eq_true rfl) dX1_init_32 (fun H hP hS => ?_)
  obtain ⟨v4, hv4, h⟩ := ob h
  refine c_pR X hP hS hv4 (Nat.le_of_ble_eq_true rfl) (Nat.le_of_ble_eq_true rfl) rfl (Or.inr ⟨rfl, hin, rfl⟩) w_518 dX1_init_35 (fun H locs hP hS => ?_)
  refine c_aload_n hx hb dX1_init_38 rfl (lv_at hl 0 rfl) ?_
  refine c_aload_n hx hb dX1_init_39 rfl (lv_at hl 1 rfl) ?_
  obtain ⟨v5, hv5, h⟩ := ob h
  refine c_pR X hP hS hv5 (Nat.le_of_ble_eq_true rfl) (Nat.le_of_ble_eq_true rfl) rfl (Or.inr ⟨rfl, hin, rfl⟩) w_498 dX1_init_40 (fun H locs hP hS => ?_)
  refine c_aload_n hx hb dX1_init_43 rfl (lv_at hl 0 rfl) ?_
  refine c_aload_n hx hb dX1_init_44 rfl (lv_at hl 2 rfl) ?_
  obtain ⟨v6, hv6, h⟩ := ob h
  refine c_pR X hP hS hv6 (Nat.le_of_ble_eq_true rfl) (Nat.le_of_ble_eq_true rfl) rfl (Or.inr ⟨rfl, hin, rfl⟩) w_499 dX1_init_45 (fun H locs hP hS => ?_)
  obtain rfl := sj h
  exact c_wv X hP hS (Nat.le_of_ble_eq_true rfl) (Nat.le_of_ble_eq_true rfl) dX1_init_48
theorem ww_X1_init : Cond.instanceMethod yX1_init ∈ BG ∧ Cond.initialized (yX1_init).cls ∈ BG ∧ Cond.code yX1_init cX1_init 3 none ∈ BG := ⟨w_491, w_64, w_492⟩
theorem hy_X1_init : (yX1_init).cls ≠ "java/lang/invoke/MethodHandle" ∧ (yX1_init).cls ≠ "java/lang/invoke/VarHandle" ∧ (parseMethodDescriptor (yX1_init).desc).map (fun d => d.parameters.length) = some 2 := ⟨by decide, by decide, by decide +kernel⟩
def f_X1_sheetAt_28  (x0 : Nat) (y0 : Option Nat) (σ : cS) : Option (Option Nat) := some y0
def f_X1_sheetAt_27  (x0 : Nat)  (σ : cS) : Option (Option Nat) := f_X1_sheetAt_28 x0 (none) σ
def f_X1_sheetAt (x0 : Nat) (x1 : Int32) (σ : cS) : Option (Option Nat) := if x1 < (0:Int32) then (f_X1_sheetAt_27 x0 σ) else ((gI σ (some x0) 1 4).bind (fun v1 => if v1 ≤ x1 then (f_X1_sheetAt_27 x0 σ) else (if (8:Int32) ≤ x1 then (f_X1_sheetAt_27 x0 σ) else ((gR σ (some x0) 1 2).bind (fun v2 => (aR σ v2 38 x1).bind (fun v3 => f_X1_sheetAt_28 x0 (v3) σ))))))
set_option maxRecDepth 20000 in
set_option maxHeartbeats 4000000 in
theorem N_X1_sheetAt_28 {p : Program} {l : Launch} {e : Env} {s : State} {m : MethodId} {args : Array Value} {below : List Frame} {meth : Method} {c : Code} {D : cD} {Φ : cG} {x0 : Nat}   {y0 : Option Nat} {σ : cS} {ls : Array Slot} {r : Option Nat} (X : cX p s m args meth c cX1_sheetAt 2 (some (.object "Cascadery$Sheet")) RX1 D Φ) (hP : cP D Φ σ s.heap) (hS : va_S (cReg Φ) s.heap s.heap [])  (hl : lv_has ls 2 []) (h : f_X1_sheetAt_28  x0 y0 σ = some r) : cWr p l e 0 0 s m args below meth c (some (cv Φ r)) (F0 m 28 ls [cv Φ y0]) := by
  have hx := X.1
  have hb := X.2.1
  have hown := X.2.2.2.1
  have hts := X.2.2.2.2.1
  have h : (some y0) = some r := h
  obtain rfl := sj h
  exact c_ra X dX1_sheetAt_28
set_option maxRecDepth 20000 in
set_option maxHeartbeats 4000000 in
theorem N_X1_sheetAt_27 {p : Program} {l : Launch} {e : Env} {s : State} {m : MethodId} {args : Array Value} {below : List Frame} {meth : Method} {c : Code} {D : cD} {Φ : cG} {x0 : Nat}    {σ : cS} {ls : Array Slot} {r : Option Nat} (X : cX p s m args meth c cX1_sheetAt 2 (some (.object "Cascadery$Sheet")) RX1 D Φ) (hP : cP D Φ σ s.heap) (hS : va_S (cReg Φ) s.heap s.heap [])  (hl : lv_has ls 2 []) (h : f_X1_sheetAt_27  x0  σ = some r) : cWr p l e 0 0 s m args below meth c (some (cv Φ r)) (F0 m 27 ls []) := by
  have hx := X.1
  have hb := X.2.1
  have hown := X.2.2.2.1
  have hts := X.2.2.2.2.1
  have h : (f_X1_sheetAt_28 x0 (none) σ) = some r := h
  refine c_null (Φ := Φ) hx hb dX1_sheetAt_27 ?_
  exact N_X1_sheetAt_28 X hP hS (lv_sub hl [] rfl) h
set_option maxRecDepth 20000 in
set_option maxHeartbeats 4000000 in
theorem K_X1_sheetAt (l : Launch) (D : cD) (Φ : cG) (σ : cS) (x0 : Nat) (x1 : Int32) {r : Option Nat} (h : f_X1_sheetAt x0 x1 σ = some r) : Met l yX1_sheetAt (Cond.code yX1_sheetAt cX1_sheetAt 2 (some (.object "Cascadery$Sheet")) :: BG) (rA 0 0 0 0) (cPc D Φ σ [cv Φ (some x0), .int x1]) (cQr (some (cv Φ r))) 0 0 (fun _ => False) := by
  refine Met.ofW (cc := cX1_sheetAt) (maxL := 2) (ret := (some (.object "Cascadery$Sheet"))) (by decide) rfl ?_
  intro p e s m args below meth c s₁ B hml hv
  obtain ⟨rfl, hP, hK, hZ⟩ := hv
  have X : cX p s m [cv Φ (some x0), .int x1].toArray meth c cX1_sheetAt 2 (some (.object "Cascadery$Sheet")) RX1 D Φ := cX_of B hml hK hZ
  have hx := X.1
  have hb := X.2.1
  have hown := X.2.2.2.1
  have hts := X.2.2.2.2.1
  have hl := lv_entry [cv Φ (some x0), .int x1] (n := 2) (by simp only [lgs_r, lgs_i, lgs_l, lgs_0, List.length]; exact Nat.le_of_ble_eq_true rfl)
  rw [lg_entry_eq]
  generalize (lg_sl [cv Φ (some x0), .int x1] ++ List.replicate (2 - (lg_sl [cv Φ (some x0), .int x1]).length) Slot.unset).toArray = ls at hl ⊢
  simp only [lv_args_r, lv_args_i, lv_args_l, lv_args_0] at hl
  have hl : lv_has ls 2 [(0, cv Φ (some x0)), (1, .int x1)] := hl
  have hS : va_S (cReg Φ) s.heap s.heap [] := va_S.rf
  show cWr p l e 0 0 s m [cv Φ (some x0), .int x1].toArray below meth c (some (cv Φ r)) (F0 m 0 ls [])
  have h : (if x1 < (0:Int32) then (f_X1_sheetAt_27 x0 σ) else ((gI σ (some x0) 1 4).bind (fun v1 => if v1 ≤ x1 then (f_X1_sheetAt_27 x0 σ) else (if (8:Int32) ≤ x1 then (f_X1_sheetAt_27 x0 σ) else ((gR σ (some x0) 1 2).bind (fun v2 => (aR σ v2 38 x1).bind (fun v3 => f_X1_sheetAt_28 x0 (v3) σ))))))) = some r := h
  refine lv_iload_n hx hb dX1_sheetAt_0 rfl (lv_at hl 1 rfl) ?_
  refine lv_if_lt (tgt := 27) hx hb dX1_sheetAt_1 rfl (fun hc => ?_) (fun hc => ?_)
  · have h := ip hc h
    exact N_X1_sheetAt_27 X hP hS (lv_sub hl [] rfl) h
  · have h := ine hc h
    refine lv_iload_n hx hb dX1_sheetAt_4 rfl (lv_at hl 1 rfl) ?_
    refine c_aload_n hx hb dX1_sheetAt_5 rfl (lv_at hl 0 rfl) ?_
    obtain ⟨v1, hv1, h⟩ := ob h
    refine c_gI X hP hv1 (Nat.le_of_ble_eq_true rfl) (Nat.le_of_ble_eq_true rfl) rfl w_502 dX1_sheetAt_6 ?_
    refine lv_icmp_ge (tgt := 27) hx hb dX1_sheetAt_9 rfl (fun hc => ?_) (fun hc => ?_)
    · have h := ip hc h
      exact N_X1_sheetAt_27 X hP hS (lv_sub hl [] rfl) h
    · have h := ine hc h
      refine lv_iload_n hx hb dX1_sheetAt_12 rfl (lv_at hl 1 rfl) ?_
      refine lv_bipush (v := (8:Int32)) hx hb dX1_sheetAt_13 (by decide) ?_
      refine lv_icmp_ge (tgt := 27) hx hb dX1_sheetAt_15 rfl (fun hc => ?_) (fun hc => ?_)
      · have h := ip hc h
        exact N_X1_sheetAt_27 X hP hS (lv_sub hl [] rfl) h
      · have h := ine hc h
        refine c_aload_n hx hb dX1_sheetAt_18 rfl (lv_at hl 0 rfl) ?_
        obtain ⟨v2, hv2, h⟩ := ob h
        refine c_gR X hP hv2 (Nat.le_of_ble_eq_true rfl) (Nat.le_of_ble_eq_true rfl) rfl w_500 dX1_sheetAt_19 ?_
        refine lv_iload_n hx hb dX1_sheetAt_22 rfl (lv_at hl 1 rfl) ?_
        obtain ⟨v3, hv3, h⟩ := ob h
        refine c_aldq X hP hv3 (ty := .object "Cascadery$Sheet") rfl (by decide) rfl dX1_sheetAt_23 ?_
        refine lv_goto (tgt := 28) hx hb dX1_sheetAt_24 rfl ?_
        exact N_X1_sheetAt_28 X hP hS (lv_sub hl [] rfl) h
theorem ww_X1_sheetAt : Cond.instanceMethod yX1_sheetAt ∈ BG ∧ Cond.selects (yX1_sheetAt).cls yX1_sheetAt yX1_sheetAt ∈ BG ∧ Cond.initialized (yX1_sheetAt).cls ∈ BG ∧ Cond.code yX1_sheetAt cX1_sheetAt 2 (some (.object "Cascadery$Sheet")) ∈ BG := ⟨w_1292, w_1293, w_64, w_1294⟩
theorem hy_X1_sheetAt : (yX1_sheetAt).cls ≠ "java/lang/invoke/MethodHandle" ∧ (yX1_sheetAt).cls ≠ "java/lang/invoke/VarHandle" ∧ (parseMethodDescriptor (yX1_sheetAt).desc).map (fun d => d.parameters.length) = some 1 := ⟨by decide, by decide, by decide +kernel⟩
def f_X1_ruleAt_28  (x0 : Nat) (y0 : Option Nat) (σ : cS) : Option (Option Nat) := some y0
def f_X1_ruleAt_27  (x0 : Nat)  (σ : cS) : Option (Option Nat) := f_X1_ruleAt_28 x0 (none) σ
def f_X1_ruleAt (x0 : Nat) (x1 : Int32) (σ : cS) : Option (Option Nat) := if x1 < (0:Int32) then (f_X1_ruleAt_27 x0 σ) else ((gI σ (some x0) 1 5).bind (fun v1 => if v1 ≤ x1 then (f_X1_ruleAt_27 x0 σ) else (if (40:Int32) ≤ x1 then (f_X1_ruleAt_27 x0 σ) else ((gR σ (some x0) 1 3).bind (fun v2 => (aR σ v2 36 x1).bind (fun v3 => f_X1_ruleAt_28 x0 (v3) σ))))))
set_option maxRecDepth 20000 in
set_option maxHeartbeats 4000000 in
theorem N_X1_ruleAt_28 {p : Program} {l : Launch} {e : Env} {s : State} {m : MethodId} {args : Array Value} {below : List Frame} {meth : Method} {c : Code} {D : cD} {Φ : cG} {x0 : Nat}   {y0 : Option Nat} {σ : cS} {ls : Array Slot} {r : Option Nat} (X : cX p s m args meth c cX1_ruleAt 2 (some (.object "Cascadery$Rule")) RX1 D Φ) (hP : cP D Φ σ s.heap) (hS : va_S (cReg Φ) s.heap s.heap [])  (hl : lv_has ls 2 []) (h : f_X1_ruleAt_28  x0 y0 σ = some r) : cWr p l e 0 0 s m args below meth c (some (cv Φ r)) (F0 m 28 ls [cv Φ y0]) := by
  have hx := X.1
  have hb := X.2.1
  have hown := X.2.2.2.1
  have hts := X.2.2.2.2.1
  have h : (some y0) = some r := h
  obtain rfl := sj h
  exact c_ra X dX1_ruleAt_28
set_option maxRecDepth 20000 in
set_option maxHeartbeats 4000000 in
theorem N_X1_ruleAt_27 {p : Program} {l : Launch} {e : Env} {s : State} {m : MethodId} {args : Array Value} {below : List Frame} {meth : Method} {c : Code} {D : cD} {Φ : cG} {x0 : Nat}    {σ : cS} {ls : Array Slot} {r : Option Nat} (X : cX p s m args meth c cX1_ruleAt 2 (some (.object "Cascadery$Rule")) RX1 D Φ) (hP : cP D Φ σ s.heap) (hS : va_S (cReg Φ) s.heap s.heap [])  (hl : lv_has ls 2 []) (h : f_X1_ruleAt_27  x0  σ = some r) : cWr p l e 0 0 s m args below meth c (some (cv Φ r)) (F0 m 27 ls []) := by
  have hx := X.1
  have hb := X.2.1
  have hown := X.2.2.2.1
  have hts := X.2.2.2.2.1
  have h : (f_X1_ruleAt_28 x0 (none) σ) = some r := h
  refine c_null (Φ := Φ) hx hb dX1_ruleAt_27 ?_
  exact N_X1_ruleAt_28 X hP hS (lv_sub hl [] rfl) h
set_option maxRecDepth 20000 in
set_option maxHeartbeats 4000000 in
theorem K_X1_ruleAt (l : Launch) (D : cD) (Φ : cG) (σ : cS) (x0 : Nat) (x1 : Int32) {r : Option Nat} (h : f_X1_ruleAt x0 x1 σ = some r) : Met l yX1_ruleAt (Cond.code yX1_ruleAt cX1_ruleAt 2 (some (.object "Cascadery$Rule")) :: BG) (rA 0 0 0 0) (cPc D Φ σ [cv Φ (some x0), .int x1]) (cQr (some (cv Φ r))) 0 0 (fun _ => False) := by
  refine Met.ofW (cc := cX1_ruleAt) (maxL := 2) (ret := (some (.object "Cascadery$Rule"))) (by decide) rfl ?_
  intro p e s m args below meth c s₁ B hml hv
  obtain ⟨rfl, hP, hK, hZ⟩ := hv
  have X : cX p s m [cv Φ (some x0), .int x1].toArray meth c cX1_ruleAt 2 (some (.object "Cascadery$Rule")) RX1 D Φ := cX_of B hml hK hZ
  have hx := X.1
  have hb := X.2.1
  have hown := X.2.2.2.1
  have hts := X.2.2.2.2.1
  have hl := lv_entry [cv Φ (some x0), .int x1] (n := 2) (by simp only [lgs_r, lgs_i, lgs_l, lgs_0, List.length]; exact Nat.le_of_ble_eq_true rfl)
  rw [lg_entry_eq]
  generalize (lg_sl [cv Φ (some x0), .int x1] ++ List.replicate (2 - (lg_sl [cv Φ (some x0), .int x1]).length) Slot.unset).toArray = ls at hl ⊢
  simp only [lv_args_r, lv_args_i, lv_args_l, lv_args_0] at hl
  have hl : lv_has ls 2 [(0, cv Φ (some x0)), (1, .int x1)] := hl
  have hS : va_S (cReg Φ) s.heap s.heap [] := va_S.rf
  show cWr p l e 0 0 s m [cv Φ (some x0), .int x1].toArray below meth c (some (cv Φ r)) (F0 m 0 ls [])
  have h : (if x1 < (0:Int32) then (f_X1_ruleAt_27 x0 σ) else ((gI σ (some x0) 1 5).bind (fun v1 => if v1 ≤ x1 then (f_X1_ruleAt_27 x0 σ) else (if (40:Int32) ≤ x1 then (f_X1_ruleAt_27 x0 σ) else ((gR σ (some x0) 1 3).bind (fun v2 => (aR σ v2 36 x1).bind (fun v3 => f_X1_ruleAt_28 x0 (v3) σ))))))) = some r := h
  refine lv_iload_n hx hb dX1_ruleAt_0 rfl (lv_at hl 1 rfl) ?_
  refine lv_if_lt (tgt := 27) hx hb dX1_ruleAt_1 rfl (fun hc => ?_) (fun hc => ?_)
  · have h := ip hc h
    exact N_X1_ruleAt_27 X hP hS (lv_sub hl [] rfl) h
  · have h := ine hc h
    refine lv_iload_n hx hb dX1_ruleAt_4 rfl (lv_at hl 1 rfl) ?_
    refine c_aload_n hx hb dX1_ruleAt_5 rfl (lv_at hl 0 rfl) ?_
    obtain ⟨v1, hv1, h⟩ := ob h
    refine c_gI X hP hv1 (Nat.le_of_ble_eq_true rfl) (Nat.le_of_ble_eq_true rfl) rfl w_504 dX1_ruleAt_6 ?_
    refine lv_icmp_ge (tgt := 27) hx hb dX1_ruleAt_9 rfl (fun hc => ?_) (fun hc => ?_)
    · have h := ip hc h
      exact N_X1_ruleAt_27 X hP hS (lv_sub hl [] rfl) h
    · have h := ine hc h
      refine lv_iload_n hx hb dX1_ruleAt_12 rfl (lv_at hl 1 rfl) ?_
      refine lv_bipush (v := (40:Int32)) hx hb dX1_ruleAt_13 (by decide) ?_
      refine lv_icmp_ge (tgt := 27) hx hb dX1_ruleAt_15 rfl (fun hc => ?_) (fun hc => ?_)
      · have h := ip hc h
        exact N_X1_ruleAt_27 X hP hS (lv_sub hl [] rfl) h
      · have h := ine hc h
        refine c_aload_n hx hb dX1_ruleAt_18 rfl (lv_at hl 0 rfl) ?_
        obtain ⟨v2, hv2, h⟩ := ob h
        refine c_gR X hP hv2 (Nat.le_of_ble_eq_true rfl) (Nat.le_of_ble_eq_true rfl) rfl w_501 dX1_ruleAt_19 ?_
        refine lv_iload_n hx hb dX1_ruleAt_22 rfl (lv_at hl 1 rfl) ?_
        obtain ⟨v3, hv3, h⟩ := ob h
        refine c_aldq X hP hv3 (ty := .object "Cascadery$Rule") rfl (by decide) rfl dX1_ruleAt_23 ?_
        refine lv_goto (tgt := 28) hx hb dX1_ruleAt_24 rfl ?_
        exact N_X1_ruleAt_28 X hP hS (lv_sub hl [] rfl) h
theorem ww_X1_ruleAt : Cond.instanceMethod yX1_ruleAt ∈ BG ∧ Cond.selects (yX1_ruleAt).cls yX1_ruleAt yX1_ruleAt ∈ BG ∧ Cond.initialized (yX1_ruleAt).cls ∈ BG ∧ Cond.code yX1_ruleAt cX1_ruleAt 2 (some (.object "Cascadery$Rule")) ∈ BG := ⟨w_1185, w_1186, w_64, w_1187⟩
theorem hy_X1_ruleAt : (yX1_ruleAt).cls ≠ "java/lang/invoke/MethodHandle" ∧ (yX1_ruleAt).cls ≠ "java/lang/invoke/VarHandle" ∧ (parseMethodDescriptor (yX1_ruleAt).desc).map (fun d => d.parameters.length) = some 1 := ⟨by decide, by decide, by decide +kernel⟩
def f_X8_init (x0 : Nat) (x1 : Int32) (x2 : Int32) (x3 : Option Nat) (x4 : Int32) (σ : cS) : Option (cS) := (pZ σ (some x0) 8 4 (1:Int32)).bind (fun v1 => (pI v1 (some x0) 8 0 x1).bind (fun v2 => (pI v2 (some x0) 8 1 x2).bind (fun v3 => (pR v3 (some x0) 8 2 x3).bind (fun v4 => (pI v4 (some x0) 8 3 x4).bind (fun v5 => some v5)))))
set_option maxRecDepth 20000 in
set_option maxHeartbeats 4000000 in
theorem K_X8_init (l : Launch) (D : cD) (Φ : cG) (σ : cS) (x0 : Nat) (x1 : Int32) (x2 : Int32) (x3 : Option Nat) (x4 : Int32) {q : cS} (h : f_X8_init x0 x1 x2 x3 x4 σ = some q) : Met l yX8_init (Cond.code yX8_init cX8_init 5 none :: BG) (rA 1 0 0 20) (cPc D Φ σ [cv Φ (some x0), .int x1, .int x2, cv Φ x3, .int x4]) (cQw D Φ q none) 0 0 (cReg Φ) := by
  refine Met.ofW (cc := cX8_init) (maxL := 5) (ret := none) (by decide) rfl ?_
  intro p e s m args below meth c s₁ B hml hv
  obtain ⟨rfl, hP, hK, hZ⟩ := hv
  have X : cX p s m [cv Φ (some x0), .int x1, .int x2, cv Φ x3, .int x4].toArray meth c cX8_init 5 none RX8 D Φ := cX_of B hml hK hZ
  have hin : meth.name = "<init>" := (name_of_methodNamed B.named B.method).1
  have hx := X.1
  have hb := X.2.1
  have hown := X.2.2.2.1
  have hts := X.2.2.2.2.1
  have hl := lv_entry [cv Φ (some x0), .int x1, .int x2, cv Φ x3, .int x4] (n := 5) (by simp only [lgs_r, lgs_i, lgs_l, lgs_0, List.length]; exact Nat.le_of_ble_eq_true rfl)
  rw [lg_entry_eq]
  generalize (lg_sl [cv Φ (some x0), .int x1, .int x2, cv Φ x3, .int x4] ++ List.replicate (5 - (lg_sl [cv Φ (some x0), .int x1, .int x2, cv Φ x3, .int x4]).length) Slot.unset).toArray = ls at hl ⊢
  simp only [lv_args_r, lv_args_i, lv_args_l, lv_args_0] at hl
  have hl : lv_has ls 5 [(0, cv Φ (some x0)), (1, .int x1), (2, .int x2), (3, cv Φ x3), (4, .int x4)] := hl
  have hS : va_S (cReg Φ) s.heap s.heap [] := va_S.rf
  show cWw p l e 1 0 0 20 s m [cv Φ (some x0), .int x1, .int x2, cv Φ x3, .int x4].toArray below meth c D Φ q none s.heap [] 0 0 (F0 m 0 ls [])
  have h : ((pZ σ (some x0) 8 4 (1:Int32)).bind (fun v1 => (pI v1 (some x0) 8 0 x1).bind (fun v2 => (pI v2 (some x0) 8 1 x2).bind (fun v3 => (pR v3 (some x0) 8 2 x3).bind (fun v4 => (pI v4 (some x0) 8 3 x4).bind (fun v5 => some v5)))))) = some q := h
  refine c_aload_n hx hb dX8_init_0 rfl (lv_at hl 0 rfl) ?_
  refine W.objInit hx hb hown (hts _ w_1257) (hts _ w_oi) (hts _ w_oc) rfl (hl.1.trans X.2.2.1.symm) rfl dX8_init_1 (Nat.le_of_ble_eq_true rfl) (Nat.le_of_ble_eq_true rfl) ?_
  refine W.eq (g2 := F0 m 4 ls []) rfl ?_
  refine c_aload_n hx hb dX8_init_4 rfl (lv_at hl 0 rfl) ?_
  refine lv_iconst (v := (1:Int32)) hx hb dX8_init_5 (by decide) ?_
  obtain ⟨v1, hv1, h⟩ := ob h
  refine c_pZ X hP hS hv1 (Nat.le_of_ble_eq_true rfl) (Nat.le_of_ble_eq_true rfl) rfl rfl (Or.inl rfl) w_1266 dX8_init_6 (fun H locs hP hS => ?_)
  refine c_aload_n hx hb dX8_init_9 rfl (lv_at hl 0 rfl) ?_
  refine lv_iload_n hx hb dX8_init_10 rfl (lv_at hl 1 rfl) ?_
  obtain ⟨v2, hv2, h⟩ := ob h
  refine c_pI X hP hS hv2 (Nat.le_of_ble_eq_true rfl) (Nat.le_of_ble_eq_true rfl) rfl rfl (Or.inr ⟨rfl, hin, rfl⟩) w_1258 dX8_init_11 (fun H locs hP hS => ?_)
  refine c_aload_n hx hb dX8_init_14 rfl (lv_at hl 0 rfl) ?_
  refine lv_iload_n hx hb dX8_init_15 rfl (lv_at hl 2 rfl) ?_
  obtain ⟨v3, hv3, h⟩ := ob h
  refine c_pI X hP hS hv3 (Nat.le_of_ble_eq_true rfl) (Nat.le_of_ble_eq_true rfl) rfl rfl (Or.inr ⟨rfl, hin, rfl⟩) w_1260 dX8_init_16 (fun H locs hP hS => ?_)
  refine c_aload_n hx hb dX8_init_19 rfl (lv_at hl 0 rfl) ?_
  refine c_aload_n hx hb dX8_init_20 rfl (lv_at hl 3 rfl) ?_
  obtain ⟨v4, hv4, h⟩ := ob h
  refine c_pR X hP hS hv4 (Nat.le_of_ble_eq_true rfl) (Nat.le_of_ble_eq_true rfl) rfl (Or.inr ⟨rfl, hin, rfl⟩) w_1262 dX8_init_21 (fun H locs hP hS => ?_)
  refine c_aload_n hx hb dX8_init_24 rfl (lv_at hl 0 rfl) ?_
  refine lv_iload hx hb dX8_init_25 (lv_at hl 4 rfl) ?_
  obtain ⟨v5, hv5, h⟩ := ob h
  refine c_pI X hP hS hv5 (Nat.le_of_ble_eq_true rfl) (Nat.le_of_ble_eq_true rfl) rfl rfl (Or.inr ⟨rfl, hin, rfl⟩) w_1264 dX8_init_27 (fun H locs hP hS => ?_)
  obtain rfl := sj h
  exact c_wv X hP hS (Nat.le_of_ble_eq_true rfl) (Nat.le_of_ble_eq_true rfl) dX8_init_30
theorem ww_X8_init : Cond.instanceMethod yX8_init ∈ BG ∧ Cond.initialized (yX8_init).cls ∈ BG ∧ Cond.code yX8_init cX8_init 5 none ∈ BG := ⟨w_1255, w_72, w_1256⟩
theorem hy_X8_init : (yX8_init).cls ≠ "java/lang/invoke/MethodHandle" ∧ (yX8_init).cls ≠ "java/lang/invoke/VarHandle" ∧ (parseMethodDescriptor (yX8_init).desc).map (fun d => d.parameters.length) = some 4 := ⟨by decide, by decide, by decide +kernel⟩
def f_X1_addSheet_42  (x0 : Nat)  (σ : cS) : Option (Int32 × cS) := (gI σ (some x0) 1 4).bind (fun v1 => some ((v1 - (1:Int32)), σ))
def f_X1_addSheet (x0 : Nat) (x1 : Int32) (x2 : Option Nat) (x3 : Int32) (σ : cS) : Option (Int32 × cS) := (gI σ (some x0) 1 4).bind (fun v1 => if (8:Int32) ≤ v1 then (f_X1_addSheet_42 x0 σ) else ((gR σ (some x0) 1 2).bind (fun v2 => (gI σ (some x0) 1 4).bind (fun v3 => (gI (nw σ 8) (some x0) 1 4).bind (fun v4 => (rc (nw σ 8) (some (σ).2) 8).bind (fun v5 => (f_X8_init v5 (v4) (x1) (x2) (x3) (nw σ 8)).bind (fun v6 => (sR v6 v2 8 v3 (some (σ).2)).bind (fun v7 => (gI v7 (some x0) 1 4).bind (fun v8 => (pI v7 (some x0) 1 4 (v8 + (1:Int32))).bind (fun v9 => f_X1_addSheet_42 x0 v9))))))))))
set_option maxRecDepth 20000 in
set_option maxHeartbeats 4000000 in
theorem N_X1_addSheet_42 {p : Program} {l : Launch} {e : Env} {s : State} {m : MethodId} {args : Array Value} {below : List Frame} {meth : Method} {c : Code} {D : cD} {Φ : cG} {x0 : Nat}    {σ : cS} {H : Heap} {locs : List Loc} {ls : Array Slot} {q : Int32 × cS} (X : cX p s m args meth c cX1_addSheet 4 (some .int) RX1 D Φ) (hP : cP D Φ σ H) (hS : va_S (cReg Φ) s.heap H locs)  (hl : lv_has ls 4 [(0, cv Φ (some x0))]) (h : f_X1_addSheet_42  x0  σ = some q) : cWw p l e 2 1 5 44 s m args below meth c D Φ q.2 (some (.int q.1)) H locs 1 5 (F0 m 42 ls []) := by
  have hx := X.1
  have hb := X.2.1
  have hown := X.2.2.2.1
  have hts := X.2.2.2.2.1
  have h : ((gI σ (some x0) 1 4).bind (fun v1 => some ((v1 - (1:Int32)), σ))) = some q := h
  refine c_aload_n hx hb dX1_addSheet_42 rfl (lv_at hl 0 rfl) ?_
  obtain ⟨v1, hv1, h⟩ := ob h
  refine c_gI X hP hv1 (Nat.le_of_ble_eq_true rfl) (Nat.le_of_ble_eq_true rfl) rfl w_502 dX1_addSheet_43 ?_
  refine lv_iconst (v := (1:Int32)) hx hb dX1_addSheet_46 (by decide) ?_
  refine lv_isub hx hb dX1_addSheet_47 ?_
  obtain rfl := sj h
  exact c_wi X hP hS (Nat.le_of_ble_eq_true rfl) (Nat.le_of_ble_eq_true rfl) dX1_addSheet_48
set_option maxRecDepth 20000 in
set_option maxHeartbeats 4000000 in
theorem K_X1_addSheet (l : Launch) (D : cD) (Φ : cG) (σ : cS) (x0 : Nat) (x1 : Int32) (x2 : Option Nat) (x3 : Int32) {q : Int32 × cS} (h : f_X1_addSheet x0 x1 x2 x3 σ = some q) : Met l yX1_addSheet (Cond.code yX1_addSheet cX1_addSheet 4 (some .int) :: BG) (rA 2 1 5 44) (cPc D Φ σ [cv Φ (some x0), .int x1, cv Φ x2, .int x3]) (cQw D Φ q.2 (some (.int q.1))) 1 5 (cReg Φ) := by
  refine Met.ofW (cc := cX1_addSheet) (maxL := 4) (ret := (some .int)) (by decide) rfl ?_
  intro p e s m args below meth c s₁ B hml hv
  obtain ⟨rfl, hP, hK, hZ⟩ := hv
  have X : cX p s m [cv Φ (some x0), .int x1, cv Φ x2, .int x3].toArray meth c cX1_addSheet 4 (some .int) RX1 D Φ := cX_of B hml hK hZ
  have hx := X.1
  have hb := X.2.1
  have hown := X.2.2.2.1
  have hts := X.2.2.2.2.1
  have hl := lv_entry [cv Φ (some x0), .int x1, cv Φ x2, .int x3] (n := 4) (by simp only [lgs_r, lgs_i, lgs_l, lgs_0, List.length]; exact Nat.le_of_ble_eq_true rfl)
  rw [lg_entry_eq]
  generalize (lg_sl [cv Φ (some x0), .int x1, cv Φ x2, .int x3] ++ List.replicate (4 - (lg_sl [cv Φ (some x0), .int x1, cv Φ x2, .int x3]).length) Slot.unset).toArray = ls at hl ⊢
  simp only [lv_args_r, lv_args_i, lv_args_l, lv_args_0] at hl
  have hl : lv_has ls 4 [(0, cv Φ (some x0)), (1, .int x1), (2, cv Φ x2), (3, .int x3)] := hl
  have hS : va_S (cReg Φ) s.heap s.heap [] := va_S.rf
  show cWw p l e 2 1 5 44 s m [cv Φ (some x0), .int x1, cv Φ x2, .int x3].toArray below meth c D Φ q.2 (some (.int q.1)) s.heap [] 0 0 (F0 m 0 ls [])
  have h : ((gI σ (some x0) 1 4).bind (fun v1 => if (8:Int32) ≤ v1 then (f_X1_addSheet_42 x0 σ) else ((gR σ (some x0) 1 2).bind (fun v2 => (gI σ (some x0) 1 4).bind (fun v3 => (gI (nw σ 8) (some x0) 1 4).bind (fun v4 => (rc (nw σ 8) (some (σ).2) 8).bind (fun v5 => (f_X8_init v5 (v4) (x1) (x2) (x3) (nw σ 8)).bind (fun v6 => (sR v6 v2 8 v3 (some (σ).2)).bind (fun v7 => (gI v7 (some x0) 1 4).bind (fun v8 => (pI v7 (some x0) 1 4 (v8 + (1:Int32))).bind (fun v9 => f_X1_addSheet_42 x0 v9))))))))))) = some q := h
  refine c_aload_n hx hb dX1_addSheet_0 rfl (lv_at hl 0 rfl) ?_
  obtain ⟨v1, hv1, h⟩ := ob h
  refine c_gI X hP hv1 (Nat.le_of_ble_eq_true rfl) (Nat.le_of_ble_eq_true rfl) rfl w_502 dX1_addSheet_1 ?_
  refine lv_bipush (v := (8:Int32)) hx hb dX1_addSheet_4 (by decide) ?_
  refine lv_icmp_ge (tgt := 42) hx hb dX1_addSheet_6 rfl (fun hc => ?_) (fun hc => ?_)
  · have h := ip hc h
    refine W.widen (k := 1) (n := 5) (Nat.le_of_ble_eq_true rfl) (Nat.le_of_ble_eq_true rfl) ?_
    exact N_X1_addSheet_42 X hP hS (lv_sub hl [0] rfl) h
  · have h := ine hc h
    refine c_aload_n hx hb dX1_addSheet_9 rfl (lv_at hl 0 rfl) ?_
    obtain ⟨v2, hv2, h⟩ := ob h
    refine c_gR X hP hv2 (Nat.le_of_ble_eq_true rfl) (Nat.le_of_ble_eq_true rfl) rfl w_500 dX1_addSheet_10 ?_
    refine c_aload_n hx hb dX1_addSheet_13 rfl (lv_at hl 0 rfl) ?_
    obtain ⟨v3, hv3, h⟩ := ob h
    refine c_gI X hP hv3 (Nat.le_of_ble_eq_true rfl) (Nat.le_of_ble_eq_true rfl) rfl w_502 dX1_addSheet_14 ?_
    refine c_new X hP hS (ci := 8) ⟨Nat.le_of_ble_eq_true rfl, by decide⟩ ⟨w_494, w_1253, w_72⟩ (Nat.le_of_ble_eq_true rfl) (Nat.le_of_ble_eq_true rfl) dX1_addSheet_17 (fun H hP hS => ?_)
    refine c_dupq hx hb dX1_addSheet_20 ?_
    refine c_aload_n hx hb dX1_addSheet_21 rfl (lv_at hl 0 rfl) ?_
    obtain ⟨v4, hv4, h⟩ := ob h
    refine c_gI X hP hv4 (Nat.le_of_ble_eq_true rfl) (Nat.le_of_ble_eq_true rfl) rfl w_502 dX1_addSheet_22 ?_
    refine lv_iload_n hx hb dX1_addSheet_25 rfl (lv_at hl 1 rfl) ?_
    refine c_aload_n hx hb dX1_addSheet_26 rfl (lv_at hl 2 rfl) ?_
    refine lv_iload_n hx hb dX1_addSheet_27 rfl (lv_at hl 3 rfl) ?_
    obtain ⟨v5, hv5, h⟩ := ob h
    obtain ⟨v6, hv6, h⟩ := ob h
    refine c_cw (c_runI X (K_X8_init l D Φ (nw σ 8) v5 (v4) (x1) (x2) (x3) hv6) hv5 (Nat.le_of_ble_eq_true rfl) ⟨w_1254, ww_X8_init⟩ rfl rfl hy_X8_init rfl ⟨(Nat.le_of_ble_eq_true rfl), (Nat.le_of_ble_eq_true rfl)⟩ hP hS hl.1 (Nat.le_of_ble_eq_true rfl) dX1_addSheet_28 rfl ⟨(Nat.le_of_ble_eq_true rfl), (Nat.le_of_ble_eq_true rfl)⟩) hS (fun H locs hP hS => ?_)
    refine W.eq (g2 := F0 m 31 ls [cv Φ (some (σ).2), .int v3, cv Φ v2]) rfl ?_
    obtain ⟨v7, hv7, h⟩ := ob h
    refine c_astq X hP hS hv7 ⟨Nat.le_of_ble_eq_true rfl, by decide⟩ rfl dX1_addSheet_31 (fun H locs hP hS => ?_)
    refine c_aload_n hx hb dX1_addSheet_32 rfl (lv_at hl 0 rfl) ?_
    refine c_dupq hx hb dX1_addSheet_33 ?_
    obtain ⟨v8, hv8, h⟩ := ob h
    refine c_gI X hP hv8 (Nat.le_of_ble_eq_true rfl) (Nat.le_of_ble_eq_true rfl) rfl w_502 dX1_addSheet_34 ?_
    refine lv_iconst (v := (1:Int32)) hx hb dX1_addSheet_37 (by decide) ?_
    refine lv_iadd hx hb dX1_addSheet_38 ?_
    obtain ⟨v9, hv9, h⟩ := ob h
    refine c_pI X hP hS hv9 (Nat.le_of_ble_eq_true rfl) (Nat.le_of_ble_eq_true rfl) rfl rfl (Or.inl rfl) w_502 dX1_addSheet_39 (fun H locs hP hS => ?_)
    exact N_X1_addSheet_42 X hP hS (lv_sub hl [0] rfl) h
theorem ww_X1_addSheet : Cond.instanceMethod yX1_addSheet ∈ BG ∧ Cond.selects (yX1_addSheet).cls yX1_addSheet yX1_addSheet ∈ BG ∧ Cond.initialized (yX1_addSheet).cls ∈ BG ∧ Cond.code yX1_addSheet cX1_addSheet 4 (some .int) ∈ BG := ⟨w_1250, w_1251, w_64, w_1252⟩
theorem hy_X1_addSheet : (yX1_addSheet).cls ≠ "java/lang/invoke/MethodHandle" ∧ (yX1_addSheet).cls ≠ "java/lang/invoke/VarHandle" ∧ (parseMethodDescriptor (yX1_addSheet).desc).map (fun d => d.parameters.length) = some 3 := ⟨by decide, by decide, by decide +kernel⟩
def f_X6_init_69  (x0 : Nat) (y0 : Option Nat) (y1 : Int32) (σ : cS) : Option (cS) := (pI σ y0 6 3 y1).bind (fun v1 => some v1)
def f_X6_init (x0 : Nat) (x1 : Int32) (x2 : Option Nat) (x3 : Option Nat) (σ : cS) : Option (cS) := (pI σ (some x0) 6 4 ((-1):Int32)).bind (fun v1 => (pR (na v1 20 15) (some x0) 6 8 (some (v1).2)).bind (fun v2 => (pR (na v2 20 15) (some x0) 6 9 (some (v2).2)).bind (fun v3 => (pR (na v3 20 15) (some x0) 6 10 (some (v3).2)).bind (fun v4 => (pR (na v4 20 15) (some x0) 6 11 (some (v4).2)).bind (fun v5 => (pI v5 (some x0) 6 0 x1).bind (fun v6 => (pR v6 (some x0) 6 1 x2).bind (fun v7 => (pR v7 (some x0) 6 2 x3).bind (fun v8 => if x2 = none then (f_X6_init_69 x0 ((some x0)) ((2:Int32)) v8) else ((gI v8 x2 8 1).bind (fun v9 => f_X6_init_69 x0 ((some x0)) (v9) v8))))))))))
set_option maxRecDepth 20000 in
set_option maxHeartbeats 4000000 in
theorem N_X6_init_69 {p : Program} {l : Launch} {e : Env} {s : State} {m : MethodId} {args : Array Value} {below : List Frame} {meth : Method} {c : Code} {D : cD} {Φ : cG} {x0 : Nat}   {y0 : Option Nat} {y1 : Int32} {σ : cS} {H : Heap} {locs : List Loc} {ls : Array Slot} {q : cS} (X : cX p s m args meth c cX6_init 4 none RX6 D Φ) (hin : meth.name = "<init>") (hP : cP D Φ σ H) (hS : va_S (cReg Φ) s.heap H locs)  (hl : lv_has ls 4 []) (h : f_X6_init_69  x0 y0 y1 σ = some q) : cWw p l e 1 4 60 20 s m args below meth c D Φ q none H locs 4 60 (F0 m 69 ls [.int y1, cv Φ y0]) := by
  have hx := X.1
  have hb := X.2.1
  have hown := X.2.2.2.1
  have hts := X.2.2.2.2.1
  have h : ((pI σ y0 6 3 y1).bind (fun v1 => some v1)) = some q := h
  obtain ⟨v1, hv1, h⟩ := ob h
  refine c_pI X hP hS hv1 (Nat.le_of_ble_eq_true rfl) (Nat.le_of_ble_eq_true rfl) rfl rfl (Or.inr ⟨rfl, hin, rfl⟩) w_166 dX6_init_69 (fun H locs hP hS => ?_)
  obtain rfl := sj h
  exact c_wv X hP hS (Nat.le_of_ble_eq_true rfl) (Nat.le_of_ble_eq_true rfl) dX6_init_72
set_option maxRecDepth 20000 in
set_option maxHeartbeats 4000000 in
theorem K_X6_init (l : Launch) (D : cD) (Φ : cG) (σ : cS) (x0 : Nat) (x1 : Int32) (x2 : Option Nat) (x3 : Option Nat) {q : cS} (h : f_X6_init x0 x1 x2 x3 σ = some q) : Met l yX6_init (Cond.code yX6_init cX6_init 4 none :: BG) (rA 1 4 60 20) (cPc D Φ σ [cv Φ (some x0), .int x1, cv Φ x2, cv Φ x3]) (cQw D Φ q none) 4 60 (cReg Φ) := by
  refine Met.ofW (cc := cX6_init) (maxL := 4) (ret := none) (by decide) rfl ?_
  intro p e s m args below meth c s₁ B hml hv
  obtain ⟨rfl, hP, hK, hZ⟩ := hv
  have X : cX p s m [cv Φ (some x0), .int x1, cv Φ x2, cv Φ x3].toArray meth c cX6_init 4 none RX6 D Φ := cX_of B hml hK hZ
  have hin : meth.name = "<init>" := (name_of_methodNamed B.named B.method).1
  have hx := X.1
  have hb := X.2.1
  have hown := X.2.2.2.1
  have hts := X.2.2.2.2.1
  have hl := lv_entry [cv Φ (some x0), .int x1, cv Φ x2, cv Φ x3] (n := 4) (by simp only [lgs_r, lgs_i, lgs_l, lgs_0, List.length]; exact Nat.le_of_ble_eq_true rfl)
  rw [lg_entry_eq]
  generalize (lg_sl [cv Φ (some x0), .int x1, cv Φ x2, cv Φ x3] ++ List.replicate (4 - (lg_sl [cv Φ (some x0), .int x1, cv Φ x2, cv Φ x3]).length) Slot.unset).toArray = ls at hl ⊢
  simp only [lv_args_r, lv_args_i, lv_args_l, lv_args_0] at hl
  have hl : lv_has ls 4 [(0, cv Φ (some x0)), (1, .int x1), (2, cv Φ x2), (3, cv Φ x3)] := hl
  have hS : va_S (cReg Φ) s.heap s.heap [] := va_S.rf
  show cWw p l e 1 4 60 20 s m [cv Φ (some x0), .int x1, cv Φ x2, cv Φ x3].toArray below meth c D Φ q none s.heap [] 0 0 (F0 m 0 ls [])
  have h : ((pI σ (some x0) 6 4 ((-1):Int32)).bind (fun v1 => (pR (na v1 20 15) (some x0) 6 8 (some (v1).2)).bind (fun v2 => (pR (na v2 20 15) (some x0) 6 9 (some (v2).2)).bind (fun v3 => (pR (na v3 20 15) (some x0) 6 10 (some (v3).2)).bind (fun v4 => (pR (na v4 20 15) (some x0) 6 11 (some (v4).2)).bind (fun v5 => (pI v5 (some x0) 6 0 x1).bind (fun v6 => (pR v6 (some x0) 6 1 x2).bind (fun v7 => (pR v7 (some x0) 6 2 x3).bind (fun v8 => if x2 = none then (f_X6_init_69 x0 ((some x0)) ((2:Int32)) v8) else ((gI v8 x2 8 1).bind (fun v9 => f_X6_init_69 x0 ((some x0)) (v9) v8))))))))))) = some q := h
  refine c_aload_n hx hb dX6_init_0 rfl (lv_at hl 0 rfl) ?_
  refine W.objInit hx hb hown (hts _ w_159) (hts _ w_oi) (hts _ w_oc) rfl (hl.1.trans X.2.2.1.symm) rfl dX6_init_1 (Nat.le_of_ble_eq_true rfl) (Nat.le_of_ble_eq_true rfl) ?_
  refine W.eq (g2 := F0 m 4 ls []) rfl ?_
  refine c_aload_n hx hb dX6_init_4 rfl (lv_at hl 0 rfl) ?_
  refine lv_iconst (v := ((-1):Int32)) hx hb dX6_init_5 (by decide) ?_
  obtain ⟨v1, hv1, h⟩ := ob h
  refine c_pI X hP hS hv1 (Nat.le_of_ble_eq_true rfl) (Nat.le_of_ble_eq_true rfl) rfl rfl (Or.inl rfl) w_168 dX6_init_6 (fun H locs hP hS => ?_)
  refine c_aload_n hx hb dX6_init_9 rfl (lv_at hl 0 rfl) ?_
  refine lv_bipush (v := (15:Int32)) hx hb dX6_init_10 (by decide) ?_
  refine c_newa X hP hS (N := 15) w_141 (by decide) rfl (Nat.le_of_ble_eq_true rfl) (Nat.le_of_ble_eq_true rfl) (Nat.le_of_ble_eq_true rfl) dX6_init_12 (fun H hP hS => ?_)
  obtain ⟨v2, hv2, h⟩ := ob h
  refine c_pR X hP hS hv2 (Nat.le_of_ble_eq_true rfl) (Nat.le_of_ble_eq_true rfl) rfl (Or.inr ⟨rfl, hin, rfl⟩) w_178 dX6_init_14 (fun H locs hP hS => ?_)
  refine c_aload_n hx hb dX6_init_17 rfl (lv_at hl 0 rfl) ?_
  refine lv_bipush (v := (15:Int32)) hx hb dX6_init_18 (by decide) ?_
  refine c_newa X hP hS (N := 15) w_141 (by decide) rfl (Nat.le_of_ble_eq_true rfl) (Nat.le_of_ble_eq_true rfl) (Nat.le_of_ble_eq_true rfl) dX6_init_20 (fun H hP hS => ?_)
  obtain ⟨v3, hv3, h⟩ := ob h
  refine c_pR X hP hS hv3 (Nat.le_of_ble_eq_true rfl) (Nat.le_of_ble_eq_true rfl) rfl (Or.inr ⟨rfl, hin, rfl⟩) w_181 dX6_init_22 (fun H locs hP hS => ?_)
  refine c_aload_n hx hb dX6_init_25 rfl (lv_at hl 0 rfl) ?_
  refine lv_bipush (v := (15:Int32)) hx hb dX6_init_26 (by decide) ?_
  refine c_newa X hP hS (N := 15) w_141 (by decide) rfl (Nat.le_of_ble_eq_true rfl) (Nat.le_of_ble_eq_true rfl) (Nat.le_of_ble_eq_true rfl) dX6_init_28 (fun H hP hS => ?_)
  obtain ⟨v4, hv4, h⟩ := ob h
  refine c_pR X hP hS hv4 (Nat.le_of_ble_eq_true rfl) (Nat.le_of_ble_eq_true rfl) rfl (Or.inr ⟨rfl, hin, rfl⟩) w_183 dX6_init_30 (fun H locs hP hS => ?_)
  refine c_aload_n hx hb dX6_init_33 rfl (lv_at hl 0 rfl) ?_
  refine lv_bipush (v := (15:Int32)) hx hb dX6_init_34 (by decide) ?_
  refine c_newa X hP hS (N := 15) w_141 (by decide) rfl (Nat.le_of_ble_eq_true rfl) (Nat.le_of_ble_eq_true rfl) (Nat.le_of_ble_eq_true rfl) dX6_init_36 (fun H hP hS => ?_)
  obtain ⟨v5, hv5, h⟩ := ob h
  refine c_pR X hP hS hv5 (Nat.le_of_ble_eq_true rfl) (Nat.le_of_ble_eq_true rfl) rfl (Or.inr ⟨rfl, hin, rfl⟩) w_185 dX6_init_38 (fun H locs hP hS => ?_)
  refine c_aload_n hx hb dX6_init_41 rfl (lv_at hl 0 rfl) ?_
  refine lv_iload_n hx hb dX6_init_42 rfl (lv_at hl 1 rfl) ?_
  obtain ⟨v6, hv6, h⟩ := ob h
  refine c_pI X hP hS hv6 (Nat.le_of_ble_eq_true rfl) (Nat.le_of_ble_eq_true rfl) rfl rfl (Or.inr ⟨rfl, hin, rfl⟩) w_160 dX6_init_43 (fun H locs hP hS => ?_)
  refine c_aload_n hx hb dX6_init_46 rfl (lv_at hl 0 rfl) ?_
  refine c_aload_n hx hb dX6_init_47 rfl (lv_at hl 2 rfl) ?_
  obtain ⟨v7, hv7, h⟩ := ob h
  refine c_pR X hP hS hv7 (Nat.le_of_ble_eq_true rfl) (Nat.le_of_ble_eq_true rfl) rfl (Or.inr ⟨rfl, hin, rfl⟩) w_162 dX6_init_48 (fun H locs hP hS => ?_)
  refine c_aload_n hx hb dX6_init_51 rfl (lv_at hl 0 rfl) ?_
  refine c_aload_n hx hb dX6_init_52 rfl (lv_at hl 3 rfl) ?_
  obtain ⟨v8, hv8, h⟩ := ob h
  refine c_pR X hP hS hv8 (Nat.le_of_ble_eq_true rfl) (Nat.le_of_ble_eq_true rfl) rfl (Or.inr ⟨rfl, hin, rfl⟩) w_164 dX6_init_53 (fun H locs hP hS => ?_)
  refine c_aload_n hx hb dX6_init_56 rfl (lv_at hl 0 rfl) ?_
  refine c_aload_n hx hb dX6_init_57 rfl (lv_at hl 2 rfl) ?_
  refine c_ifnonnull (Φ := Φ) (tgt := 65) hx hb dX6_init_58 rfl (fun hc => ?_) (fun hc => ?_)
  · have h := ine hc h
    refine c_aload_n hx hb dX6_init_65 rfl (lv_at hl 2 rfl) ?_
    obtain ⟨v9, hv9, h⟩ := ob h
    refine c_gI X hP hv9 (Nat.le_of_ble_eq_true rfl) (Nat.le_of_ble_eq_true rfl) rfl w_1261 dX6_init_66 ?_
    exact N_X6_init_69 X hin hP hS (lv_sub hl [] rfl) h
  · have h := ip hc h
    refine lv_iconst (v := (2:Int32)) hx hb dX6_init_61 (by decide) ?_
    refine lv_goto (tgt := 69) hx hb dX6_init_62 rfl ?_
    exact N_X6_init_69 X hin hP hS (lv_sub hl [] rfl) h
theorem ww_X6_init : Cond.instanceMethod yX6_init ∈ BG ∧ Cond.initialized (yX6_init).cls ∈ BG ∧ Cond.code yX6_init cX6_init 4 none ∈ BG := ⟨w_157, w_60, w_158⟩
theorem hy_X6_init : (yX6_init).cls ≠ "java/lang/invoke/MethodHandle" ∧ (yX6_init).cls ≠ "java/lang/invoke/VarHandle" ∧ (parseMethodDescriptor (yX6_init).desc).map (fun d => d.parameters.length) = some 3 := ⟨by decide, by decide, by decide +kernel⟩
def f_X1_addRule_123  (x0 : Nat)  (σ : cS) : Option (Int32 × cS) := (gI σ (some x0) 1 5).bind (fun v1 => some ((v1 - (1:Int32)), σ))
def f_X1_addRule_66  (x0 : Nat) (x2 : Option Nat) (x3 : Option Nat) (σ : cS) : Option (Int32 × cS) := (pR σ (some x0) 1 7 x3).bind (fun v1 => (gI v1 (some x0) 1 9).bind (fun v2 => (gI v1 x2 7 10).bind (fun v3 => (pI v1 (some x0) 1 9 (v2 ||| v3)).bind (fun v4 => (gI v4 (some x0) 1 10).bind (fun v5 => (gI v4 x2 7 11).bind (fun v6 => (pI v4 (some x0) 1 10 (v5 ||| v6)).bind (fun v7 => (gI v7 (some x0) 1 11).bind (fun v8 => (gI v7 x2 7 7).bind (fun v9 => (pZ v7 (some x0) 1 11 (v8 ||| v9)).bind (fun v10 => (gI v10 (some x0) 1 12).bind (fun v11 => (gI v10 x2 7 8).bind (fun v12 => (pZ v10 (some x0) 1 12 (v11 ||| v12)).bind (fun v13 => f_X1_addRule_123 x0 v13)))))))))))))
def f_X1_addRule (x0 : Nat) (x1 : Option Nat) (x2 : Option Nat) (σ : cS) : Option (Int32 × cS) := (gI σ (some x0) 1 5).bind (fun v1 => if (40:Int32) ≤ v1 then (f_X1_addRule_123 x0 σ) else ((gI (nw σ 6) (some x0) 1 5).bind (fun v2 => (rc (nw σ 6) (some (σ).2) 6).bind (fun v3 => (f_X6_init v3 (v2) (x1) (x2) (nw σ 6)).bind (fun v4 => (gR v4 (some x0) 1 3).bind (fun v5 => (gI v4 (some x0) 1 5).bind (fun v6 => (sR v4 v5 6 v6 (some (σ).2)).bind (fun v7 => (gI v7 (some x0) 1 5).bind (fun v8 => (pI v7 (some x0) 1 5 (v8 + (1:Int32))).bind (fun v9 => (gR v9 (some x0) 1 7).bind (fun v10 => if v10 = none then ((pR v9 (some x0) 1 6 (some (σ).2)).bind (fun v13 => f_X1_addRule_66 x0 (x2) ((some (σ).2)) v13)) else ((gR v9 (some x0) 1 7).bind (fun v11 => (pR v9 v11 6 14 (some (σ).2)).bind (fun v12 => f_X1_addRule_66 x0 (x2) ((some (σ).2)) v12))))))))))))))
set_option maxRecDepth 20000 in
set_option maxHeartbeats 4000000 in
theorem N_X1_addRule_123 {p : Program} {l : Launch} {e : Env} {s : State} {m : MethodId} {args : Array Value} {below : List Frame} {meth : Method} {c : Code} {D : cD} {Φ : cG} {x0 : Nat}    {σ : cS} {H : Heap} {locs : List Loc} {ls : Array Slot} {q : Int32 × cS} (X : cX p s m args meth c cX1_addRule 4 (some .int) RX1 D Φ) (hP : cP D Φ σ H) (hS : va_S (cReg Φ) s.heap H locs)  (hl : lv_has ls 4 [(0, cv Φ (some x0))]) (h : f_X1_addRule_123  x0  σ = some q) : cWw p l e 2 5 75 43 s m args below meth c D Φ q.2 (some (.int q.1)) H locs 5 75 (F0 m 123 ls []) := by
  have hx := X.1
  have hb := X.2.1
  have hown := X.2.2.2.1
  have hts := X.2.2.2.2.1
  have h : ((gI σ (some x0) 1 5).bind (fun v1 => some ((v1 - (1:Int32)), σ))) = some q := h
  refine c_aload_n hx hb dX1_addRule_123 rfl (lv_at hl 0 rfl) ?_
  obtain ⟨v1, hv1, h⟩ := ob h
  refine c_gI X hP hv1 (Nat.le_of_ble_eq_true rfl) (Nat.le_of_ble_eq_true rfl) rfl w_504 dX1_addRule_124 ?_
  refine lv_iconst (v := (1:Int32)) hx hb dX1_addRule_127 (by decide) ?_
  refine lv_isub hx hb dX1_addRule_128 ?_
  obtain rfl := sj h
  exact c_wi X hP hS (Nat.le_of_ble_eq_true rfl) (Nat.le_of_ble_eq_true rfl) dX1_addRule_129
set_option maxRecDepth 20000 in
set_option maxHeartbeats 4000000 in
theorem N_X1_addRule_66 {p : Program} {l : Launch} {e : Env} {s : State} {m : MethodId} {args : Array Value} {below : List Frame} {meth : Method} {c : Code} {D : cD} {Φ : cG} {x0 : Nat}   {x2 : Option Nat} {x3 : Option Nat} {σ : cS} {H : Heap} {locs : List Loc} {ls : Array Slot} {q : Int32 × cS} (X : cX p s m args meth c cX1_addRule 4 (some .int) RX1 D Φ) (hP : cP D Φ σ H) (hS : va_S (cReg Φ) s.heap H locs)  (hl : lv_has ls 4 [(0, cv Φ (some x0)), (2, cv Φ x2), (3, cv Φ x3)]) (h : f_X1_addRule_66  x0 x2 x3 σ = some q) : cWw p l e 2 5 75 43 s m args below meth c D Φ q.2 (some (.int q.1)) H locs 5 75 (F0 m 66 ls []) := by
  have hx := X.1
  have hb := X.2.1
  have hown := X.2.2.2.1
  have hts := X.2.2.2.2.1
  have h : ((pR σ (some x0) 1 7 x3).bind (fun v1 => (gI v1 (some x0) 1 9).bind (fun v2 => (gI v1 x2 7 10).bind (fun v3 => (pI v1 (some x0) 1 9 (v2 ||| v3)).bind (fun v4 => (gI v4 (some x0) 1 10).bind (fun v5 => (gI v4 x2 7 11).bind (fun v6 => (pI v4 (some x0) 1 10 (v5 ||| v6)).bind (fun v7 => (gI v7 (some x0) 1 11).bind (fun v8 => (gI v7 x2 7 7).bind (fun v9 => (pZ v7 (some x0) 1 11 (v8 ||| v9)).bind (fun v10 => (gI v10 (some x0) 1 12).bind (fun v11 => (gI v10 x2 7 8).bind (fun v12 => (pZ v10 (some x0) 1 12 (v11 ||| v12)).bind (fun v13 => f_X1_addRule_123 x0 v13)))))))))))))) = some q := h
  refine c_aload_n hx hb dX1_addRule_66 rfl (lv_at hl 0 rfl) ?_
  refine c_aload_n hx hb dX1_addRule_67 rfl (lv_at hl 2 rfl) ?_
  obtain ⟨v1, hv1, h⟩ := ob h
  refine c_pR X hP hS hv1 (Nat.le_of_ble_eq_true rfl) (Nat.le_of_ble_eq_true rfl) rfl (Or.inl rfl) w_507 dX1_addRule_68 (fun H locs hP hS => ?_)
  refine c_aload_n hx hb dX1_addRule_71 rfl (lv_at hl 0 rfl) ?_
  refine c_dupq hx hb dX1_addRule_72 ?_
  obtain ⟨v2, hv2, h⟩ := ob h
  refine c_gI X hP hv2 (Nat.le_of_ble_eq_true rfl) (Nat.le_of_ble_eq_true rfl) rfl w_510 dX1_addRule_73 ?_
  refine c_aload_n hx hb dX1_addRule_76 rfl (lv_at hl 1 rfl) ?_
  obtain ⟨v3, hv3, h⟩ := ob h
  refine c_gI X hP hv3 (Nat.le_of_ble_eq_true rfl) (Nat.le_of_ble_eq_true rfl) rfl w_430 dX1_addRule_77 ?_
  refine lv_ior hx hb dX1_addRule_80 ?_
  obtain ⟨v4, hv4, h⟩ := ob h
  refine c_pI X hP hS hv4 (Nat.le_of_ble_eq_true rfl) (Nat.le_of_ble_eq_true rfl) rfl rfl (Or.inl rfl) w_510 dX1_addRule_81 (fun H locs hP hS => ?_)
  refine c_aload_n hx hb dX1_addRule_84 rfl (lv_at hl 0 rfl) ?_
  refine c_dupq hx hb dX1_addRule_85 ?_
  obtain ⟨v5, hv5, h⟩ := ob h
  refine c_gI X hP hv5 (Nat.le_of_ble_eq_true rfl) (Nat.le_of_ble_eq_true rfl) rfl w_512 dX1_addRule_86 ?_
  refine c_aload_n hx hb dX1_addRule_89 rfl (lv_at hl 1 rfl) ?_
  obtain ⟨v6, hv6, h⟩ := ob h
  refine c_gI X hP hv6 (Nat.le_of_ble_eq_true rfl) (Nat.le_of_ble_eq_true rfl) rfl w_432 dX1_addRule_90 ?_
  refine lv_ior hx hb dX1_addRule_93 ?_
  obtain ⟨v7, hv7, h⟩ := ob h
  refine c_pI X hP hS hv7 (Nat.le_of_ble_eq_true rfl) (Nat.le_of_ble_eq_true rfl) rfl rfl (Or.inl rfl) w_512 dX1_addRule_94 (fun H locs hP hS => ?_)
  refine c_aload_n hx hb dX1_addRule_97 rfl (lv_at hl 0 rfl) ?_
  refine c_dupq hx hb dX1_addRule_98 ?_
  obtain ⟨v8, hv8, h⟩ := ob h
  refine c_gI X hP hv8 (Nat.le_of_ble_eq_true rfl) (Nat.le_of_ble_eq_true rfl) rfl w_514 dX1_addRule_99 ?_
  refine c_aload_n hx hb dX1_addRule_102 rfl (lv_at hl 1 rfl) ?_
  obtain ⟨v9, hv9, h⟩ := ob h
  refine c_gI X hP hv9 (Nat.le_of_ble_eq_true rfl) (Nat.le_of_ble_eq_true rfl) rfl w_425 dX1_addRule_103 ?_
  refine lv_ior hx hb dX1_addRule_106 ?_
  obtain ⟨v10, hv10, h⟩ := ob h
  refine c_pZ X hP hS hv10 (Nat.le_of_ble_eq_true rfl) (Nat.le_of_ble_eq_true rfl) rfl rfl (Or.inl rfl) w_514 dX1_addRule_107 (fun H locs hP hS => ?_)
  refine c_aload_n hx hb dX1_addRule_110 rfl (lv_at hl 0 rfl) ?_
  refine c_dupq hx hb dX1_addRule_111 ?_
  obtain ⟨v11, hv11, h⟩ := ob h
  refine c_gI X hP hv11 (Nat.le_of_ble_eq_true rfl) (Nat.le_of_ble_eq_true rfl) rfl w_516 dX1_addRule_112 ?_
  refine c_aload_n hx hb dX1_addRule_115 rfl (lv_at hl 1 rfl) ?_
  obtain ⟨v12, hv12, h⟩ := ob h
  refine c_gI X hP hv12 (Nat.le_of_ble_eq_true rfl) (Nat.le_of_ble_eq_true rfl) rfl w_426 dX1_addRule_116 ?_
  refine lv_ior hx hb dX1_addRule_119 ?_
  obtain ⟨v13, hv13, h⟩ := ob h
  refine c_pZ X hP hS hv13 (Nat.le_of_ble_eq_true rfl) (Nat.le_of_ble_eq_true rfl) rfl rfl (Or.inl rfl) w_516 dX1_addRule_120 (fun H locs hP hS => ?_)
  exact N_X1_addRule_123 X hP hS (lv_sub hl [0] rfl) h
set_option maxRecDepth 20000 in
set_option maxHeartbeats 4000000 in
theorem K_X1_addRule (l : Launch) (D : cD) (Φ : cG) (σ : cS) (x0 : Nat) (x1 : Option Nat) (x2 : Option Nat) {q : Int32 × cS} (h : f_X1_addRule x0 x1 x2 σ = some q) : Met l yX1_addRule (Cond.code yX1_addRule cX1_addRule 4 (some .int) :: BG) (rA 2 5 75 43) (cPc D Φ σ [cv Φ (some x0), cv Φ x1, cv Φ x2]) (cQw D Φ q.2 (some (.int q.1))) 5 75 (cReg Φ) := by
  refine Met.ofW (cc := cX1_addRule) (maxL := 4) (ret := (some .int)) (by decide) rfl ?_
  intro p e s m args below meth c s₁ B hml hv
  obtain ⟨rfl, hP, hK, hZ⟩ := hv
  have X : cX p s m [cv Φ (some x0), cv Φ x1, cv Φ x2].toArray meth c cX1_addRule 4 (some .int) RX1 D Φ := cX_of B hml hK hZ
  have hx := X.1
  have hb := X.2.1
  have hown := X.2.2.2.1
  have hts := X.2.2.2.2.1
  have hl := lv_entry [cv Φ (some x0), cv Φ x1, cv Φ x2] (n := 4) (by simp only [lgs_r, lgs_i, lgs_l, lgs_0, List.length]; exact Nat.le_of_ble_eq_true rfl)
  rw [lg_entry_eq]
  generalize (lg_sl [cv Φ (some x0), cv Φ x1, cv Φ x2] ++ List.replicate (4 - (lg_sl [cv Φ (some x0), cv Φ x1, cv Φ x2]).length) Slot.unset).toArray = ls at hl ⊢
  simp only [lv_args_r, lv_args_i, lv_args_l, lv_args_0] at hl
  have hl : lv_has ls 4 [(0, cv Φ (some x0)), (1, cv Φ x1), (2, cv Φ x2)] := hl
  have hS : va_S (cReg Φ) s.heap s.heap [] := va_S.rf
  show cWw p l e 2 5 75 43 s m [cv Φ (some x0), cv Φ x1, cv Φ x2].toArray below meth c D Φ q.2 (some (.int q.1)) s.heap [] 0 0 (F0 m 0 ls [])
  have h : ((gI σ (some x0) 1 5).bind (fun v1 => if (40:Int32) ≤ v1 then (f_X1_addRule_123 x0 σ) else ((gI (nw σ 6) (some x0) 1 5).bind (fun v2 => (rc (nw σ 6) (some (σ).2) 6).bind (fun v3 => (f_X6_init v3 (v2) (x1) (x2) (nw σ 6)).bind (fun v4 => (gR v4 (some x0) 1 3).bind (fun v5 => (gI v4 (some x0) 1 5).bind (fun v6 => (sR v4 v5 6 v6 (some (σ).2)).bind (fun v7 => (gI v7 (some x0) 1 5).bind (fun v8 => (pI v7 (some x0) 1 5 (v8 + (1:Int32))).bind (fun v9 => (gR v9 (some x0) 1 7).bind (fun v10 => if v10 = none then ((pR v9 (some x0) 1 6 (some (σ).2)).bind (fun v13 => f_X1_addRule_66 x0 (x2) ((some (σ).2)) v13)) else ((gR v9 (some x0) 1 7).bind (fun v11 => (pR v9 v11 6 14 (some (σ).2)).bind (fun v12 => f_X1_addRule_66 x0 (x2) ((some (σ).2)) v12))))))))))))))) = some q := h
  refine c_aload_n hx hb dX1_addRule_0 rfl (lv_at hl 0 rfl) ?_
  obtain ⟨v1, hv1, h⟩ := ob h
  refine c_gI X hP hv1 (Nat.le_of_ble_eq_true rfl) (Nat.le_of_ble_eq_true rfl) rfl w_504 dX1_addRule_1 ?_
  refine lv_bipush (v := (40:Int32)) hx hb dX1_addRule_4 (by decide) ?_
  refine lv_icmp_ge (tgt := 123) hx hb dX1_addRule_6 rfl (fun hc => ?_) (fun hc => ?_)
  · have h := ip hc h
    refine W.widen (k := 5) (n := 75) (Nat.le_of_ble_eq_true rfl) (Nat.le_of_ble_eq_true rfl) ?_
    exact N_X1_addRule_123 X hP hS (lv_sub hl [0] rfl) h
  · have h := ine hc h
    refine c_new X hP hS (ci := 6) ⟨Nat.le_of_ble_eq_true rfl, by decide⟩ ⟨w_496, w_155, w_60⟩ (Nat.le_of_ble_eq_true rfl) (Nat.le_of_ble_eq_true rfl) dX1_addRule_9 (fun H hP hS => ?_)
    refine c_dupq hx hb dX1_addRule_12 ?_
    refine c_aload_n hx hb dX1_addRule_13 rfl (lv_at hl 0 rfl) ?_
    obtain ⟨v2, hv2, h⟩ := ob h
    refine c_gI X hP hv2 (Nat.le_of_ble_eq_true rfl) (Nat.le_of_ble_eq_true rfl) rfl w_504 dX1_addRule_14 ?_
    refine c_aload_n hx hb dX1_addRule_17 rfl (lv_at hl 1 rfl) ?_
    refine c_aload_n hx hb dX1_addRule_18 rfl (lv_at hl 2 rfl) ?_
    obtain ⟨v3, hv3, h⟩ := ob h
    obtain ⟨v4, hv4, h⟩ := ob h
    refine c_cw (c_runI X (K_X6_init l D Φ (nw σ 6) v3 (v2) (x1) (x2) hv4) hv3 (Nat.le_of_ble_eq_true rfl) ⟨w_1299, ww_X6_init⟩ rfl rfl hy_X6_init rfl ⟨(Nat.le_of_ble_eq_true rfl), (Nat.le_of_ble_eq_true rfl)⟩ hP hS hl.1 (Nat.le_of_ble_eq_true rfl) dX1_addRule_19 rfl ⟨(Nat.le_of_ble_eq_true rfl), (Nat.le_of_ble_eq_true rfl)⟩) hS (fun H locs hP hS => ?_)
    refine W.eq (g2 := F0 m 22 ls [cv Φ (some (σ).2)]) rfl ?_
    refine c_astore_n hx hb dX1_addRule_22 rfl hl (Nat.le_of_ble_eq_true rfl) (lvKa rfl (lvKa rfl (lvKr lvK0))) rfl (fun ls (hl : lv_has ls 4 [(3, cv Φ (some (σ).2)), (0, cv Φ (some x0)), (1, cv Φ x1), (2, cv Φ x2)]) => ?_)
    refine c_aload_n hx hb dX1_addRule_23 rfl (lv_at hl 1 rfl) ?_
    obtain ⟨v5, hv5, h⟩ := ob h
    refine c_gR X hP hv5 (Nat.le_of_ble_eq_true rfl) (Nat.le_of_ble_eq_true rfl) rfl w_501 dX1_addRule_24 ?_
    refine c_aload_n hx hb dX1_addRule_27 rfl (lv_at hl 1 rfl) ?_
    obtain ⟨v6, hv6, h⟩ := ob h
    refine c_gI X hP hv6 (Nat.le_of_ble_eq_true rfl) (Nat.le_of_ble_eq_true rfl) rfl w_504 dX1_addRule_28 ?_
    refine c_aload_n hx hb dX1_addRule_31 rfl (lv_at hl 0 rfl) ?_
    obtain ⟨v7, hv7, h⟩ := ob h
    refine c_astq X hP hS hv7 ⟨Nat.le_of_ble_eq_true rfl, by decide⟩ rfl dX1_addRule_32 (fun H locs hP hS => ?_)
    refine c_aload_n hx hb dX1_addRule_33 rfl (lv_at hl 1 rfl) ?_
    refine c_dupq hx hb dX1_addRule_34 ?_
    obtain ⟨v8, hv8, h⟩ := ob h
    refine c_gI X hP hv8 (Nat.le_of_ble_eq_true rfl) (Nat.le_of_ble_eq_true rfl) rfl w_504 dX1_addRule_35 ?_
    refine lv_iconst (v := (1:Int32)) hx hb dX1_addRule_38 (by decide) ?_
    refine lv_iadd hx hb dX1_addRule_39 ?_
    obtain ⟨v9, hv9, h⟩ := ob h
    refine c_pI X hP hS hv9 (Nat.le_of_ble_eq_true rfl) (Nat.le_of_ble_eq_true rfl) rfl rfl (Or.inl rfl) w_504 dX1_addRule_40 (fun H locs hP hS => ?_)
    refine c_aload_n hx hb dX1_addRule_43 rfl (lv_at hl 1 rfl) ?_
    obtain ⟨v10, hv10, h⟩ := ob h
    refine c_gR X hP hv10 (Nat.le_of_ble_eq_true rfl) (Nat.le_of_ble_eq_true rfl) rfl w_507 dX1_addRule_44 ?_
    refine c_ifnonnull (Φ := Φ) (tgt := 58) hx hb dX1_addRule_47 rfl (fun hc => ?_) (fun hc => ?_)
    · have h := ine hc h
      refine c_aload_n hx hb dX1_addRule_58 rfl (lv_at hl 1 rfl) ?_
      obtain ⟨v11, hv11, h⟩ := ob h
      refine c_gR X hP hv11 (Nat.le_of_ble_eq_true rfl) (Nat.le_of_ble_eq_true rfl) rfl w_507 dX1_addRule_59 ?_
      refine c_aload_n hx hb dX1_addRule_62 rfl (lv_at hl 0 rfl) ?_
      obtain ⟨v12, hv12, h⟩ := ob h
      refine c_pR X hP hS hv12 (Nat.le_of_ble_eq_true rfl) (Nat.le_of_ble_eq_true rfl) rfl (Or.inl rfl) w_190 dX1_addRule_63 (fun H locs hP hS => ?_)
      exact N_X1_addRule_66 X hP hS (lv_sub hl [1, 3, 0] rfl) h
    · have h := ip hc h
      refine c_aload_n hx hb dX1_addRule_50 rfl (lv_at hl 1 rfl) ?_
      refine c_aload_n hx hb dX1_addRule_51 rfl (lv_at hl 0 rfl) ?_
      obtain ⟨v13, hv13, h⟩ := ob h
      refine c_pR X hP hS hv13 (Nat.le_of_ble_eq_true rfl) (Nat.le_of_ble_eq_true rfl) rfl (Or.inl rfl) w_506 dX1_addRule_52 (fun H locs hP hS => ?_)
      refine lv_goto (tgt := 66) hx hb dX1_addRule_55 rfl ?_
      exact N_X1_addRule_66 X hP hS (lv_sub hl [1, 3, 0] rfl) h
theorem ww_X1_addRule : Cond.instanceMethod yX1_addRule ∈ BG ∧ Cond.selects (yX1_addRule).cls yX1_addRule yX1_addRule ∈ BG ∧ Cond.initialized (yX1_addRule).cls ∈ BG ∧ Cond.code yX1_addRule cX1_addRule 4 (some .int) ∈ BG := ⟨w_1296, w_1297, w_64, w_1298⟩
theorem hy_X1_addRule : (yX1_addRule).cls ≠ "java/lang/invoke/MethodHandle" ∧ (yX1_addRule).cls ≠ "java/lang/invoke/VarHandle" ∧ (parseMethodDescriptor (yX1_addRule).desc).map (fun d => d.parameters.length) = some 2 := ⟨by decide, by decide, by decide +kernel⟩
def f_X10_holdsElement_19  (x0 : Nat) (y0 : Int32) (σ : cS) : Option (Int32) := rz y0
def f_X10_holdsElement (x0 : Nat) (x1 : Option Nat) (σ : cS) : Option (Int32) := (gI σ (some x0) 10 2).bind (fun v1 => (gI σ x1 3 0).bind (fun v2 => if ((v1 >>> (v2 &&& 31)) &&& (1:Int32)) = (0:Int32) then (f_X10_holdsElement_19 x0 ((0:Int32)) σ) else (f_X10_holdsElement_19 x0 ((1:Int32)) σ)))
set_option maxRecDepth 20000 in
set_option maxHeartbeats 4000000 in
theorem N_X10_holdsElement_19 {p : Program} {l : Launch} {e : Env} {s : State} {m : MethodId} {args : Array Value} {below : List Frame} {meth : Method} {c : Code} {D : cD} {Φ : cG} {x0 : Nat}   {y0 : Int32} {σ : cS} {ls : Array Slot} {r : Int32} (X : cX p s m args meth c cX10_holdsElement 2 (some .boolean) RX10 D Φ) (hP : cP D Φ σ s.heap) (hS : va_S (cReg Φ) s.heap s.heap [])  (hl : lv_has ls 2 []) (h : f_X10_holdsElement_19  x0 y0 σ = some r) : cWr p l e 0 0 s m args below meth c (some (.int r)) (F0 m 19 ls [.int y0]) := by
  have hx := X.1
  have hb := X.2.1
  have hown := X.2.2.2.1
  have hts := X.2.2.2.2.1
  have h : (rz y0) = some r := h
  obtain ⟨hz, rfl⟩ := rz_spec h
  exact c_rz X hz dX10_holdsElement_19
set_option maxRecDepth 20000 in
set_option maxHeartbeats 4000000 in
theorem K_X10_holdsElement (l : Launch) (D : cD) (Φ : cG) (σ : cS) (x0 : Nat) (x1 : Option Nat) {r : Int32} (h : f_X10_holdsElement x0 x1 σ = some r) : Met l yX10_holdsElement (Cond.code yX10_holdsElement cX10_holdsElement 2 (some .boolean) :: BG) (rA 0 0 0 0) (cPc D Φ σ [cv Φ (some x0), cv Φ x1]) (cQr (some (.int r))) 0 0 (fun _ => False) := by
  refine Met.ofW (cc := cX10_holdsElement) (maxL := 2) (ret := (some .boolean)) (by decide) rfl ?_
  intro p e s m args below meth c s₁ B hml hv
  obtain ⟨rfl, hP, hK, hZ⟩ := hv
  have X : cX p s m [cv Φ (some x0), cv Φ x1].toArray meth c cX10_holdsElement 2 (some .boolean) RX10 D Φ := cX_of B hml hK hZ
  have hx := X.1
  have hb := X.2.1
  have hown := X.2.2.2.1
  have hts := X.2.2.2.2.1
  have hl := lv_entry [cv Φ (some x0), cv Φ x1] (n := 2) (by simp only [lgs_r, lgs_i, lgs_l, lgs_0, List.length]; exact Nat.le_of_ble_eq_true rfl)
  rw [lg_entry_eq]
  generalize (lg_sl [cv Φ (some x0), cv Φ x1] ++ List.replicate (2 - (lg_sl [cv Φ (some x0), cv Φ x1]).length) Slot.unset).toArray = ls at hl ⊢
  simp only [lv_args_r, lv_args_i, lv_args_l, lv_args_0] at hl
  have hl : lv_has ls 2 [(0, cv Φ (some x0)), (1, cv Φ x1)] := hl
  have hS : va_S (cReg Φ) s.heap s.heap [] := va_S.rf
  show cWr p l e 0 0 s m [cv Φ (some x0), cv Φ x1].toArray below meth c (some (.int r)) (F0 m 0 ls [])
  have h : ((gI σ (some x0) 10 2).bind (fun v1 => (gI σ x1 3 0).bind (fun v2 => if ((v1 >>> (v2 &&& 31)) &&& (1:Int32)) = (0:Int32) then (f_X10_holdsElement_19 x0 ((0:Int32)) σ) else (f_X10_holdsElement_19 x0 ((1:Int32)) σ)))) = some r := h
  refine c_aload_n hx hb dX10_holdsElement_0 rfl (lv_at hl 0 rfl) ?_
  obtain ⟨v1, hv1, h⟩ := ob h
  refine c_gI X hP hv1 (Nat.le_of_ble_eq_true rfl) (Nat.le_of_ble_eq_true rfl) rfl w_331 dX10_holdsElement_1 ?_
  refine c_aload_n hx hb dX10_holdsElement_4 rfl (lv_at hl 1 rfl) ?_
  obtain ⟨v2, hv2, h⟩ := ob h
  refine c_gI X hP hv2 (Nat.le_of_ble_eq_true rfl) (Nat.le_of_ble_eq_true rfl) rfl w_225 dX10_holdsElement_5 ?_
  refine lv_ishr hx hb dX10_holdsElement_8 ?_
  refine lv_iconst (v := (1:Int32)) hx hb dX10_holdsElement_9 (by decide) ?_
  refine lv_iand hx hb dX10_holdsElement_10 ?_
  refine lv_if_eq (tgt := 18) hx hb dX10_holdsElement_11 rfl (fun hc => ?_) (fun hc => ?_)
  · have h := ip hc h
    refine lv_iconst (v := (0:Int32)) hx hb dX10_holdsElement_18 (by decide) ?_
    exact N_X10_holdsElement_19 X hP hS (lv_sub hl [] rfl) h
  · have h := ine hc h
    refine lv_iconst (v := (1:Int32)) hx hb dX10_holdsElement_14 (by decide) ?_
    refine lv_goto (tgt := 19) hx hb dX10_holdsElement_15 rfl ?_
    exact N_X10_holdsElement_19 X hP hS (lv_sub hl [] rfl) h
theorem ww_X10_holdsElement : Cond.instanceMethod yX10_holdsElement ∈ BG ∧ Cond.selects (yX10_holdsElement).cls yX10_holdsElement yX10_holdsElement ∈ BG ∧ Cond.initialized (yX10_holdsElement).cls ∈ BG ∧ Cond.code yX10_holdsElement cX10_holdsElement 2 (some .boolean) ∈ BG := ⟨w_898, w_899, w_58, w_900⟩
theorem hy_X10_holdsElement : (yX10_holdsElement).cls ≠ "java/lang/invoke/MethodHandle" ∧ (yX10_holdsElement).cls ≠ "java/lang/invoke/VarHandle" ∧ (parseMethodDescriptor (yX10_holdsElement).desc).map (fun d => d.parameters.length) = some 1 := ⟨by decide, by decide, by decide +kernel⟩
def f_X1_isThere_26  (x0 : Nat) (y0 : Int32) (σ : cS) : Option (Int32) := rz y0
def f_X1_isThere_21  (x0 : Nat)  (σ : cS) : Option (Int32) := f_X1_isThere_26 x0 ((1:Int32)) σ
def f_X1_isThere (x0 : Nat) (x1 : Option Nat) (σ : cS) : Option (Int32) := (gR σ x1 8 2).bind (fun v1 => if v1 = none then (f_X1_isThere_21 x0 σ) else ((gR σ (some x0) 1 0).bind (fun v2 => (gR σ x1 8 2).bind (fun v3 => (rc σ v2 10).bind (fun v4 => (f_X10_holdsElement v4 (v3) σ).bind (fun v5 => if v5 = (0:Int32) then (f_X1_isThere_26 x0 ((0:Int32)) σ) else (f_X1_isThere_21 x0 σ)))))))
set_option maxRecDepth 20000 in
set_option maxHeartbeats 4000000 in
theorem N_X1_isThere_26 {p : Program} {l : Launch} {e : Env} {s : State} {m : MethodId} {args : Array Value} {below : List Frame} {meth : Method} {c : Code} {D : cD} {Φ : cG} {x0 : Nat}   {y0 : Int32} {σ : cS} {ls : Array Slot} {r : Int32} (X : cX p s m args meth c cX1_isThere 2 (some .boolean) RX1 D Φ) (hP : cP D Φ σ s.heap) (hS : va_S (cReg Φ) s.heap s.heap [])  (hl : lv_has ls 2 []) (h : f_X1_isThere_26  x0 y0 σ = some r) : cWr p l e 1 21 s m args below meth c (some (.int r)) (F0 m 26 ls [.int y0]) := by
  have hx := X.1
  have hb := X.2.1
  have hown := X.2.2.2.1
  have hts := X.2.2.2.2.1
  have h : (rz y0) = some r := h
  obtain ⟨hz, rfl⟩ := rz_spec h
  exact c_rz X hz dX1_isThere_26
set_option maxRecDepth 20000 in
set_option maxHeartbeats 4000000 in
theorem N_X1_isThere_21 {p : Program} {l : Launch} {e : Env} {s : State} {m : MethodId} {args : Array Value} {below : List Frame} {meth : Method} {c : Code} {D : cD} {Φ : cG} {x0 : Nat}    {σ : cS} {ls : Array Slot} {r : Int32} (X : cX p s m args meth c cX1_isThere 2 (some .boolean) RX1 D Φ) (hP : cP D Φ σ s.heap) (hS : va_S (cReg Φ) s.heap s.heap [])  (hl : lv_has ls 2 []) (h : f_X1_isThere_21  x0  σ = some r) : cWr p l e 1 21 s m args below meth c (some (.int r)) (F0 m 21 ls []) := by
  have hx := X.1
  have hb := X.2.1
  have hown := X.2.2.2.1
  have hts := X.2.2.2.2.1
  have h : (f_X1_isThere_26 x0 ((1:Int32)) σ) = some r := h
  refine lv_iconst (v := (1:Int32)) hx hb dX1_isThere_21 (by decide) ?_
  refine lv_goto (tgt := 26) hx hb dX1_isThere_22 rfl ?_
  exact N_X1_isThere_26 X hP hS (lv_sub hl [] rfl) h
set_option maxRecDepth 20000 in
set_option maxHeartbeats 4000000 in
theorem K_X1_isThere (l : Launch) (D : cD) (Φ : cG) (σ : cS) (x0 : Nat) (x1 : Option Nat) {r : Int32} (h : f_X1_isThere x0 x1 σ = some r) : Met l yX1_isThere (Cond.code yX1_isThere cX1_isThere 2 (some .boolean) :: BG) (rA 1 0 0 21) (cPc D Φ σ [cv Φ (some x0), cv Φ x1]) (cQr (some (.int r))) 0 0 (fun _ => False) := by
  refine Met.ofW (cc := cX1_isThere) (maxL := 2) (ret := (some .boolean)) (by decide) rfl ?_
  intro p e s m args below meth c s₁ B hml hv
  obtain ⟨rfl, hP, hK, hZ⟩ := hv
  have X : cX p s m [cv Φ (some x0), cv Φ x1].toArray meth c cX1_isThere 2 (some .boolean) RX1 D Φ := cX_of B hml hK hZ
  have hx := X.1
  have hb := X.2.1
  have hown := X.2.2.2.1
  have hts := X.2.2.2.2.1
  have hl := lv_entry [cv Φ (some x0), cv Φ x1] (n := 2) (by simp only [lgs_r, lgs_i, lgs_l, lgs_0, List.length]; exact Nat.le_of_ble_eq_true rfl)
  rw [lg_entry_eq]
  generalize (lg_sl [cv Φ (some x0), cv Φ x1] ++ List.replicate (2 - (lg_sl [cv Φ (some x0), cv Φ x1]).length) Slot.unset).toArray = ls at hl ⊢
  simp only [lv_args_r, lv_args_i, lv_args_l, lv_args_0] at hl
  have hl : lv_has ls 2 [(0, cv Φ (some x0)), (1, cv Φ x1)] := hl
  have hS : va_S (cReg Φ) s.heap s.heap [] := va_S.rf
  show cWr p l e 1 21 s m [cv Φ (some x0), cv Φ x1].toArray below meth c (some (.int r)) (F0 m 0 ls [])
  have h : ((gR σ x1 8 2).bind (fun v1 => if v1 = none then (f_X1_isThere_21 x0 σ) else ((gR σ (some x0) 1 0).bind (fun v2 => (gR σ x1 8 2).bind (fun v3 => (rc σ v2 10).bind (fun v4 => (f_X10_holdsElement v4 (v3) σ).bind (fun v5 => if v5 = (0:Int32) then (f_X1_isThere_26 x0 ((0:Int32)) σ) else (f_X1_isThere_21 x0 σ)))))))) = some r := h
  refine c_aload_n hx hb dX1_isThere_0 rfl (lv_at hl 1 rfl) ?_
  obtain ⟨v1, hv1, h⟩ := ob h
  refine c_gR X hP hv1 (Nat.le_of_ble_eq_true rfl) (Nat.le_of_ble_eq_true rfl) rfl w_1263 dX1_isThere_1 ?_
  refine c_ifnull (Φ := Φ) (tgt := 21) hx hb dX1_isThere_4 rfl (fun hc => ?_) (fun hc => ?_)
  · have h := ip hc h
    exact N_X1_isThere_21 X hP hS (lv_sub hl [] rfl) h
  · have h := ine hc h
    refine c_aload_n hx hb dX1_isThere_7 rfl (lv_at hl 0 rfl) ?_
    obtain ⟨v2, hv2, h⟩ := ob h
    refine c_gR X hP hv2 (Nat.le_of_ble_eq_true rfl) (Nat.le_of_ble_eq_true rfl) rfl w_498 dX1_isThere_8 ?_
    refine c_aload_n hx hb dX1_isThere_11 rfl (lv_at hl 1 rfl) ?_
    obtain ⟨v3, hv3, h⟩ := ob h
    refine c_gR X hP hv3 (Nat.le_of_ble_eq_true rfl) (Nat.le_of_ble_eq_true rfl) rfl w_1263 dX1_isThere_12 ?_
    obtain ⟨v4, hv4, h⟩ := ob h
    obtain ⟨v5, hv5, h⟩ := ob h
    refine c_cr (c_runV X (K_X10_holdsElement l D Φ σ v4 (v3) hv5) hv4 ⟨Nat.le_of_ble_eq_true rfl, by decide⟩ ⟨w_917, ww_X10_holdsElement⟩ rfl hy_X10_holdsElement rfl ⟨(Nat.le_of_ble_eq_true rfl), (Nat.le_of_ble_eq_true rfl)⟩ hP hS hl.1 (Nat.le_of_ble_eq_true rfl) dX1_isThere_15 rfl ⟨(Nat.le_of_ble_eq_true rfl), (Nat.le_of_ble_eq_true rfl)⟩) ?_
    refine lv_if_eq (tgt := 25) hx hb dX1_isThere_18 rfl (fun hc => ?_) (fun hc => ?_)
    · have h := ip hc h
      refine lv_iconst (v := (0:Int32)) hx hb dX1_isThere_25 (by decide) ?_
      exact N_X1_isThere_26 X hP hS (lv_sub hl [] rfl) h
    · have h := ine hc h
      exact N_X1_isThere_21 X hP hS (lv_sub hl [] rfl) h
theorem ww_X1_isThere : Cond.instanceMethod yX1_isThere ∈ BG ∧ Cond.selects (yX1_isThere).cls yX1_isThere yX1_isThere ∈ BG ∧ Cond.initialized (yX1_isThere).cls ∈ BG ∧ Cond.code yX1_isThere cX1_isThere 2 (some .boolean) ∈ BG := ⟨w_915, w_17, w_64, w_916⟩
theorem hy_X1_isThere : (yX1_isThere).cls ≠ "java/lang/invoke/MethodHandle" ∧ (yX1_isThere).cls ≠ "java/lang/invoke/VarHandle" ∧ (parseMethodDescriptor (yX1_isThere).desc).map (fun d => d.parameters.length) = some 1 := ⟨by decide, by decide, by decide +kernel⟩
def f_X5_selectorAt_28  (x0 : Nat) (y0 : Option Nat) (σ : cS) : Option (Option Nat) := some y0
def f_X5_selectorAt_27  (x0 : Nat)  (σ : cS) : Option (Option Nat) := f_X5_selectorAt_28 x0 (none) σ
def f_X5_selectorAt (x0 : Nat) (x1 : Int32) (σ : cS) : Option (Option Nat) := if x1 < (0:Int32) then (f_X5_selectorAt_27 x0 σ) else ((gI σ (some x0) 5 2).bind (fun v1 => if v1 ≤ x1 then (f_X5_selectorAt_27 x0 σ) else (if (30:Int32) ≤ x1 then (f_X5_selectorAt_27 x0 σ) else ((gR σ (some x0) 5 1).bind (fun v2 => (aR σ v2 37 x1).bind (fun v3 => f_X5_selectorAt_28 x0 (v3) σ))))))
set_option maxRecDepth 20000 in
set_option maxHeartbeats 4000000 in
theorem N_X5_selectorAt_28 {p : Program} {l : Launch} {e : Env} {s : State} {m : MethodId} {args : Array Value} {below : List Frame} {meth : Method} {c : Code} {D : cD} {Φ : cG} {x0 : Nat}   {y0 : Option Nat} {σ : cS} {ls : Array Slot} {r : Option Nat} (X : cX p s m args meth c cX5_selectorAt 2 (some (.object "Cascadery$Selector")) RX5 D Φ) (hP : cP D Φ σ s.heap) (hS : va_S (cReg Φ) s.heap s.heap [])  (hl : lv_has ls 2 []) (h : f_X5_selectorAt_28  x0 y0 σ = some r) : cWr p l e 0 0 s m args below meth c (some (cv Φ r)) (F0 m 28 ls [cv Φ y0]) := by
  have hx := X.1
  have hb := X.2.1
  have hown := X.2.2.2.1
  have hts := X.2.2.2.2.1
  have h : (some y0) = some r := h
  obtain rfl := sj h
  exact c_ra X dX5_selectorAt_28
set_option maxRecDepth 20000 in
set_option maxHeartbeats 4000000 in
theorem N_X5_selectorAt_27 {p : Program} {l : Launch} {e : Env} {s : State} {m : MethodId} {args : Array Value} {below : List Frame} {meth : Method} {c : Code} {D : cD} {Φ : cG} {x0 : Nat}    {σ : cS} {ls : Array Slot} {r : Option Nat} (X : cX p s m args meth c cX5_selectorAt 2 (some (.object "Cascadery$Selector")) RX5 D Φ) (hP : cP D Φ σ s.heap) (hS : va_S (cReg Φ) s.heap s.heap [])  (hl : lv_has ls 2 []) (h : f_X5_selectorAt_27  x0  σ = some r) : cWr p l e 0 0 s m args below meth c (some (cv Φ r)) (F0 m 27 ls []) := by
  have hx := X.1
  have hb := X.2.1
  have hown := X.2.2.2.1
  have hts := X.2.2.2.2.1
  have h : (f_X5_selectorAt_28 x0 (none) σ) = some r := h
  refine c_null (Φ := Φ) hx hb dX5_selectorAt_27 ?_
  exact N_X5_selectorAt_28 X hP hS (lv_sub hl [] rfl) h
set_option maxRecDepth 20000 in
set_option maxHeartbeats 4000000 in
theorem K_X5_selectorAt (l : Launch) (D : cD) (Φ : cG) (σ : cS) (x0 : Nat) (x1 : Int32) {r : Option Nat} (h : f_X5_selectorAt x0 x1 σ = some r) : Met l yX5_selectorAt (Cond.code yX5_selectorAt cX5_selectorAt 2 (some (.object "Cascadery$Selector")) :: BG) (rA 0 0 0 0) (cPc D Φ σ [cv Φ (some x0), .int x1]) (cQr (some (cv Φ r))) 0 0 (fun _ => False) := by
  refine Met.ofW (cc := cX5_selectorAt) (maxL := 2) (ret := (some (.object "Cascadery$Selector"))) (by decide) rfl ?_
  intro p e s m args below meth c s₁ B hml hv
  obtain ⟨rfl, hP, hK, hZ⟩ := hv
  have X : cX p s m [cv Φ (some x0), .int x1].toArray meth c cX5_selectorAt 2 (some (.object "Cascadery$Selector")) RX5 D Φ := cX_of B hml hK hZ
  have hx := X.1
  have hb := X.2.1
  have hown := X.2.2.2.1
  have hts := X.2.2.2.2.1
  have hl := lv_entry [cv Φ (some x0), .int x1] (n := 2) (by simp only [lgs_r, lgs_i, lgs_l, lgs_0, List.length]; exact Nat.le_of_ble_eq_true rfl)
  rw [lg_entry_eq]
  generalize (lg_sl [cv Φ (some x0), .int x1] ++ List.replicate (2 - (lg_sl [cv Φ (some x0), .int x1]).length) Slot.unset).toArray = ls at hl ⊢
  simp only [lv_args_r, lv_args_i, lv_args_l, lv_args_0] at hl
  have hl : lv_has ls 2 [(0, cv Φ (some x0)), (1, .int x1)] := hl
  have hS : va_S (cReg Φ) s.heap s.heap [] := va_S.rf
  show cWr p l e 0 0 s m [cv Φ (some x0), .int x1].toArray below meth c (some (cv Φ r)) (F0 m 0 ls [])
  have h : (if x1 < (0:Int32) then (f_X5_selectorAt_27 x0 σ) else ((gI σ (some x0) 5 2).bind (fun v1 => if v1 ≤ x1 then (f_X5_selectorAt_27 x0 σ) else (if (30:Int32) ≤ x1 then (f_X5_selectorAt_27 x0 σ) else ((gR σ (some x0) 5 1).bind (fun v2 => (aR σ v2 37 x1).bind (fun v3 => f_X5_selectorAt_28 x0 (v3) σ))))))) = some r := h
  refine lv_iload_n hx hb dX5_selectorAt_0 rfl (lv_at hl 1 rfl) ?_
  refine lv_if_lt (tgt := 27) hx hb dX5_selectorAt_1 rfl (fun hc => ?_) (fun hc => ?_)
  · have h := ip hc h
    exact N_X5_selectorAt_27 X hP hS (lv_sub hl [] rfl) h
  · have h := ine hc h
    refine lv_iload_n hx hb dX5_selectorAt_4 rfl (lv_at hl 1 rfl) ?_
    refine c_aload_n hx hb dX5_selectorAt_5 rfl (lv_at hl 0 rfl) ?_
    obtain ⟨v1, hv1, h⟩ := ob h
    refine c_gI X hP hv1 (Nat.le_of_ble_eq_true rfl) (Nat.le_of_ble_eq_true rfl) rfl w_466 dX5_selectorAt_6 ?_
    refine lv_icmp_ge (tgt := 27) hx hb dX5_selectorAt_9 rfl (fun hc => ?_) (fun hc => ?_)
    · have h := ip hc h
      exact N_X5_selectorAt_27 X hP hS (lv_sub hl [] rfl) h
    · have h := ine hc h
      refine lv_iload_n hx hb dX5_selectorAt_12 rfl (lv_at hl 1 rfl) ?_
      refine lv_bipush (v := (30:Int32)) hx hb dX5_selectorAt_13 (by decide) ?_
      refine lv_icmp_ge (tgt := 27) hx hb dX5_selectorAt_15 rfl (fun hc => ?_) (fun hc => ?_)
      · have h := ip hc h
        exact N_X5_selectorAt_27 X hP hS (lv_sub hl [] rfl) h
      · have h := ine hc h
        refine c_aload_n hx hb dX5_selectorAt_18 rfl (lv_at hl 0 rfl) ?_
        obtain ⟨v2, hv2, h⟩ := ob h
        refine c_gR X hP hv2 (Nat.le_of_ble_eq_true rfl) (Nat.le_of_ble_eq_true rfl) rfl w_465 dX5_selectorAt_19 ?_
        refine lv_iload_n hx hb dX5_selectorAt_22 rfl (lv_at hl 1 rfl) ?_
        obtain ⟨v3, hv3, h⟩ := ob h
        refine c_aldq X hP hv3 (ty := .object "Cascadery$Selector") rfl (by decide) rfl dX5_selectorAt_23 ?_
        refine lv_goto (tgt := 28) hx hb dX5_selectorAt_24 rfl ?_
        exact N_X5_selectorAt_28 X hP hS (lv_sub hl [] rfl) h
theorem ww_X5_selectorAt : Cond.instanceMethod yX5_selectorAt ∈ BG ∧ Cond.selects (yX5_selectorAt).cls yX5_selectorAt yX5_selectorAt ∈ BG ∧ Cond.initialized (yX5_selectorAt).cls ∈ BG ∧ Cond.code yX5_selectorAt cX5_selectorAt 2 (some (.object "Cascadery$Selector")) ∈ BG := ⟨w_861, w_862, w_61, w_863⟩
theorem hy_X5_selectorAt : (yX5_selectorAt).cls ≠ "java/lang/invoke/MethodHandle" ∧ (yX5_selectorAt).cls ≠ "java/lang/invoke/VarHandle" ∧ (parseMethodDescriptor (yX5_selectorAt).desc).map (fun d => d.parameters.length) = some 1 := ⟨by decide, by decide, by decide +kernel⟩
def f_X10_at_28  (x0 : Nat) (y0 : Option Nat) (σ : cS) : Option (Option Nat) := some y0
def f_X10_at_27  (x0 : Nat)  (σ : cS) : Option (Option Nat) := f_X10_at_28 x0 (none) σ
def f_X10_at (x0 : Nat) (x1 : Int32) (σ : cS) : Option (Option Nat) := if x1 < (0:Int32) then (f_X10_at_27 x0 σ) else ((gI σ (some x0) 10 1).bind (fun v1 => if v1 ≤ x1 then (f_X10_at_27 x0 σ) else (if (30:Int32) ≤ x1 then (f_X10_at_27 x0 σ) else ((gR σ (some x0) 10 4).bind (fun v2 => (aR σ v2 33 x1).bind (fun v3 => f_X10_at_28 x0 (v3) σ))))))
set_option maxRecDepth 20000 in
set_option maxHeartbeats 4000000 in
theorem N_X10_at_28 {p : Program} {l : Launch} {e : Env} {s : State} {m : MethodId} {args : Array Value} {below : List Frame} {meth : Method} {c : Code} {D : cD} {Φ : cG} {x0 : Nat}   {y0 : Option Nat} {σ : cS} {ls : Array Slot} {r : Option Nat} (X : cX p s m args meth c cX10_at 2 (some (.object "Cascadery$Element")) RX10 D Φ) (hP : cP D Φ σ s.heap) (hS : va_S (cReg Φ) s.heap s.heap [])  (hl : lv_has ls 2 []) (h : f_X10_at_28  x0 y0 σ = some r) : cWr p l e 0 0 s m args below meth c (some (cv Φ r)) (F0 m 28 ls [cv Φ y0]) := by
  have hx := X.1
  have hb := X.2.1
  have hown := X.2.2.2.1
  have hts := X.2.2.2.2.1
  have h : (some y0) = some r := h
  obtain rfl := sj h
  exact c_ra X dX10_at_28
set_option maxRecDepth 20000 in
set_option maxHeartbeats 4000000 in
theorem N_X10_at_27 {p : Program} {l : Launch} {e : Env} {s : State} {m : MethodId} {args : Array Value} {below : List Frame} {meth : Method} {c : Code} {D : cD} {Φ : cG} {x0 : Nat}    {σ : cS} {ls : Array Slot} {r : Option Nat} (X : cX p s m args meth c cX10_at 2 (some (.object "Cascadery$Element")) RX10 D Φ) (hP : cP D Φ σ s.heap) (hS : va_S (cReg Φ) s.heap s.heap [])  (hl : lv_has ls 2 []) (h : f_X10_at_27  x0  σ = some r) : cWr p l e 0 0 s m args below meth c (some (cv Φ r)) (F0 m 27 ls []) := by
  have hx := X.1
  have hb := X.2.1
  have hown := X.2.2.2.1
  have hts := X.2.2.2.2.1
  have h : (f_X10_at_28 x0 (none) σ) = some r := h
  refine c_null (Φ := Φ) hx hb dX10_at_27 ?_
  exact N_X10_at_28 X hP hS (lv_sub hl [] rfl) h
set_option maxRecDepth 20000 in
set_option maxHeartbeats 4000000 in
theorem K_X10_at (l : Launch) (D : cD) (Φ : cG) (σ : cS) (x0 : Nat) (x1 : Int32) {r : Option Nat} (h : f_X10_at x0 x1 σ = some r) : Met l yX10_at (Cond.code yX10_at cX10_at 2 (some (.object "Cascadery$Element")) :: BG) (rA 0 0 0 0) (cPc D Φ σ [cv Φ (some x0), .int x1]) (cQr (some (cv Φ r))) 0 0 (fun _ => False) := by
  refine Met.ofW (cc := cX10_at) (maxL := 2) (ret := (some (.object "Cascadery$Element"))) (by decide) rfl ?_
  intro p e s m args below meth c s₁ B hml hv
  obtain ⟨rfl, hP, hK, hZ⟩ := hv
  have X : cX p s m [cv Φ (some x0), .int x1].toArray meth c cX10_at 2 (some (.object "Cascadery$Element")) RX10 D Φ := cX_of B hml hK hZ
  have hx := X.1
  have hb := X.2.1
  have hown := X.2.2.2.1
  have hts := X.2.2.2.2.1
  have hl := lv_entry [cv Φ (some x0), .int x1] (n := 2) (by simp only [lgs_r, lgs_i, lgs_l, lgs_0, List.length]; exact Nat.le_of_ble_eq_true rfl)
  rw [lg_entry_eq]
  generalize (lg_sl [cv Φ (some x0), .int x1] ++ List.replicate (2 - (lg_sl [cv Φ (some x0), .int x1]).length) Slot.unset).toArray = ls at hl ⊢
  simp only [lv_args_r, lv_args_i, lv_args_l, lv_args_0] at hl
  have hl : lv_has ls 2 [(0, cv Φ (some x0)), (1, .int x1)] := hl
  have hS : va_S (cReg Φ) s.heap s.heap [] := va_S.rf
  show cWr p l e 0 0 s m [cv Φ (some x0), .int x1].toArray below meth c (some (cv Φ r)) (F0 m 0 ls [])
  have h : (if x1 < (0:Int32) then (f_X10_at_27 x0 σ) else ((gI σ (some x0) 10 1).bind (fun v1 => if v1 ≤ x1 then (f_X10_at_27 x0 σ) else (if (30:Int32) ≤ x1 then (f_X10_at_27 x0 σ) else ((gR σ (some x0) 10 4).bind (fun v2 => (aR σ v2 33 x1).bind (fun v3 => f_X10_at_28 x0 (v3) σ))))))) = some r := h
  refine lv_iload_n hx hb dX10_at_0 rfl (lv_at hl 1 rfl) ?_
  refine lv_if_lt (tgt := 27) hx hb dX10_at_1 rfl (fun hc => ?_) (fun hc => ?_)
  · have h := ip hc h
    exact N_X10_at_27 X hP hS (lv_sub hl [] rfl) h
  · have h := ine hc h
    refine lv_iload_n hx hb dX10_at_4 rfl (lv_at hl 1 rfl) ?_
    refine c_aload_n hx hb dX10_at_5 rfl (lv_at hl 0 rfl) ?_
    obtain ⟨v1, hv1, h⟩ := ob h
    refine c_gI X hP hv1 (Nat.le_of_ble_eq_true rfl) (Nat.le_of_ble_eq_true rfl) rfl w_328 dX10_at_6 ?_
    refine lv_icmp_ge (tgt := 27) hx hb dX10_at_9 rfl (fun hc => ?_) (fun hc => ?_)
    · have h := ip hc h
      exact N_X10_at_27 X hP hS (lv_sub hl [] rfl) h
    · have h := ine hc h
      refine lv_iload_n hx hb dX10_at_12 rfl (lv_at hl 1 rfl) ?_
      refine lv_bipush (v := (30:Int32)) hx hb dX10_at_13 (by decide) ?_
      refine lv_icmp_ge (tgt := 27) hx hb dX10_at_15 rfl (fun hc => ?_) (fun hc => ?_)
      · have h := ip hc h
        exact N_X10_at_27 X hP hS (lv_sub hl [] rfl) h
      · have h := ine hc h
        refine c_aload_n hx hb dX10_at_18 rfl (lv_at hl 0 rfl) ?_
        obtain ⟨v2, hv2, h⟩ := ob h
        refine c_gR X hP hv2 (Nat.le_of_ble_eq_true rfl) (Nat.le_of_ble_eq_true rfl) rfl w_336 dX10_at_19 ?_
        refine lv_iload_n hx hb dX10_at_22 rfl (lv_at hl 1 rfl) ?_
        obtain ⟨v3, hv3, h⟩ := ob h
        refine c_aldq X hP hv3 (ty := .object "Cascadery$Element") rfl (by decide) rfl dX10_at_23 ?_
        refine lv_goto (tgt := 28) hx hb dX10_at_24 rfl ?_
        exact N_X10_at_28 X hP hS (lv_sub hl [] rfl) h
theorem ww_X10_at : Cond.instanceMethod yX10_at ∈ BG ∧ Cond.selects (yX10_at).cls yX10_at yX10_at ∈ BG ∧ Cond.initialized (yX10_at).cls ∈ BG ∧ Cond.code yX10_at cX10_at 2 (some (.object "Cascadery$Element")) ∈ BG := ⟨w_740, w_741, w_58, w_742⟩
theorem hy_X10_at : (yX10_at).cls ≠ "java/lang/invoke/MethodHandle" ∧ (yX10_at).cls ≠ "java/lang/invoke/VarHandle" ∧ (parseMethodDescriptor (yX10_at).desc).map (fun d => d.parameters.length) = some 1 := ⟨by decide, by decide, by decide +kernel⟩
def f_X10_membersOf_52 (k4 : Option Nat → Int32 → Int32 → Option (Int32)) (x0 : Nat) (x1 : Option Nat) (x2 : Int32) (x3 : Int32) (σ : cS) : Option (Int32) := k4 (x1) (x2) ((x3 + (1:Int32)))
def f_X10_membersOf_46 (k4 : Option Nat → Int32 → Int32 → Option (Int32)) (x0 : Nat) (x1 : Option Nat) (x2 : Int32) (x3 : Int32) (σ : cS) : Option (Int32) := f_X10_membersOf_52 k4 x0 (x1) ((x2 ||| ((1:Int32) <<< (x3 &&& 31)))) (x3) σ
def f_X10_membersOf_4  (x0 : Nat) : Nat → Option Nat → Int32 → Int32 → cS → Option (Int32)
  | 0, _, _, _, _ => none
  | n + 1, x1, x2, x3, σ => (gI σ (some x0) 10 1).bind (fun v1 => if v1 ≤ x3 then (some x2) else ((rc σ (some x0) 10).bind (fun v2 => (f_X10_at v2 (x3) σ).bind (fun v3 => if v3 = none then (f_X10_membersOf_52 (fun z0 z1 z2 => f_X10_membersOf_4 x0 n z0 z1 z2 σ) x0 (x1) (x2) (x3) σ) else ((gR σ v3 3 15).bind (fun v4 => if v4 = x1 then (if x1 = none then ((rc σ (some x0) 10).bind (fun v5 => (f_X10_holdsElement v5 (v3) σ).bind (fun v6 => if v6 = (0:Int32) then (f_X10_membersOf_52 (fun z0 z1 z2 => f_X10_membersOf_4 x0 n z0 z1 z2 σ) x0 (x1) (x2) (x3) σ) else (f_X10_membersOf_46 (fun z0 z1 z2 => f_X10_membersOf_4 x0 n z0 z1 z2 σ) x0 (x1) (x2) (x3) σ)))) else (f_X10_membersOf_46 (fun z0 z1 z2 => f_X10_membersOf_4 x0 n z0 z1 z2 σ) x0 (x1) (x2) (x3) σ)) else (f_X10_membersOf_52 (fun z0 z1 z2 => f_X10_membersOf_4 x0 n z0 z1 z2 σ) x0 (x1) (x2) (x3) σ)))))))
def f_X10_membersOf (x0 : Nat) (x1 : Option Nat) (σ : cS) : Option (Int32) := f_X10_membersOf_4 x0 4000 (x1) ((0:Int32)) ((0:Int32)) σ
set_option maxRecDepth 20000 in
set_option maxHeartbeats 4000000 in
theorem N_X10_membersOf_52 {p : Program} {l : Launch} {e : Env} {s : State} {m : MethodId} {args : Array Value} {below : List Frame} {meth : Method} {c : Code} {D : cD} {Φ : cG} {x0 : Nat} {k4 : Option Nat → Int32 → Int32 → Option (Int32)}  {x1 : Option Nat} {x2 : Int32} {x3 : Int32} {σ : cS} {ls : Array Slot} {r : Int32} (X : cX p s m args meth c cX10_membersOf 5 (some .int) RX10 D Φ) (hP : cP D Φ σ s.heap) (hS : va_S (cReg Φ) s.heap s.heap []) (hk4 : ∀ {x1 : Option Nat} {x2 : Int32} {x3 : Int32} {ls : Array Slot}, lv_has ls 5 [(0, cv Φ (some x0)), (1, cv Φ x1), (2, .int x2), (3, .int x3)] → k4 x1 x2 x3 = some r → cWr p l e 1 21 s m args below meth c (some (.int r)) (F0 m 4 ls [])) (hl : lv_has ls 5 [(0, cv Φ (some x0)), (1, cv Φ x1), (2, .int x2), (3, .int x3)]) (h : f_X10_membersOf_52 k4 x0 x1 x2 x3 σ = some r) : cWr p l e 1 21 s m args below meth c (some (.int r)) (F0 m 52 ls []) := by
  have hx := X.1
  have hb := X.2.1
  have hown := X.2.2.2.1
  have hts := X.2.2.2.2.1
  have h : (k4 (x1) (x2) ((x3 + (1:Int32)))) = some r := h
  refine c_iinc (v := (x3 + (1:Int32))) hx hb dX10_membersOf_52 hl (k := 3) rfl rfl (Nat.le_of_ble_eq_true rfl) (lvKa rfl (lvKa rfl (lvKi (lvKa rfl lvK0)))) rfl (fun ls (hl : lv_has ls 5 [(3, .int (x3 + (1:Int32))), (0, cv Φ (some x0)), (1, cv Φ x1), (2, .int x2)]) => ?_)
  refine lv_goto (tgt := 4) hx hb dX10_membersOf_55 rfl ?_
  exact hk4 (lv_sub hl [1, 2, 3, 0] rfl) h
set_option maxRecDepth 20000 in
set_option maxHeartbeats 4000000 in
theorem N_X10_membersOf_46 {p : Program} {l : Launch} {e : Env} {s : State} {m : MethodId} {args : Array Value} {below : List Frame} {meth : Method} {c : Code} {D : cD} {Φ : cG} {x0 : Nat} {k4 : Option Nat → Int32 → Int32 → Option (Int32)}  {x1 : Option Nat} {x2 : Int32} {x3 : Int32} {σ : cS} {ls : Array Slot} {r : Int32} (X : cX p s m args meth c cX10_membersOf 5 (some .int) RX10 D Φ) (hP : cP D Φ σ s.heap) (hS : va_S (cReg Φ) s.heap s.heap []) (hk4 : ∀ {x1 : Option Nat} {x2 : Int32} {x3 : Int32} {ls : Array Slot}, lv_has ls 5 [(0, cv Φ (some x0)), (1, cv Φ x1), (2, .int x2), (3, .int x3)] → k4 x1 x2 x3 = some r → cWr p l e 1 21 s m args below meth c (some (.int r)) (F0 m 4 ls [])) (hl : lv_has ls 5 [(0, cv Φ (some x0)), (1, cv Φ x1), (2, .int x2), (3, .int x3)]) (h : f_X10_membersOf_46 k4 x0 x1 x2 x3 σ = some r) : cWr p l e 1 21 s m args below meth c (some (.int r)) (F0 m 46 ls []) := by
  have hx := X.1
  have hb := X.2.1
  have hown := X.2.2.2.1
  have hts := X.2.2.2.2.1
  have h : (f_X10_membersOf_52 k4 x0 (x1) ((x2 ||| ((1:Int32) <<< (x3 &&& 31)))) (x3) σ) = some r := h
  refine lv_iload_n hx hb dX10_membersOf_46 rfl (lv_at hl 2 rfl) ?_
  refine lv_iconst (v := (1:Int32)) hx hb dX10_membersOf_47 (by decide) ?_
  refine lv_iload_n hx hb dX10_membersOf_48 rfl (lv_at hl 3 rfl) ?_
  refine lv_ishl hx hb dX10_membersOf_49 ?_
  refine lv_ior hx hb dX10_membersOf_50 ?_
  refine c_istore_n hx hb dX10_membersOf_51 rfl hl (Nat.le_of_ble_eq_true rfl) (lvKa rfl (lvKr (lvKa rfl (lvKa rfl lvK0)))) rfl (fun ls (hl : lv_has ls 5 [(2, .int (x2 ||| ((1:Int32) <<< (x3 &&& 31)))), (0, cv Φ (some x0)), (1, cv Φ x1), (3, .int x3)]) => ?_)
  exact N_X10_membersOf_52 X hP hS hk4 (lv_sub hl [1, 2, 0, 3] rfl) h
set_option maxRecDepth 20000 in
set_option maxHeartbeats 4000000 in
theorem N_X10_membersOf_4 {p : Program} {l : Launch} {e : Env} {s : State} {m : MethodId} {args : Array Value} {below : List Frame} {meth : Method} {c : Code} {D : cD} {Φ : cG} {x0 : Nat}  {n : Nat} {x1 : Option Nat} {x2 : Int32} {x3 : Int32} {σ : cS} {ls : Array Slot} {r : Int32} (X : cX p s m args meth c cX10_membersOf 5 (some .int) RX10 D Φ) (hP : cP D Φ σ s.heap) (hS : va_S (cReg Φ) s.heap s.heap [])  (hl : lv_has ls 5 [(0, cv Φ (some x0)), (1, cv Φ x1), (2, .int x2), (3, .int x3)]) (h : f_X10_membersOf_4  x0 n x1 x2 x3 σ = some r) : cWr p l e 1 21 s m args below meth c (some (.int r)) (F0 m 4 ls []) := by
  have hx := X.1
  have hb := X.2.1
  have hown := X.2.2.2.1
  have hts := X.2.2.2.2.1
  induction n generalizing x1 x2 x3 ls with
  | zero => exact absurd (show none = some r from h) (by simp)
  | succ n ih =>
    have h : ((gI σ (some x0) 10 1).bind (fun v1 => if v1 ≤ x3 then (some x2) else ((rc σ (some x0) 10).bind (fun v2 => (f_X10_at v2 (x3) σ).bind (fun v3 => if v3 = none then (f_X10_membersOf_52 (fun z0 z1 z2 => f_X10_membersOf_4 x0 n z0 z1 z2 σ) x0 (x1) (x2) (x3) σ) else ((gR σ v3 3 15).bind (fun v4 => if v4 = x1 then (if x1 = none then ((rc σ (some x0) 10).bind (fun v5 => (f_X10_holdsElement v5 (v3) σ).bind (fun v6 => if v6 = (0:Int32) then (f_X10_membersOf_52 (fun z0 z1 z2 => f_X10_membersOf_4 x0 n z0 z1 z2 σ) x0 (x1) (x2) (x3) σ) else (f_X10_membersOf_46 (fun z0 z1 z2 => f_X10_membersOf_4 x0 n z0 z1 z2 σ) x0 (x1) (x2) (x3) σ)))) else (f_X10_membersOf_46 (fun z0 z1 z2 => f_X10_membersOf_4 x0 n z0 z1 z2 σ) x0 (x1) (x2) (x3) σ)) else (f_X10_membersOf_52 (fun z0 z1 z2 => f_X10_membersOf_4 x0 n z0 z1 z2 σ) x0 (x1) (x2) (x3) σ)))))))) = some r := h
    refine lv_iload_n hx hb dX10_membersOf_4 rfl (lv_at hl 3 rfl) ?_
    refine c_aload_n hx hb dX10_membersOf_5 rfl (lv_at hl 0 rfl) ?_
    obtain ⟨v1, hv1, h⟩ := ob h
    refine c_gI X hP hv1 (Nat.le_of_ble_eq_true rfl) (Nat.le_of_ble_eq_true rfl) rfl w_328 dX10_membersOf_6 ?_
    refine lv_icmp_ge (tgt := 58) hx hb dX10_membersOf_9 rfl (fun hc => ?_) (fun hc => ?_)
    · have h := ip hc h
      refine lv_iload_n hx hb dX10_membersOf_58 rfl (lv_at hl 2 rfl) ?_
      obtain rfl := sj h
      exact c_ri X dX10_membersOf_59
    · have h := ine hc h
      refine c_aload_n hx hb dX10_membersOf_12 rfl (lv_at hl 0 rfl) ?_
      refine lv_iload_n hx hb dX10_membersOf_13 rfl (lv_at hl 3 rfl) ?_
      obtain ⟨v2, hv2, h⟩ := ob h
      obtain ⟨v3, hv3, h⟩ := ob h
      refine c_cr (c_runV X (K_X10_at l D Φ σ v2 (x3) hv3) hv2 ⟨Nat.le_of_ble_eq_true rfl, by decide⟩ ⟨w_785, ww_X10_at⟩ rfl hy_X10_at rfl ⟨(Nat.le_of_ble_eq_true rfl), (Nat.le_of_ble_eq_true rfl)⟩ hP hS hl.1 (Nat.le_of_ble_eq_true rfl) dX10_membersOf_14 rfl ⟨(Nat.le_of_ble_eq_true rfl), (Nat.le_of_ble_eq_true rfl)⟩) ?_
      refine c_astore hx hb dX10_membersOf_17 hl (Nat.le_of_ble_eq_true rfl) (lvKa rfl (lvKa rfl (lvKa rfl (lvKi lvK0)))) rfl (fun ls (hl : lv_has ls 5 [(4, cv Φ v3), (0, cv Φ (some x0)), (1, cv Φ x1), (2, .int x2), (3, .int x3)]) => ?_)
      refine c_aload hx hb dX10_membersOf_19 (lv_at hl 0 rfl) ?_
      refine c_ifnull (Φ := Φ) (tgt := 52) hx hb dX10_membersOf_21 rfl (fun hc => ?_) (fun hc => ?_)
      · have h := ip hc h
        exact N_X10_membersOf_52 X hP hS ih (lv_sub hl [1, 2, 3, 4] rfl) h
      · have h := ine hc h
        refine c_aload hx hb dX10_membersOf_24 (lv_at hl 0 rfl) ?_
        obtain ⟨v4, hv4, h⟩ := ob h
        refine c_gR X hP hv4 (Nat.le_of_ble_eq_true rfl) (Nat.le_of_ble_eq_true rfl) rfl w_271 dX10_membersOf_26 ?_
        refine c_aload_n hx hb dX10_membersOf_29 rfl (lv_at hl 2 rfl) ?_
        refine c_acmp_ne (tgt := 52) X hP dX10_membersOf_30 rfl (fun hc => ?_) (fun hc => ?_)
        · have h := ine hc h
          exact N_X10_membersOf_52 X hP hS ih (lv_sub hl [1, 2, 3, 4] rfl) h
        · have h := ip hc h
          refine c_aload_n hx hb dX10_membersOf_33 rfl (lv_at hl 2 rfl) ?_
          refine c_ifnonnull (Φ := Φ) (tgt := 46) hx hb dX10_membersOf_34 rfl (fun hc => ?_) (fun hc => ?_)
          · have h := ine hc h
            exact N_X10_membersOf_46 X hP hS ih (lv_sub hl [1, 2, 3, 4] rfl) h
          · have h := ip hc h
            refine c_aload_n hx hb dX10_membersOf_37 rfl (lv_at hl 1 rfl) ?_
            refine c_aload hx hb dX10_membersOf_38 (lv_at hl 0 rfl) ?_
            obtain ⟨v5, hv5, h⟩ := ob h
            obtain ⟨v6, hv6, h⟩ := ob h
            refine c_cr (c_runV X (K_X10_holdsElement l D Φ σ v5 (v3) hv6) hv5 ⟨Nat.le_of_ble_eq_true rfl, by decide⟩ ⟨w_931, ww_X10_holdsElement⟩ rfl hy_X10_holdsElement rfl ⟨(Nat.le_of_ble_eq_true rfl), (Nat.le_of_ble_eq_true rfl)⟩ hP hS hl.1 (Nat.le_of_ble_eq_true rfl) dX10_membersOf_40 rfl ⟨(Nat.le_of_ble_eq_true rfl), (Nat.le_of_ble_eq_true rfl)⟩) ?_
            refine lv_if_eq (tgt := 52) hx hb dX10_membersOf_43 rfl (fun hc => ?_) (fun hc => ?_)
            · have h := ip hc h
              exact N_X10_membersOf_52 X hP hS ih (lv_sub hl [1, 2, 3, 4] rfl) h
            · have h := ine hc h
              exact N_X10_membersOf_46 X hP hS ih (lv_sub hl [1, 2, 3, 4] rfl) h
set_option maxRecDepth 20000 in
set_option maxHeartbeats 4000000 in
theorem K_X10_membersOf (l : Launch) (D : cD) (Φ : cG) (σ : cS) (x0 : Nat) (x1 : Option Nat) {r : Int32} (h : f_X10_membersOf x0 x1 σ = some r) : Met l yX10_membersOf (Cond.code yX10_membersOf cX10_membersOf 5 (some .int) :: BG) (rA 1 0 0 21) (cPc D Φ σ [cv Φ (some x0), cv Φ x1]) (cQr (some (.int r))) 0 0 (fun _ => False) := by
  refine Met.ofW (cc := cX10_membersOf) (maxL := 5) (ret := (some .int)) (by decide) rfl ?_
  intro p e s m args below meth c s₁ B hml hv
  obtain ⟨rfl, hP, hK, hZ⟩ := hv
  have X : cX p s m [cv Φ (some x0), cv Φ x1].toArray meth c cX10_membersOf 5 (some .int) RX10 D Φ := cX_of B hml hK hZ
  have hx := X.1
  have hb := X.2.1
  have hown := X.2.2.2.1
  have hts := X.2.2.2.2.1
  have hl := lv_entry [cv Φ (some x0), cv Φ x1] (n := 5) (by simp only [lgs_r, lgs_i, lgs_l, lgs_0, List.length]; exact Nat.le_of_ble_eq_true rfl)
  rw [lg_entry_eq]
  generalize (lg_sl [cv Φ (some x0), cv Φ x1] ++ List.replicate (5 - (lg_sl [cv Φ (some x0), cv Φ x1]).length) Slot.unset).toArray = ls at hl ⊢
  simp only [lv_args_r, lv_args_i, lv_args_l, lv_args_0] at hl
  have hl : lv_has ls 5 [(0, cv Φ (some x0)), (1, cv Φ x1)] := hl
  have hS : va_S (cReg Φ) s.heap s.heap [] := va_S.rf
  show cWr p l e 1 21 s m [cv Φ (some x0), cv Φ x1].toArray below meth c (some (.int r)) (F0 m 0 ls [])
  have h : (f_X10_membersOf_4 x0 4000 (x1) ((0:Int32)) ((0:Int32)) σ) = some r := h
  refine lv_iconst (v := (0:Int32)) hx hb dX10_membersOf_0 (by decide) ?_
  refine c_istore_n hx hb dX10_membersOf_1 rfl hl (Nat.le_of_ble_eq_true rfl) (lvKa rfl (lvKr lvK0)) rfl (fun ls (hl : lv_has ls 5 [(2, .int (0:Int32)), (0, cv Φ (some x0)), (1, cv Φ x1)]) => ?_)
  refine lv_iconst (v := (0:Int32)) hx hb dX10_membersOf_2 (by decide) ?_
  refine c_istore_n hx hb dX10_membersOf_3 rfl hl (Nat.le_of_ble_eq_true rfl) (lvKi (lvKa rfl (lvKa rfl lvK0))) rfl (fun ls (hl : lv_has ls 5 [(3, .int (0:Int32)), (2, .int (0:Int32)), (0, cv Φ (some x0)), (1, cv Φ x1)]) => ?_)
  exact N_X10_membersOf_4 X hP hS (lv_sub hl [2, 3, 1, 0] rfl) h
theorem ww_X10_membersOf : Cond.instanceMethod yX10_membersOf ∈ BG ∧ Cond.selects (yX10_membersOf).cls yX10_membersOf yX10_membersOf ∈ BG ∧ Cond.initialized (yX10_membersOf).cls ∈ BG ∧ Cond.code yX10_membersOf cX10_membersOf 5 (some .int) ∈ BG := ⟨w_928, w_929, w_58, w_930⟩
theorem hy_X10_membersOf : (yX10_membersOf).cls ≠ "java/lang/invoke/MethodHandle" ∧ (yX10_membersOf).cls ≠ "java/lang/invoke/VarHandle" ∧ (parseMethodDescriptor (yX10_membersOf).desc).map (fun d => d.parameters.length) = some 1 := ⟨by decide, by decide, by decide +kernel⟩
def f_X11_isBelow_14   (y0 : Int32)  : Option (Int32) := rz y0
def f_X11_isBelow_13     : Option (Int32) := f_X11_isBelow_14 ((0:Int32))
def f_X11_isBelow  (x0 : Int32) (x1 : Int32)  : Option (Int32) := if x0 < (0:Int32) then (f_X11_isBelow_13) else (if x1 ≤ x0 then (f_X11_isBelow_13) else (f_X11_isBelow_14 ((1:Int32))))
set_option maxRecDepth 20000 in
set_option maxHeartbeats 4000000 in
theorem N_X11_isBelow_14 {p : Program} {l : Launch} {e : Env} {s : State} {m : MethodId} {args : Array Value} {below : List Frame} {meth : Method} {c : Code} {D : cD} {Φ : cG}    {y0 : Int32} {σ : cS} {ls : Array Slot} {r : Int32} (X : cX p s m args meth c cX11_isBelow 2 (some .boolean) RX11 D Φ) (hP : cP D Φ σ s.heap) (hS : va_S (cReg Φ) s.heap s.heap [])  (hl : lv_has ls 2 []) (h : f_X11_isBelow_14   y0 = some r) : cWr p l e 0 0 s m args below meth c (some (.int r)) (F0 m 14 ls [.int y0]) := by
  have hx := X.1
  have hb := X.2.1
  have hown := X.2.2.2.1
  have hts := X.2.2.2.2.1
  have h : (rz y0) = some r := h
  obtain ⟨hz, rfl⟩ := rz_spec h
  exact c_rz X hz dX11_isBelow_14
set_option maxRecDepth 20000 in
set_option maxHeartbeats 4000000 in
theorem N_X11_isBelow_13 {p : Program} {l : Launch} {e : Env} {s : State} {m : MethodId} {args : Array Value} {below : List Frame} {meth : Method} {c : Code} {D : cD} {Φ : cG}     {σ : cS} {ls : Array Slot} {r : Int32} (X : cX p s m args meth c cX11_isBelow 2 (some .boolean) RX11 D Φ) (hP : cP D Φ σ s.heap) (hS : va_S (cReg Φ) s.heap s.heap [])  (hl : lv_has ls 2 []) (h : f_X11_isBelow_13    = some r) : cWr p l e 0 0 s m args below meth c (some (.int r)) (F0 m 13 ls []) := by
  have hx := X.1
  have hb := X.2.1
  have hown := X.2.2.2.1
  have hts := X.2.2.2.2.1
  have h : (f_X11_isBelow_14 ((0:Int32))) = some r := h
  refine lv_iconst (v := (0:Int32)) hx hb dX11_isBelow_13 (by decide) ?_
  exact N_X11_isBelow_14 X hP hS (lv_sub hl [] rfl) h
set_option maxRecDepth 20000 in
set_option maxHeartbeats 4000000 in
theorem K_X11_isBelow (l : Launch) (D : cD) (Φ : cG) (σ : cS)  (x0 : Int32) (x1 : Int32) {r : Int32} (h : f_X11_isBelow  x0 x1 = some r) : Met l yX11_isBelow (Cond.code yX11_isBelow cX11_isBelow 2 (some .boolean) :: BG) (rA 0 0 0 0) (cPc D Φ σ [.int x0, .int x1]) (cQr (some (.int r))) 0 0 (fun _ => False) := by
  refine Met.ofW (cc := cX11_isBelow) (maxL := 2) (ret := (some .boolean)) (by decide) rfl ?_
  intro p e s m args below meth c s₁ B hml hv
  obtain ⟨rfl, hP, hK, hZ⟩ := hv
  have X : cX p s m [.int x0, .int x1].toArray meth c cX11_isBelow 2 (some .boolean) RX11 D Φ := cX_of B hml hK hZ
  have hx := X.1
  have hb := X.2.1
  have hown := X.2.2.2.1
  have hts := X.2.2.2.2.1
  have hl := lv_entry [.int x0, .int x1] (n := 2) (by simp only [lgs_r, lgs_i, lgs_l, lgs_0, List.length]; exact Nat.le_of_ble_eq_true rfl)
  rw [lg_entry_eq]
  generalize (lg_sl [.int x0, .int x1] ++ List.replicate (2 - (lg_sl [.int x0, .int x1]).length) Slot.unset).toArray = ls at hl ⊢
  simp only [lv_args_r, lv_args_i, lv_args_l, lv_args_0] at hl
  have hl : lv_has ls 2 [(0, .int x0), (1, .int x1)] := hl
  have hS : va_S (cReg Φ) s.heap s.heap [] := va_S.rf
  show cWr p l e 0 0 s m [.int x0, .int x1].toArray below meth c (some (.int r)) (F0 m 0 ls [])
  have h : (if x0 < (0:Int32) then (f_X11_isBelow_13) else (if x1 ≤ x0 then (f_X11_isBelow_13) else (f_X11_isBelow_14 ((1:Int32))))) = some r := h
  refine lv_iload_n hx hb dX11_isBelow_0 rfl (lv_at hl 0 rfl) ?_
  refine lv_if_lt (tgt := 13) hx hb dX11_isBelow_1 rfl (fun hc => ?_) (fun hc => ?_)
  · have h := ip hc h
    exact N_X11_isBelow_13 X hP hS (lv_sub hl [] rfl) h
  · have h := ine hc h
    refine lv_iload_n hx hb dX11_isBelow_4 rfl (lv_at hl 0 rfl) ?_
    refine lv_iload_n hx hb dX11_isBelow_5 rfl (lv_at hl 1 rfl) ?_
    refine lv_icmp_ge (tgt := 13) hx hb dX11_isBelow_6 rfl (fun hc => ?_) (fun hc => ?_)
    · have h := ip hc h
      exact N_X11_isBelow_13 X hP hS (lv_sub hl [] rfl) h
    · have h := ine hc h
      refine lv_iconst (v := (1:Int32)) hx hb dX11_isBelow_9 (by decide) ?_
      refine lv_goto (tgt := 14) hx hb dX11_isBelow_10 rfl ?_
      exact N_X11_isBelow_14 X hP hS (lv_sub hl [] rfl) h
theorem ww_X11_isBelow : Cond.static yX11_isBelow ∈ BG ∧ Cond.initialized (yX11_isBelow).cls ∈ BG ∧ Cond.code yX11_isBelow cX11_isBelow 2 (some .boolean) ∈ BG := ⟨w_636, w_56, w_637⟩
theorem hy_X11_isBelow : (yX11_isBelow).cls ≠ "java/lang/invoke/MethodHandle" ∧ (yX11_isBelow).cls ≠ "java/lang/invoke/VarHandle" ∧ (parseMethodDescriptor (yX11_isBelow).desc).map (fun d => d.parameters.length) = some 2 := ⟨by decide, by decide, by decide +kernel⟩
def f_X5_sources_114  (x0 : Nat) (x3 : Int32) (σ : cS) : Option (Int32) := some x3
def f_X5_sources_106 (k41 : Int32 → Int32 → Int32 → Option Nat → Int32 → Option (Int32)) (x0 : Nat) (x4 : Int32) (x5 : Int32) (x6 : Option Nat) (x7 : Int32) (y0 : Int32) (y1 : Int32) (σ : cS) : Option (Int32) := k41 ((y0 ||| y1)) (x4) (x5) (x6) ((x7 + (1:Int32)))
def f_X5_sources_87 (k41 : Int32 → Int32 → Int32 → Option Nat → Int32 → Option (Int32)) (x0 : Nat) (x3 : Int32) (x4 : Int32) (x5 : Int32) (x7 : Int32) (y0 : Option Nat) (σ : cS) : Option (Int32) := if y0 = none then (f_X5_sources_106 k41 x0 (x4) (x5) (y0) (x7) (x3) ((0:Int32)) σ) else ((gI σ y0 3 0).bind (fun v1 => f_X5_sources_106 k41 x0 (x4) (x5) (y0) (x7) (x3) (((1:Int32) <<< (v1 &&& 31))) σ))
def f_X5_sources_41  (x0 : Nat) : Nat → Int32 → Int32 → Int32 → Option Nat → Int32 → cS → Option (Int32)
  | 0, _, _, _, _, _, _ => none
  | n + 1, x3, x4, x5, x6, x7, σ => if x5 ≤ x7 then (f_X5_sources_114 x0 (x3) σ) else (if x6 = none then (f_X5_sources_114 x0 (x3) σ) else (if x4 = (0:Int32) then ((gR σ x6 3 13).bind (fun v4 => f_X5_sources_87 (fun z0 z1 z2 z3 z4 => f_X5_sources_41 x0 n z0 z1 z2 z3 z4 σ) x0 (x3) (x4) (x5) (x7) (v4) σ)) else ((gR σ x6 3 8).bind (fun v1 => if v1 = none then ((gR σ x6 3 9).bind (fun v2 => f_X5_sources_87 (fun z0 z1 z2 z3 z4 => f_X5_sources_41 x0 n z0 z1 z2 z3 z4 σ) x0 (x3) (x4) (x5) (x7) (v2) σ)) else ((gR σ x6 3 8).bind (fun v3 => f_X5_sources_87 (fun z0 z1 z2 z3 z4 => f_X5_sources_41 x0 n z0 z1 z2 z3 z4 σ) x0 (x3) (x4) (x5) (x7) (v3) σ))))))
def f_X5_sources_33  (x0 : Nat) (x1 : Option Nat) (x3 : Int32) (x4 : Int32) (y0 : Int32) (σ : cS) : Option (Int32) := f_X5_sources_41 x0 4000 (x3) (x4) (y0) (x1) ((0:Int32)) σ
def f_X5_sources_27  (x0 : Nat) (x1 : Option Nat) (x3 : Int32) (x4 : Int32) (σ : cS) : Option (Int32) := f_X5_sources_33 x0 (x1) (x3) (x4) ((30:Int32)) σ
def f_X5_sources_16  (x0 : Nat) (x1 : Option Nat) (x2 : Int32) (x3 : Int32) (y0 : Int32) (σ : cS) : Option (Int32) := if x2 = (0:Int32) then (f_X5_sources_27 x0 (x1) (x3) (y0) σ) else (if x2 = (3:Int32) then (f_X5_sources_27 x0 (x1) (x3) (y0) σ) else (f_X5_sources_33 x0 (x1) (x3) (y0) ((1:Int32)) σ))
def f_X5_sources_11  (x0 : Nat) (x1 : Option Nat) (x2 : Int32) (x3 : Int32) (σ : cS) : Option (Int32) := f_X5_sources_16 x0 (x1) (x2) (x3) ((1:Int32)) σ
def f_X5_sources (x0 : Nat) (x1 : Option Nat) (x2 : Int32) (σ : cS) : Option (Int32) := if x2 = (0:Int32) then (f_X5_sources_11 x0 (x1) (x2) ((0:Int32)) σ) else (if x2 = (1:Int32) then (f_X5_sources_11 x0 (x1) (x2) ((0:Int32)) σ) else (f_X5_sources_16 x0 (x1) (x2) ((0:Int32)) ((0:Int32)) σ))
set_option maxRecDepth 20000 in
set_option maxHeartbeats 4000000 in
theorem N_X5_sources_114 {p : Program} {l : Launch} {e : Env} {s : State} {m : MethodId} {args : Array Value} {below : List Frame} {meth : Method} {c : Code} {D : cD} {Φ : cG} {x0 : Nat}   {x3 : Int32} {σ : cS} {ls : Array Slot} {r : Int32} (X : cX p s m args meth c cX5_sources 8 (some .int) RX5 D Φ) (hP : cP D Φ σ s.heap) (hS : va_S (cReg Φ) s.heap s.heap [])  (hl : lv_has ls 8 [(3, .int x3)]) (h : f_X5_sources_114  x0 x3 σ = some r) : cWr p l e 0 0 s m args below meth c (some (.int r)) (F0 m 114 ls []) := by
  have hx := X.1
  have hb := X.2.1
  have hown := X.2.2.2.1
  have hts := X.2.2.2.2.1
  have h : (some x3) = some r := h
  refine lv_iload_n hx hb dX5_sources_114 rfl (lv_at hl 0 rfl) ?_
  obtain rfl := sj h
  exact c_ri X dX5_sources_115
set_option maxRecDepth 20000 in
set_option maxHeartbeats 4000000 in
theorem N_X5_sources_106 {p : Program} {l : Launch} {e : Env} {s : State} {m : MethodId} {args : Array Value} {below : List Frame} {meth : Method} {c : Code} {D : cD} {Φ : cG} {x0 : Nat} {k41 : Int32 → Int32 → Int32 → Option Nat → Int32 → Option (Int32)}  {x4 : Int32} {x5 : Int32} {x6 : Option Nat} {x7 : Int32} {y0 : Int32} {y1 : Int32} {σ : cS} {ls : Array Slot} {r : Int32} (X : cX p s m args meth c cX5_sources 8 (some .int) RX5 D Φ) (hP : cP D Φ σ s.heap) (hS : va_S (cReg Φ) s.heap s.heap []) (hk41 : ∀ {x3 : Int32} {x4 : Int32} {x5 : Int32} {x6 : Option Nat} {x7 : Int32} {ls : Array Slot}, lv_has ls 8 [(3, .int x3), (4, .int x4), (5, .int x5), (6, cv Φ x6), (7, .int x7)] → k41 x3 x4 x5 x6 x7 = some r → cWr p l e 0 0 s m args below meth c (some (.int r)) (F0 m 41 ls [])) (hl : lv_has ls 8 [(4, .int x4), (5, .int x5), (6, cv Φ x6), (7, .int x7)]) (h : f_X5_sources_106 k41 x0 x4 x5 x6 x7 y0 y1 σ = some r) : cWr p l e 0 0 s m args below meth c (some (.int r)) (F0 m 106 ls [.int y1, .int y0]) := by
  have hx := X.1
  have hb := X.2.1
  have hown := X.2.2.2.1
  have hts := X.2.2.2.2.1
  have h : (k41 ((y0 ||| y1)) (x4) (x5) (x6) ((x7 + (1:Int32)))) = some r := h
  refine lv_ior hx hb dX5_sources_106 ?_
  refine c_istore_n hx hb dX5_sources_107 rfl hl (Nat.le_of_ble_eq_true rfl) (lvKa rfl (lvKa rfl (lvKa rfl (lvKa rfl lvK0)))) rfl (fun ls (hl : lv_has ls 8 [(3, .int (y0 ||| y1)), (4, .int x4), (5, .int x5), (6, cv Φ x6), (7, .int x7)]) => ?_)
  refine c_iinc (v := (x7 + (1:Int32))) hx hb dX5_sources_108 hl (k := 4) rfl rfl (Nat.le_of_ble_eq_true rfl) (lvKa rfl (lvKa rfl (lvKa rfl (lvKr (lvKa rfl lvK0))))) rfl (fun ls (hl : lv_has ls 8 [(7, .int (x7 + (1:Int32))), (3, .int (y0 ||| y1)), (4, .int x4), (5, .int x5), (6, cv Φ x6)]) => ?_)
  refine lv_goto (tgt := 41) hx hb dX5_sources_111 rfl ?_
  exact hk41 (lv_sub hl [1, 2, 3, 4, 0] rfl) h
set_option maxRecDepth 20000 in
set_option maxHeartbeats 4000000 in
theorem N_X5_sources_87 {p : Program} {l : Launch} {e : Env} {s : State} {m : MethodId} {args : Array Value} {below : List Frame} {meth : Method} {c : Code} {D : cD} {Φ : cG} {x0 : Nat} {k41 : Int32 → Int32 → Int32 → Option Nat → Int32 → Option (Int32)}  {x3 : Int32} {x4 : Int32} {x5 : Int32} {x7 : Int32} {y0 : Option Nat} {σ : cS} {ls : Array Slot} {r : Int32} (X : cX p s m args meth c cX5_sources 8 (some .int) RX5 D Φ) (hP : cP D Φ σ s.heap) (hS : va_S (cReg Φ) s.heap s.heap []) (hk41 : ∀ {x3 : Int32} {x4 : Int32} {x5 : Int32} {x6 : Option Nat} {x7 : Int32} {ls : Array Slot}, lv_has ls 8 [(3, .int x3), (4, .int x4), (5, .int x5), (6, cv Φ x6), (7, .int x7)] → k41 x3 x4 x5 x6 x7 = some r → cWr p l e 0 0 s m args below meth c (some (.int r)) (F0 m 41 ls [])) (hl : lv_has ls 8 [(3, .int x3), (4, .int x4), (5, .int x5), (7, .int x7)]) (h : f_X5_sources_87 k41 x0 x3 x4 x5 x7 y0 σ = some r) : cWr p l e 0 0 s m args below meth c (some (.int r)) (F0 m 87 ls [cv Φ y0]) := by
  have hx := X.1
  have hb := X.2.1
  have hown := X.2.2.2.1
  have hts := X.2.2.2.2.1
  have h : (if y0 = none then (f_X5_sources_106 k41 x0 (x4) (x5) (y0) (x7) (x3) ((0:Int32)) σ) else ((gI σ y0 3 0).bind (fun v1 => f_X5_sources_106 k41 x0 (x4) (x5) (y0) (x7) (x3) (((1:Int32) <<< (v1 &&& 31))) σ))) = some r := h
  refine c_astore hx hb dX5_sources_87 hl (Nat.le_of_ble_eq_true rfl) (lvKa rfl (lvKa rfl (lvKi (lvKa rfl lvK0)))) rfl (fun ls (hl : lv_has ls 8 [(6, cv Φ y0), (3, .int x3), (4, .int x4), (5, .int x5), (7, .int x7)]) => ?_)
  refine lv_iload_n hx hb dX5_sources_89 rfl (lv_at hl 1 rfl) ?_
  refine c_aload hx hb dX5_sources_90 (lv_at hl 0 rfl) ?_
  refine c_ifnonnull (Φ := Φ) (tgt := 99) hx hb dX5_sources_92 rfl (fun hc => ?_) (fun hc => ?_)
  · have h := ine hc h
    refine lv_iconst (v := (1:Int32)) hx hb dX5_sources_99 (by decide) ?_
    refine c_aload hx hb dX5_sources_100 (lv_at hl 0 rfl) ?_
    obtain ⟨v1, hv1, h⟩ := ob h
    refine c_gI X hP hv1 (Nat.le_of_ble_eq_true rfl) (Nat.le_of_ble_eq_true rfl) rfl w_226 dX5_sources_102 ?_
    refine lv_ishl hx hb dX5_sources_105 ?_
    exact N_X5_sources_106 X hP hS hk41 (lv_sub hl [2, 3, 0, 4] rfl) h
  · have h := ip hc h
    refine lv_iconst (v := (0:Int32)) hx hb dX5_sources_95 (by decide) ?_
    refine lv_goto (tgt := 106) hx hb dX5_sources_96 rfl ?_
    exact N_X5_sources_106 X hP hS hk41 (lv_sub hl [2, 3, 0, 4] rfl) h
set_option maxRecDepth 20000 in
set_option maxHeartbeats 4000000 in
theorem N_X5_sources_41 {p : Program} {l : Launch} {e : Env} {s : State} {m : MethodId} {args : Array Value} {below : List Frame} {meth : Method} {c : Code} {D : cD} {Φ : cG} {x0 : Nat}  {n : Nat} {x3 : Int32} {x4 : Int32} {x5 : Int32} {x6 : Option Nat} {x7 : Int32} {σ : cS} {ls : Array Slot} {r : Int32} (X : cX p s m args meth c cX5_sources 8 (some .int) RX5 D Φ) (hP : cP D Φ σ s.heap) (hS : va_S (cReg Φ) s.heap s.heap [])  (hl : lv_has ls 8 [(3, .int x3), (4, .int x4), (5, .int x5), (6, cv Φ x6), (7, .int x7)]) (h : f_X5_sources_41  x0 n x3 x4 x5 x6 x7 σ = some r) : cWr p l e 0 0 s m args below meth c (some (.int r)) (F0 m 41 ls []) := by
  have hx := X.1
  have hb := X.2.1
  have hown := X.2.2.2.1
  have hts := X.2.2.2.2.1
  induction n generalizing x3 x4 x5 x6 x7 ls with
  | zero => exact absurd (show none = some r from h) (by simp)
  | succ n ih =>
    have h : (if x5 ≤ x7 then (f_X5_sources_114 x0 (x3) σ) else (if x6 = none then (f_X5_sources_114 x0 (x3) σ) else (if x4 = (0:Int32) then ((gR σ x6 3 13).bind (fun v4 => f_X5_sources_87 (fun z0 z1 z2 z3 z4 => f_X5_sources_41 x0 n z0 z1 z2 z3 z4 σ) x0 (x3) (x4) (x5) (x7) (v4) σ)) else ((gR σ x6 3 8).bind (fun v1 => if v1 = none then ((gR σ x6 3 9).bind (fun v2 => f_X5_sources_87 (fun z0 z1 z2 z3 z4 => f_X5_sources_41 x0 n z0 z1 z2 z3 z4 σ) x0 (x3) (x4) (x5) (x7) (v2) σ)) else ((gR σ x6 3 8).bind (fun v3 => f_X5_sources_87 (fun z0 z1 z2 z3 z4 => f_X5_sources_41 x0 n z0 z1 z2 z3 z4 σ) x0 (x3) (x4) (x5) (x7) (v3) σ))))))) = some r := h
    refine lv_iload hx hb dX5_sources_41 (lv_at hl 4 rfl) ?_
    refine lv_iload hx hb dX5_sources_43 (lv_at hl 2 rfl) ?_
    refine lv_icmp_ge (tgt := 114) hx hb dX5_sources_45 rfl (fun hc => ?_) (fun hc => ?_)
    · have h := ip hc h
      exact N_X5_sources_114 X hP hS (lv_sub hl [0] rfl) h
    · have h := ine hc h
      refine c_aload hx hb dX5_sources_48 (lv_at hl 3 rfl) ?_
      refine c_ifnull (Φ := Φ) (tgt := 114) hx hb dX5_sources_50 rfl (fun hc => ?_) (fun hc => ?_)
      · have h := ip hc h
        exact N_X5_sources_114 X hP hS (lv_sub hl [0] rfl) h
      · have h := ine hc h
        refine lv_iload hx hb dX5_sources_53 (lv_at hl 1 rfl) ?_
        refine lv_if_ne (tgt := 66) hx hb dX5_sources_55 rfl (fun hc => ?_) (fun hc => ?_)
        · have h := ine hc h
          refine c_aload hx hb dX5_sources_66 (lv_at hl 3 rfl) ?_
          obtain ⟨v1, hv1, h⟩ := ob h
          refine c_gR X hP hv1 (Nat.le_of_ble_eq_true rfl) (Nat.le_of_ble_eq_true rfl) rfl w_253 dX5_sources_68 ?_
          refine c_ifnull (Φ := Φ) (tgt := 82) hx hb dX5_sources_71 rfl (fun hc => ?_) (fun hc => ?_)
          · have h := ip hc h
            refine c_aload hx hb dX5_sources_82 (lv_at hl 3 rfl) ?_
            obtain ⟨v2, hv2, h⟩ := ob h
            refine c_gR X hP hv2 (Nat.le_of_ble_eq_true rfl) (Nat.le_of_ble_eq_true rfl) rfl w_257 dX5_sources_84 ?_
            exact N_X5_sources_87 X hP hS ih (lv_sub hl [0, 1, 2, 4] rfl) h
          · have h := ine hc h
            refine c_aload hx hb dX5_sources_74 (lv_at hl 3 rfl) ?_
            obtain ⟨v3, hv3, h⟩ := ob h
            refine c_gR X hP hv3 (Nat.le_of_ble_eq_true rfl) (Nat.le_of_ble_eq_true rfl) rfl w_253 dX5_sources_76 ?_
            refine lv_goto (tgt := 87) hx hb dX5_sources_79 rfl ?_
            exact N_X5_sources_87 X hP hS ih (lv_sub hl [0, 1, 2, 4] rfl) h
        · have h := ip hc h
          refine c_aload hx hb dX5_sources_58 (lv_at hl 3 rfl) ?_
          obtain ⟨v4, hv4, h⟩ := ob h
          refine c_gR X hP hv4 (Nat.le_of_ble_eq_true rfl) (Nat.le_of_ble_eq_true rfl) rfl w_265 dX5_sources_60 ?_
          refine lv_goto (tgt := 87) hx hb dX5_sources_63 rfl ?_
          exact N_X5_sources_87 X hP hS ih (lv_sub hl [0, 1, 2, 4] rfl) h
set_option maxRecDepth 20000 in
set_option maxHeartbeats 4000000 in
theorem N_X5_sources_33 {p : Program} {l : Launch} {e : Env} {s : State} {m : MethodId} {args : Array Value} {below : List Frame} {meth : Method} {c : Code} {D : cD} {Φ : cG} {x0 : Nat}   {x1 : Option Nat} {x3 : Int32} {x4 : Int32} {y0 : Int32} {σ : cS} {ls : Array Slot} {r : Int32} (X : cX p s m args meth c cX5_sources 8 (some .int) RX5 D Φ) (hP : cP D Φ σ s.heap) (hS : va_S (cReg Φ) s.heap s.heap [])  (hl : lv_has ls 8 [(1, cv Φ x1), (3, .int x3), (4, .int x4)]) (h : f_X5_sources_33  x0 x1 x3 x4 y0 σ = some r) : cWr p l e 0 0 s m args below meth c (some (.int r)) (F0 m 33 ls [.int y0]) := by
  have hx := X.1
  have hb := X.2.1
  have hown := X.2.2.2.1
  have hts := X.2.2.2.2.1
  have h : (f_X5_sources_41 x0 4000 (x3) (x4) (y0) (x1) ((0:Int32)) σ) = some r := h
  refine c_istore hx hb dX5_sources_33 hl (Nat.le_of_ble_eq_true rfl) (lvKa rfl (lvKa rfl (lvKi lvK0))) rfl (fun ls (hl : lv_has ls 8 [(5, .int y0), (1, cv Φ x1), (3, .int x3), (4, .int x4)]) => ?_)
  refine c_aload_n hx hb dX5_sources_35 rfl (lv_at hl 1 rfl) ?_
  refine c_astore hx hb dX5_sources_36 hl (Nat.le_of_ble_eq_true rfl) (lvKi (lvKa rfl (lvKa rfl (lvKa rfl lvK0)))) rfl (fun ls (hl : lv_has ls 8 [(6, cv Φ x1), (5, .int y0), (1, cv Φ x1), (3, .int x3), (4, .int x4)]) => ?_)
  refine lv_iconst (v := (0:Int32)) hx hb dX5_sources_38 (by decide) ?_
  refine c_istore hx hb dX5_sources_39 hl (Nat.le_of_ble_eq_true rfl) (lvKr (lvKa rfl (lvKa rfl (lvKa rfl (lvKa rfl lvK0))))) rfl (fun ls (hl : lv_has ls 8 [(7, .int (0:Int32)), (6, cv Φ x1), (5, .int y0), (1, cv Φ x1), (3, .int x3), (4, .int x4)]) => ?_)
  exact N_X5_sources_41 X hP hS (lv_sub hl [4, 5, 2, 1, 0] rfl) h
set_option maxRecDepth 20000 in
set_option maxHeartbeats 4000000 in
theorem N_X5_sources_27 {p : Program} {l : Launch} {e : Env} {s : State} {m : MethodId} {args : Array Value} {below : List Frame} {meth : Method} {c : Code} {D : cD} {Φ : cG} {x0 : Nat}   {x1 : Option Nat} {x3 : Int32} {x4 : Int32} {σ : cS} {ls : Array Slot} {r : Int32} (X : cX p s m args meth c cX5_sources 8 (some .int) RX5 D Φ) (hP : cP D Φ σ s.heap) (hS : va_S (cReg Φ) s.heap s.heap [])  (hl : lv_has ls 8 [(1, cv Φ x1), (3, .int x3), (4, .int x4)]) (h : f_X5_sources_27  x0 x1 x3 x4 σ = some r) : cWr p l e 0 0 s m args below meth c (some (.int r)) (F0 m 27 ls []) := by
  have hx := X.1
  have hb := X.2.1
  have hown := X.2.2.2.1
  have hts := X.2.2.2.2.1
  have h : (f_X5_sources_33 x0 (x1) (x3) (x4) ((30:Int32)) σ) = some r := h
  refine lv_bipush (v := (30:Int32)) hx hb dX5_sources_27 (by decide) ?_
  refine lv_goto (tgt := 33) hx hb dX5_sources_29 rfl ?_
  exact N_X5_sources_33 X hP hS (lv_sub hl [0, 1, 2] rfl) h
set_option maxRecDepth 20000 in
set_option maxHeartbeats 4000000 in
theorem N_X5_sources_16 {p : Program} {l : Launch} {e : Env} {s : State} {m : MethodId} {args : Array Value} {below : List Frame} {meth : Method} {c : Code} {D : cD} {Φ : cG} {x0 : Nat}   {x1 : Option Nat} {x2 : Int32} {x3 : Int32} {y0 : Int32} {σ : cS} {ls : Array Slot} {r : Int32} (X : cX p s m args meth c cX5_sources 8 (some .int) RX5 D Φ) (hP : cP D Φ σ s.heap) (hS : va_S (cReg Φ) s.heap s.heap [])  (hl : lv_has ls 8 [(1, cv Φ x1), (2, .int x2), (3, .int x3)]) (h : f_X5_sources_16  x0 x1 x2 x3 y0 σ = some r) : cWr p l e 0 0 s m args below meth c (some (.int r)) (F0 m 16 ls [.int y0]) := by
  have hx := X.1
  have hb := X.2.1
  have hown := X.2.2.2.1
  have hts := X.2.2.2.2.1
  have h : (if x2 = (0:Int32) then (f_X5_sources_27 x0 (x1) (x3) (y0) σ) else (if x2 = (3:Int32) then (f_X5_sources_27 x0 (x1) (x3) (y0) σ) else (f_X5_sources_33 x0 (x1) (x3) (y0) ((1:Int32)) σ))) = some r := h
  refine c_istore hx hb dX5_sources_16 hl (Nat.le_of_ble_eq_true rfl) (lvKa rfl (lvKa rfl (lvKi lvK0))) rfl (fun ls (hl : lv_has ls 8 [(4, .int y0), (1, cv Φ x1), (2, .int x2), (3, .int x3)]) => ?_)
  refine lv_iload_n hx hb dX5_sources_18 rfl (lv_at hl 2 rfl) ?_
  refine lv_if_eq (tgt := 27) hx hb dX5_sources_19 rfl (fun hc => ?_) (fun hc => ?_)
  · have h := ip hc h
    exact N_X5_sources_27 X hP hS (lv_sub hl [1, 3, 0] rfl) h
  · have h := ine hc h
    refine lv_iload_n hx hb dX5_sources_22 rfl (lv_at hl 2 rfl) ?_
    refine lv_iconst (v := (3:Int32)) hx hb dX5_sources_23 (by decide) ?_
    refine lv_icmp_ne (tgt := 32) hx hb dX5_sources_24 rfl (fun hc => ?_) (fun hc => ?_)
    · have h := ine hc h
      refine lv_iconst (v := (1:Int32)) hx hb dX5_sources_32 (by decide) ?_
      exact N_X5_sources_33 X hP hS (lv_sub hl [1, 3, 0] rfl) h
    · have h := ip hc h
      exact N_X5_sources_27 X hP hS (lv_sub hl [1, 3, 0] rfl) h
set_option maxRecDepth 20000 in
set_option maxHeartbeats 4000000 in
theorem N_X5_sources_11 {p : Program} {l : Launch} {e : Env} {s : State} {m : MethodId} {args : Array Value} {below : List Frame} {meth : Method} {c : Code} {D : cD} {Φ : cG} {x0 : Nat}   {x1 : Option Nat} {x2 : Int32} {x3 : Int32} {σ : cS} {ls : Array Slot} {r : Int32} (X : cX p s m args meth c cX5_sources 8 (some .int) RX5 D Φ) (hP : cP D Φ σ s.heap) (hS : va_S (cReg Φ) s.heap s.heap [])  (hl : lv_has ls 8 [(1, cv Φ x1), (2, .int x2), (3, .int x3)]) (h : f_X5_sources_11  x0 x1 x2 x3 σ = some r) : cWr p l e 0 0 s m args below meth c (some (.int r)) (F0 m 11 ls []) := by
  have hx := X.1
  have hb := X.2.1
  have hown := X.2.2.2.1
  have hts := X.2.2.2.2.1
  have h : (f_X5_sources_16 x0 (x1) (x2) (x3) ((1:Int32)) σ) = some r := h
  refine lv_iconst (v := (1:Int32)) hx hb dX5_sources_11 (by decide) ?_
  refine lv_goto (tgt := 16) hx hb dX5_sources_12 rfl ?_
  exact N_X5_sources_16 X hP hS (lv_sub hl [0, 1, 2] rfl) h
set_option maxRecDepth 20000 in
set_option maxHeartbeats 4000000 in
theorem K_X5_sources (l : Launch) (D : cD) (Φ : cG) (σ : cS) (x0 : Nat) (x1 : Option Nat) (x2 : Int32) {r : Int32} (h : f_X5_sources x0 x1 x2 σ = some r) : Met l yX5_sources (Cond.code yX5_sources cX5_sources 8 (some .int) :: BG) (rA 0 0 0 0) (cPc D Φ σ [cv Φ (some x0), cv Φ x1, .int x2]) (cQr (some (.int r))) 0 0 (fun _ => False) := by
  refine Met.ofW (cc := cX5_sources) (maxL := 8) (ret := (some .int)) (by decide) rfl ?_
  intro p e s m args below meth c s₁ B hml hv
  obtain ⟨rfl, hP, hK, hZ⟩ := hv
  have X : cX p s m [cv Φ (some x0), cv Φ x1, .int x2].toArray meth c cX5_sources 8 (some .int) RX5 D Φ := cX_of B hml hK hZ
  have hx := X.1
  have hb := X.2.1
  have hown := X.2.2.2.1
  have hts := X.2.2.2.2.1
  have hl := lv_entry [cv Φ (some x0), cv Φ x1, .int x2] (n := 8) (by simp only [lgs_r, lgs_i, lgs_l, lgs_0, List.length]; exact Nat.le_of_ble_eq_true rfl)
  rw [lg_entry_eq]
  generalize (lg_sl [cv Φ (some x0), cv Φ x1, .int x2] ++ List.replicate (8 - (lg_sl [cv Φ (some x0), cv Φ x1, .int x2]).length) Slot.unset).toArray = ls at hl ⊢
  simp only [lv_args_r, lv_args_i, lv_args_l, lv_args_0] at hl
  have hl : lv_has ls 8 [(0, cv Φ (some x0)), (1, cv Φ x1), (2, .int x2)] := hl
  have hS : va_S (cReg Φ) s.heap s.heap [] := va_S.rf
  show cWr p l e 0 0 s m [cv Φ (some x0), cv Φ x1, .int x2].toArray below meth c (some (.int r)) (F0 m 0 ls [])
  have h : (if x2 = (0:Int32) then (f_X5_sources_11 x0 (x1) (x2) ((0:Int32)) σ) else (if x2 = (1:Int32) then (f_X5_sources_11 x0 (x1) (x2) ((0:Int32)) σ) else (f_X5_sources_16 x0 (x1) (x2) ((0:Int32)) ((0:Int32)) σ))) = some r := h
  refine lv_iconst (v := (0:Int32)) hx hb dX5_sources_0 (by decide) ?_
  refine c_istore_n hx hb dX5_sources_1 rfl hl (Nat.le_of_ble_eq_true rfl) (lvKa rfl (lvKa rfl (lvKi lvK0))) rfl (fun ls (hl : lv_has ls 8 [(3, .int (0:Int32)), (0, cv Φ (some x0)), (1, cv Φ x1), (2, .int x2)]) => ?_)
  refine lv_iload_n hx hb dX5_sources_2 rfl (lv_at hl 3 rfl) ?_
  refine lv_if_eq (tgt := 11) hx hb dX5_sources_3 rfl (fun hc => ?_) (fun hc => ?_)
  · have h := ip hc h
    exact N_X5_sources_11 X hP hS (lv_sub hl [2, 3, 0] rfl) h
  · have h := ine hc h
    refine lv_iload_n hx hb dX5_sources_6 rfl (lv_at hl 3 rfl) ?_
    refine lv_iconst (v := (1:Int32)) hx hb dX5_sources_7 (by decide) ?_
    refine lv_icmp_ne (tgt := 15) hx hb dX5_sources_8 rfl (fun hc => ?_) (fun hc => ?_)
    · have h := ine hc h
      refine lv_iconst (v := (0:Int32)) hx hb dX5_sources_15 (by decide) ?_
      exact N_X5_sources_16 X hP hS (lv_sub hl [2, 3, 0] rfl) h
    · have h := ip hc h
      exact N_X5_sources_11 X hP hS (lv_sub hl [2, 3, 0] rfl) h
theorem ww_X5_sources : Cond.instanceMethod yX5_sources ∈ BG ∧ Cond.selects (yX5_sources).cls yX5_sources yX5_sources ∈ BG ∧ Cond.initialized (yX5_sources).cls ∈ BG ∧ Cond.code yX5_sources cX5_sources 8 (some .int) ∈ BG := ⟨w_944, w_21, w_61, w_945⟩
theorem hy_X5_sources : (yX5_sources).cls ≠ "java/lang/invoke/MethodHandle" ∧ (yX5_sources).cls ≠ "java/lang/invoke/VarHandle" ∧ (parseMethodDescriptor (yX5_sources).desc).map (fun d => d.parameters.length) = some 2 := ⟨by decide, by decide, by decide +kernel⟩
def f_X5_origins_52 (k5 : Int32 → Int32 → Int32 → Int32 → Option (Int32)) (x0 : Nat) (x1 : Int32) (x2 : Int32) (x3 : Int32) (x4 : Int32) (σ : cS) : Option (Int32) := k5 (x1) (x2) (x3) ((x4 + (1:Int32)))
def f_X5_origins_5  (x0 : Nat) : Nat → Int32 → Int32 → Int32 → Int32 → cS → Option (Int32)
  | 0, _, _, _, _, _ => none
  | n + 1, x1, x2, x3, x4, σ => (gR σ (some x0) 5 0).bind (fun v1 => (gI σ v1 10 1).bind (fun v2 => if v2 ≤ x4 then (some x3) else ((gR σ (some x0) 5 0).bind (fun v3 => (rc σ v3 10).bind (fun v4 => (f_X10_at v4 (x4) σ).bind (fun v5 => if v5 = none then (f_X5_origins_52 (fun z0 z1 z2 z3 => f_X5_origins_5 x0 n z0 z1 z2 z3 σ) x0 (x1) (x2) (x3) (x4) σ) else (if ((x1 >>> (x4 &&& 31)) &&& (1:Int32)) = (0:Int32) then (f_X5_origins_52 (fun z0 z1 z2 z3 => f_X5_origins_5 x0 n z0 z1 z2 z3 σ) x0 (x1) (x2) (x3) (x4) σ) else ((rc σ (some x0) 5).bind (fun v6 => (f_X5_sources v6 (v5) (x2) σ).bind (fun v7 => f_X5_origins_52 (fun z0 z1 z2 z3 => f_X5_origins_5 x0 n z0 z1 z2 z3 σ) x0 (x1) (x2) ((x3 ||| v7)) (x4) σ))))))))))
def f_X5_origins (x0 : Nat) (x1 : Int32) (x2 : Int32) (σ : cS) : Option (Int32) := f_X5_origins_5 x0 4000 (x1) (x2) ((0:Int32)) ((0:Int32)) σ
set_option maxRecDepth 20000 in
set_option maxHeartbeats 4000000 in
theorem N_X5_origins_52 {p : Program} {l : Launch} {e : Env} {s : State} {m : MethodId} {args : Array Value} {below : List Frame} {meth : Method} {c : Code} {D : cD} {Φ : cG} {x0 : Nat} {k5 : Int32 → Int32 → Int32 → Int32 → Option (Int32)}  {x1 : Int32} {x2 : Int32} {x3 : Int32} {x4 : Int32} {σ : cS} {ls : Array Slot} {r : Int32} (X : cX p s m args meth c cX5_origins 6 (some .int) RX5 D Φ) (hP : cP D Φ σ s.heap) (hS : va_S (cReg Φ) s.heap s.heap []) (hk5 : ∀ {x1 : Int32} {x2 : Int32} {x3 : Int32} {x4 : Int32} {ls : Array Slot}, lv_has ls 6 [(0, cv Φ (some x0)), (1, .int x1), (2, .int x2), (3, .int x3), (4, .int x4)] → k5 x1 x2 x3 x4 = some r → cWr p l e 1 27 s m args below meth c (some (.int r)) (F0 m 5 ls [])) (hl : lv_has ls 6 [(0, cv Φ (some x0)), (1, .int x1), (2, .int x2), (3, .int x3), (4, .int x4)]) (h : f_X5_origins_52 k5 x0 x1 x2 x3 x4 σ = some r) : cWr p l e 1 27 s m args below meth c (some (.int r)) (F0 m 52 ls []) := by
  have hx := X.1
  have hb := X.2.1
  have hown := X.2.2.2.1
  have hts := X.2.2.2.2.1
  have h : (k5 (x1) (x2) (x3) ((x4 + (1:Int32)))) = some r := h
  refine c_iinc (v := (x4 + (1:Int32))) hx hb dX5_origins_52 hl (k := 4) rfl rfl (Nat.le_of_ble_eq_true rfl) (lvKa rfl (lvKa rfl (lvKa rfl (lvKi (lvKa rfl lvK0))))) rfl (fun ls (hl : lv_has ls 6 [(4, .int (x4 + (1:Int32))), (0, cv Φ (some x0)), (1, .int x1), (2, .int x2), (3, .int x3)]) => ?_)
  refine lv_goto (tgt := 5) hx hb dX5_origins_55 rfl ?_
  exact hk5 (lv_sub hl [1, 2, 3, 4, 0] rfl) h
set_option maxRecDepth 20000 in
set_option maxHeartbeats 4000000 in
theorem N_X5_origins_5 {p : Program} {l : Launch} {e : Env} {s : State} {m : MethodId} {args : Array Value} {below : List Frame} {meth : Method} {c : Code} {D : cD} {Φ : cG} {x0 : Nat}  {n : Nat} {x1 : Int32} {x2 : Int32} {x3 : Int32} {x4 : Int32} {σ : cS} {ls : Array Slot} {r : Int32} (X : cX p s m args meth c cX5_origins 6 (some .int) RX5 D Φ) (hP : cP D Φ σ s.heap) (hS : va_S (cReg Φ) s.heap s.heap [])  (hl : lv_has ls 6 [(0, cv Φ (some x0)), (1, .int x1), (2, .int x2), (3, .int x3), (4, .int x4)]) (h : f_X5_origins_5  x0 n x1 x2 x3 x4 σ = some r) : cWr p l e 1 27 s m args below meth c (some (.int r)) (F0 m 5 ls []) := by
  have hx := X.1
  have hb := X.2.1
  have hown := X.2.2.2.1
  have hts := X.2.2.2.2.1
  induction n generalizing x1 x2 x3 x4 ls with
  | zero => exact absurd (show none = some r from h) (by simp)
  | succ n ih =>
    have h : ((gR σ (some x0) 5 0).bind (fun v1 => (gI σ v1 10 1).bind (fun v2 => if v2 ≤ x4 then (some x3) else ((gR σ (some x0) 5 0).bind (fun v3 => (rc σ v3 10).bind (fun v4 => (f_X10_at v4 (x4) σ).bind (fun v5 => if v5 = none then (f_X5_origins_52 (fun z0 z1 z2 z3 => f_X5_origins_5 x0 n z0 z1 z2 z3 σ) x0 (x1) (x2) (x3) (x4) σ) else (if ((x1 >>> (x4 &&& 31)) &&& (1:Int32)) = (0:Int32) then (f_X5_origins_52 (fun z0 z1 z2 z3 => f_X5_origins_5 x0 n z0 z1 z2 z3 σ) x0 (x1) (x2) (x3) (x4) σ) else ((rc σ (some x0) 5).bind (fun v6 => (f_X5_sources v6 (v5) (x2) σ).bind (fun v7 => f_X5_origins_52 (fun z0 z1 z2 z3 => f_X5_origins_5 x0 n z0 z1 z2 z3 σ) x0 (x1) (x2) ((x3 ||| v7)) (x4) σ))))))))))) = some r := h
    refine lv_iload hx hb dX5_origins_5 (lv_at hl 4 rfl) ?_
    refine c_aload_n hx hb dX5_origins_7 rfl (lv_at hl 0 rfl) ?_
    obtain ⟨v1, hv1, h⟩ := ob h
    refine c_gR X hP hv1 (Nat.le_of_ble_eq_true rfl) (Nat.le_of_ble_eq_true rfl) rfl w_464 dX5_origins_8 ?_
    obtain ⟨v2, hv2, h⟩ := ob h
    refine c_gI X hP hv2 (Nat.le_of_ble_eq_true rfl) (Nat.le_of_ble_eq_true rfl) rfl w_330 dX5_origins_11 ?_
    refine lv_icmp_ge (tgt := 58) hx hb dX5_origins_14 rfl (fun hc => ?_) (fun hc => ?_)
    · have h := ip hc h
      refine lv_iload_n hx hb dX5_origins_58 rfl (lv_at hl 3 rfl) ?_
      obtain rfl := sj h
      exact c_ri X dX5_origins_59
    · have h := ine hc h
      refine c_aload_n hx hb dX5_origins_17 rfl (lv_at hl 0 rfl) ?_
      obtain ⟨v3, hv3, h⟩ := ob h
      refine c_gR X hP hv3 (Nat.le_of_ble_eq_true rfl) (Nat.le_of_ble_eq_true rfl) rfl w_464 dX5_origins_18 ?_
      refine lv_iload hx hb dX5_origins_21 (lv_at hl 4 rfl) ?_
      obtain ⟨v4, hv4, h⟩ := ob h
      obtain ⟨v5, hv5, h⟩ := ob h
      refine c_cr (c_runV X (K_X10_at l D Φ σ v4 (x4) hv5) hv4 ⟨Nat.le_of_ble_eq_true rfl, by decide⟩ ⟨w_941, ww_X10_at⟩ rfl hy_X10_at rfl ⟨(Nat.le_of_ble_eq_true rfl), (Nat.le_of_ble_eq_true rfl)⟩ hP hS hl.1 (Nat.le_of_ble_eq_true rfl) dX5_origins_23 rfl ⟨(Nat.le_of_ble_eq_true rfl), (Nat.le_of_ble_eq_true rfl)⟩) ?_
      refine c_astore hx hb dX5_origins_26 hl (Nat.le_of_ble_eq_true rfl) (lvKa rfl (lvKa rfl (lvKa rfl (lvKa rfl (lvKi lvK0))))) rfl (fun ls (hl : lv_has ls 6 [(5, cv Φ v5), (0, cv Φ (some x0)), (1, .int x1), (2, .int x2), (3, .int x3), (4, .int x4)]) => ?_)
      refine c_aload hx hb dX5_origins_28 (lv_at hl 0 rfl) ?_
      refine c_ifnull (Φ := Φ) (tgt := 52) hx hb dX5_origins_30 rfl (fun hc => ?_) (fun hc => ?_)
      · have h := ip hc h
        exact N_X5_origins_52 X hP hS ih (lv_sub hl [1, 2, 3, 4, 5] rfl) h
      · have h := ine hc h
        refine lv_iload_n hx hb dX5_origins_33 rfl (lv_at hl 2 rfl) ?_
        refine lv_iload hx hb dX5_origins_34 (lv_at hl 5 rfl) ?_
        refine lv_ishr hx hb dX5_origins_36 ?_
        refine lv_iconst (v := (1:Int32)) hx hb dX5_origins_37 (by decide) ?_
        refine lv_iand hx hb dX5_origins_38 ?_
        refine lv_if_eq (tgt := 52) hx hb dX5_origins_39 rfl (fun hc => ?_) (fun hc => ?_)
        · have h := ip hc h
          exact N_X5_origins_52 X hP hS ih (lv_sub hl [1, 2, 3, 4, 5] rfl) h
        · have h := ine hc h
          refine lv_iload_n hx hb dX5_origins_42 rfl (lv_at hl 4 rfl) ?_
          refine c_aload_n hx hb dX5_origins_43 rfl (lv_at hl 1 rfl) ?_
          refine c_aload hx hb dX5_origins_44 (lv_at hl 0 rfl) ?_
          refine lv_iload_n hx hb dX5_origins_46 rfl (lv_at hl 3 rfl) ?_
          obtain ⟨v6, hv6, h⟩ := ob h
          obtain ⟨v7, hv7, h⟩ := ob h
          refine c_cr (c_runV X (K_X5_sources l D Φ σ v6 (v5) (x2) hv7) hv6 ⟨Nat.le_of_ble_eq_true rfl, by decide⟩ ⟨w_942, ww_X5_sources⟩ rfl hy_X5_sources rfl ⟨(Nat.le_of_ble_eq_true rfl), (Nat.le_of_ble_eq_true rfl)⟩ hP hS hl.1 (Nat.le_of_ble_eq_true rfl) dX5_origins_47 rfl ⟨(Nat.le_of_ble_eq_true rfl), (Nat.le_of_ble_eq_true rfl)⟩) ?_
          refine lv_ior hx hb dX5_origins_50 ?_
          refine c_istore_n hx hb dX5_origins_51 rfl hl (Nat.le_of_ble_eq_true rfl) (lvKa rfl (lvKa rfl (lvKa rfl (lvKi (lvKa rfl (lvKa rfl lvK0)))))) rfl (fun ls (hl : lv_has ls 6 [(3, .int (x3 ||| v7)), (5, cv Φ v5), (0, cv Φ (some x0)), (1, .int x1), (2, .int x2), (4, .int x4)]) => ?_)
          exact N_X5_origins_52 X hP hS ih (lv_sub hl [2, 3, 4, 0, 5] rfl) h
set_option maxRecDepth 20000 in
set_option maxHeartbeats 4000000 in
theorem K_X5_origins (l : Launch) (D : cD) (Φ : cG) (σ : cS) (x0 : Nat) (x1 : Int32) (x2 : Int32) {r : Int32} (h : f_X5_origins x0 x1 x2 σ = some r) : Met l yX5_origins (Cond.code yX5_origins cX5_origins 6 (some .int) :: BG) (rA 1 0 0 27) (cPc D Φ σ [cv Φ (some x0), .int x1, .int x2]) (cQr (some (.int r))) 0 0 (fun _ => False) := by
  refine Met.ofW (cc := cX5_origins) (maxL := 6) (ret := (some .int)) (by decide) rfl ?_
  intro p e s m args below meth c s₁ B hml hv
  obtain ⟨rfl, hP, hK, hZ⟩ := hv
  have X : cX p s m [cv Φ (some x0), .int x1, .int x2].toArray meth c cX5_origins 6 (some .int) RX5 D Φ := cX_of B hml hK hZ
  have hx := X.1
  have hb := X.2.1
  have hown := X.2.2.2.1
  have hts := X.2.2.2.2.1
  have hl := lv_entry [cv Φ (some x0), .int x1, .int x2] (n := 6) (by simp only [lgs_r, lgs_i, lgs_l, lgs_0, List.length]; exact Nat.le_of_ble_eq_true rfl)
  rw [lg_entry_eq]
  generalize (lg_sl [cv Φ (some x0), .int x1, .int x2] ++ List.replicate (6 - (lg_sl [cv Φ (some x0), .int x1, .int x2]).length) Slot.unset).toArray = ls at hl ⊢
  simp only [lv_args_r, lv_args_i, lv_args_l, lv_args_0] at hl
  have hl : lv_has ls 6 [(0, cv Φ (some x0)), (1, .int x1), (2, .int x2)] := hl
  have hS : va_S (cReg Φ) s.heap s.heap [] := va_S.rf
  show cWr p l e 1 27 s m [cv Φ (some x0), .int x1, .int x2].toArray below meth c (some (.int r)) (F0 m 0 ls [])
  have h : (f_X5_origins_5 x0 4000 (x1) (x2) ((0:Int32)) ((0:Int32)) σ) = some r := h
  refine lv_iconst (v := (0:Int32)) hx hb dX5_origins_0 (by decide) ?_
  refine c_istore_n hx hb dX5_origins_1 rfl hl (Nat.le_of_ble_eq_true rfl) (lvKa rfl (lvKa rfl (lvKi lvK0))) rfl (fun ls (hl : lv_has ls 6 [(3, .int (0:Int32)), (0, cv Φ (some x0)), (1, .int x1), (2, .int x2)]) => ?_)
  refine lv_iconst (v := (0:Int32)) hx hb dX5_origins_2 (by decide) ?_
  refine c_istore hx hb dX5_origins_3 hl (Nat.le_of_ble_eq_true rfl) (lvKi (lvKa rfl (lvKa rfl (lvKa rfl lvK0)))) rfl (fun ls (hl : lv_has ls 6 [(4, .int (0:Int32)), (3, .int (0:Int32)), (0, cv Φ (some x0)), (1, .int x1), (2, .int x2)]) => ?_)
  exact N_X5_origins_5 X hP hS (lv_sub hl [2, 3, 4, 1, 0] rfl) h
theorem ww_X5_origins : Cond.instanceMethod yX5_origins ∈ BG ∧ Cond.selects (yX5_origins).cls yX5_origins yX5_origins ∈ BG ∧ Cond.initialized (yX5_origins).cls ∈ BG ∧ Cond.code yX5_origins cX5_origins 6 (some .int) ∈ BG := ⟨w_939, w_20, w_61, w_940⟩
theorem hy_X5_origins : (yX5_origins).cls ≠ "java/lang/invoke/MethodHandle" ∧ (yX5_origins).cls ≠ "java/lang/invoke/VarHandle" ∧ (parseMethodDescriptor (yX5_origins).desc).map (fun d => d.parameters.length) = some 2 := ⟨by decide, by decide, by decide +kernel⟩
def f_X5_passes_151  (x0 : Nat) (y0 : Int32) (σ : cS) : Option (Int32) := rz y0
def f_X5_passes_150  (x0 : Nat)  (σ : cS) : Option (Int32) := f_X5_passes_151 x0 ((0:Int32)) σ
def f_X5_passes_45  (x0 : Nat) (y0 : Int32) (σ : cS) : Option (Int32) := rz y0
def f_X5_passes_62  (x0 : Nat) (y0 : Int32) (σ : cS) : Option (Int32) := rz y0
def f_X5_passes_79  (x0 : Nat) (y0 : Int32) (σ : cS) : Option (Int32) := rz y0
def f_X5_passes_105  (x0 : Nat) (y0 : Int32) (σ : cS) : Option (Int32) := rz y0
def f_X5_passes_95  (x0 : Nat) (x4 : Int32) (y0 : Int32) (σ : cS) : Option (Int32) := if y0 = x4 then (f_X5_passes_105 x0 ((1:Int32)) σ) else (f_X5_passes_105 x0 ((0:Int32)) σ)
def f_X5_passes (x0 : Nat) (x1 : Option Nat) (x2 : Int32) (x3 : Int32) (x4 : Int32) (σ : cS) : Option (Int32) := if x2 = (0:Int32) then ((gI σ x1 3 1).bind (fun v1 => if v1 = x3 then (f_X5_passes_45 x0 ((1:Int32)) σ) else (f_X5_passes_45 x0 ((0:Int32)) σ))) else (if x2 = (1:Int32) then ((gI σ x1 3 2).bind (fun v2 => if ((v2 >>> (x3 &&& 31)) &&& (1:Int32)) = (0:Int32) then (f_X5_passes_62 x0 ((0:Int32)) σ) else (f_X5_passes_62 x0 ((1:Int32)) σ))) else (if x2 = (2:Int32) then ((gI σ x1 3 3).bind (fun v3 => if ((v3 >>> (x3 &&& 31)) &&& (1:Int32)) = (0:Int32) then (f_X5_passes_79 x0 ((0:Int32)) σ) else (f_X5_passes_79 x0 ((1:Int32)) σ))) else (if x2 = (3:Int32) then (if x3 = (0:Int32) then ((gI σ x1 3 4).bind (fun v5 => f_X5_passes_95 x0 (x4) (v5) σ)) else ((gI σ x1 3 5).bind (fun v4 => f_X5_passes_95 x0 (x4) (v4) σ))) else ((gI σ x1 3 14).bind (fun v6 => if x3 = (0:Int32) then (if (v6 - x4) = (0:Int32) then (f_X5_passes_151 x0 ((1:Int32)) σ) else (f_X5_passes_151 x0 ((0:Int32)) σ)) else ((rm (v6 - x4) x3).bind (fun v7 => if v7 = (0:Int32) then ((dv (v6 - x4) x3).bind (fun v8 => if v8 < (0:Int32) then (f_X5_passes_150 x0 σ) else (f_X5_passes_151 x0 ((1:Int32)) σ))) else (f_X5_passes_150 x0 σ))))))))
set_option maxRecDepth 20000 in
set_option maxHeartbeats 4000000 in
theorem N_X5_passes_151 {p : Program} {l : Launch} {e : Env} {s : State} {m : MethodId} {args : Array Value} {below : List Frame} {meth : Method} {c : Code} {D : cD} {Φ : cG} {x0 : Nat}   {y0 : Int32} {σ : cS} {ls : Array Slot} {r : Int32} (X : cX p s m args meth c cX5_passes 6 (some .boolean) RX5 D Φ) (hP : cP D Φ σ s.heap) (hS : va_S (cReg Φ) s.heap s.heap [])  (hl : lv_has ls 6 []) (h : f_X5_passes_151  x0 y0 σ = some r) : cWr p l e 0 0 s m args below meth c (some (.int r)) (F0 m 151 ls [.int y0]) := by
  have hx := X.1
  have hb := X.2.1
  have hown := X.2.2.2.1
  have hts := X.2.2.2.2.1
  have h : (rz y0) = some r := h
  obtain ⟨hz, rfl⟩ := rz_spec h
  exact c_rz X hz dX5_passes_151
set_option maxRecDepth 20000 in
set_option maxHeartbeats 4000000 in
theorem N_X5_passes_150 {p : Program} {l : Launch} {e : Env} {s : State} {m : MethodId} {args : Array Value} {below : List Frame} {meth : Method} {c : Code} {D : cD} {Φ : cG} {x0 : Nat}    {σ : cS} {ls : Array Slot} {r : Int32} (X : cX p s m args meth c cX5_passes 6 (some .boolean) RX5 D Φ) (hP : cP D Φ σ s.heap) (hS : va_S (cReg Φ) s.heap s.heap [])  (hl : lv_has ls 6 []) (h : f_X5_passes_150  x0  σ = some r) : cWr p l e 0 0 s m args below meth c (some (.int r)) (F0 m 150 ls []) := by
  have hx := X.1
  have hb := X.2.1
  have hown := X.2.2.2.1
  have hts := X.2.2.2.2.1
  have h : (f_X5_passes_151 x0 ((0:Int32)) σ) = some r := h
  refine lv_iconst (v := (0:Int32)) hx hb dX5_passes_150 (by decide) ?_
  exact N_X5_passes_151 X hP hS (lv_sub hl [] rfl) h
set_option maxRecDepth 20000 in
set_option maxHeartbeats 4000000 in
theorem N_X5_passes_45 {p : Program} {l : Launch} {e : Env} {s : State} {m : MethodId} {args : Array Value} {below : List Frame} {meth : Method} {c : Code} {D : cD} {Φ : cG} {x0 : Nat}   {y0 : Int32} {σ : cS} {ls : Array Slot} {r : Int32} (X : cX p s m args meth c cX5_passes 6 (some .boolean) RX5 D Φ) (hP : cP D Φ σ s.heap) (hS : va_S (cReg Φ) s.heap s.heap [])  (hl : lv_has ls 6 []) (h : f_X5_passes_45  x0 y0 σ = some r) : cWr p l e 0 0 s m args below meth c (some (.int r)) (F0 m 45 ls [.int y0]) := by
  have hx := X.1
  have hb := X.2.1
  have hown := X.2.2.2.1
  have hts := X.2.2.2.2.1
  have h : (rz y0) = some r := h
  obtain ⟨hz, rfl⟩ := rz_spec h
  exact c_rz X hz dX5_passes_45
set_option maxRecDepth 20000 in
set_option maxHeartbeats 4000000 in
theorem N_X5_passes_62 {p : Program} {l : Launch} {e : Env} {s : State} {m : MethodId} {args : Array Value} {below : List Frame} {meth : Method} {c : Code} {D : cD} {Φ : cG} {x0 : Nat}   {y0 : Int32} {σ : cS} {ls : Array Slot} {r : Int32} (X : cX p s m args meth c cX5_passes 6 (some .boolean) RX5 D Φ) (hP : cP D Φ σ s.heap) (hS : va_S (cReg Φ) s.heap s.heap [])  (hl : lv_has ls 6 []) (h : f_X5_passes_62  x0 y0 σ = some r) : cWr p l e 0 0 s m args below meth c (some (.int r)) (F0 m 62 ls [.int y0]) := by
  have hx := X.1
  have hb := X.2.1
  have hown := X.2.2.2.1
  have hts := X.2.2.2.2.1
  have h : (rz y0) = some r := h
  obtain ⟨hz, rfl⟩ := rz_spec h
  exact c_rz X hz dX5_passes_62
set_option maxRecDepth 20000 in
set_option maxHeartbeats 4000000 in
theorem N_X5_passes_79 {p : Program} {l : Launch} {e : Env} {s : State} {m : MethodId} {args : Array Value} {below : List Frame} {meth : Method} {c : Code} {D : cD} {Φ : cG} {x0 : Nat}   {y0 : Int32} {σ : cS} {ls : Array Slot} {r : Int32} (X : cX p s m args meth c cX5_passes 6 (some .boolean) RX5 D Φ) (hP : cP D Φ σ s.heap) (hS : va_S (cReg Φ) s.heap s.heap [])  (hl : lv_has ls 6 []) (h : f_X5_passes_79  x0 y0 σ = some r) : cWr p l e 0 0 s m args below meth c (some (.int r)) (F0 m 79 ls [.int y0]) := by
  have hx := X.1
  have hb := X.2.1
  have hown := X.2.2.2.1
  have hts := X.2.2.2.2.1
  have h : (rz y0) = some r := h
  obtain ⟨hz, rfl⟩ := rz_spec h
  exact c_rz X hz dX5_passes_79
set_option maxRecDepth 20000 in
set_option maxHeartbeats 4000000 in
theorem N_X5_passes_105 {p : Program} {l : Launch} {e : Env} {s : State} {m : MethodId} {args : Array Value} {below : List Frame} {meth : Method} {c : Code} {D : cD} {Φ : cG} {x0 : Nat}   {y0 : Int32} {σ : cS} {ls : Array Slot} {r : Int32} (X : cX p s m args meth c cX5_passes 6 (some .boolean) RX5 D Φ) (hP : cP D Φ σ s.heap) (hS : va_S (cReg Φ) s.heap s.heap [])  (hl : lv_has ls 6 []) (h : f_X5_passes_105  x0 y0 σ = some r) : cWr p l e 0 0 s m args below meth c (some (.int r)) (F0 m 105 ls [.int y0]) := by
  have hx := X.1
  have hb := X.2.1
  have hown := X.2.2.2.1
  have hts := X.2.2.2.2.1
  have h : (rz y0) = some r := h
  obtain ⟨hz, rfl⟩ := rz_spec h
  exact c_rz X hz dX5_passes_105
set_option maxRecDepth 20000 in
set_option maxHeartbeats 4000000 in
theorem N_X5_passes_95 {p : Program} {l : Launch} {e : Env} {s : State} {m : MethodId} {args : Array Value} {below : List Frame} {meth : Method} {c : Code} {D : cD} {Φ : cG} {x0 : Nat}   {x4 : Int32} {y0 : Int32} {σ : cS} {ls : Array Slot} {r : Int32} (X : cX p s m args meth c cX5_passes 6 (some .boolean) RX5 D Φ) (hP : cP D Φ σ s.heap) (hS : va_S (cReg Φ) s.heap s.heap [])  (hl : lv_has ls 6 [(4, .int x4)]) (h : f_X5_passes_95  x0 x4 y0 σ = some r) : cWr p l e 0 0 s m args below meth c (some (.int r)) (F0 m 95 ls [.int y0]) := by
  have hx := X.1
  have hb := X.2.1
  have hown := X.2.2.2.1
  have hts := X.2.2.2.2.1
  have h : (if y0 = x4 then (f_X5_passes_105 x0 ((1:Int32)) σ) else (f_X5_passes_105 x0 ((0:Int32)) σ)) = some r := h
  refine lv_iload hx hb dX5_passes_95 (lv_at hl 0 rfl) ?_
  refine lv_icmp_ne (tgt := 104) hx hb dX5_passes_97 rfl (fun hc => ?_) (fun hc => ?_)
  · have h := ine hc h
    refine lv_iconst (v := (0:Int32)) hx hb dX5_passes_104 (by decide) ?_
    exact N_X5_passes_105 X hP hS (lv_sub hl [] rfl) h
  · have h := ip hc h
    refine lv_iconst (v := (1:Int32)) hx hb dX5_passes_100 (by decide) ?_
    refine lv_goto (tgt := 105) hx hb dX5_passes_101 rfl ?_
    exact N_X5_passes_105 X hP hS (lv_sub hl [] rfl) h
set_option maxRecDepth 20000 in
set_option maxHeartbeats 4000000 in
theorem K_X5_passes (l : Launch) (D : cD) (Φ : cG) (σ : cS) (x0 : Nat) (x1 : Option Nat) (x2 : Int32) (x3 : Int32) (x4 : Int32) {r : Int32} (h : f_X5_passes x0 x1 x2 x3 x4 σ = some r) : Met l yX5_passes (Cond.code yX5_passes cX5_passes 6 (some .boolean) :: BG) (rA 0 0 0 0) (cPc D Φ σ [cv Φ (some x0), cv Φ x1, .int x2, .int x3, .int x4]) (cQr (some (.int r))) 0 0 (fun _ => False) := by
  refine Met.ofW (cc := cX5_passes) (maxL := 6) (ret := (some .boolean)) (by decide) rfl ?_
  intro p e s m args below meth c s₁ B hml hv
  obtain ⟨rfl, hP, hK, hZ⟩ := hv
  have X : cX p s m [cv Φ (some x0), cv Φ x1, .int x2, .int x3, .int x4].toArray meth c cX5_passes 6 (some .boolean) RX5 D Φ := cX_of B hml hK hZ
  have hx := X.1
  have hb := X.2.1
  have hown := X.2.2.2.1
  have hts := X.2.2.2.2.1
  have hl := lv_entry [cv Φ (some x0), cv Φ x1, .int x2, .int x3, .int x4] (n := 6) (by simp only [lgs_r, lgs_i, lgs_l, lgs_0, List.length]; exact Nat.le_of_ble_eq_true rfl)
  rw [lg_entry_eq]
  generalize (lg_sl [cv Φ (some x0), cv Φ x1, .int x2, .int x3, .int x4] ++ List.replicate (6 - (lg_sl [cv Φ (some x0), cv Φ x1, .int x2, .int x3, .int x4]).length) Slot.unset).toArray = ls at hl ⊢
  simp only [lv_args_r, lv_args_i, lv_args_l, lv_args_0] at hl
  have hl : lv_has ls 6 [(0, cv Φ (some x0)), (1, cv Φ x1), (2, .int x2), (3, .int x3), (4, .int x4)] := hl
  have hS : va_S (cReg Φ) s.heap s.heap [] := va_S.rf
  show cWr p l e 0 0 s m [cv Φ (some x0), cv Φ x1, .int x2, .int x3, .int x4].toArray below meth c (some (.int r)) (F0 m 0 ls [])
  have h : (if x2 = (0:Int32) then ((gI σ x1 3 1).bind (fun v1 => if v1 = x3 then (f_X5_passes_45 x0 ((1:Int32)) σ) else (f_X5_passes_45 x0 ((0:Int32)) σ))) else (if x2 = (1:Int32) then ((gI σ x1 3 2).bind (fun v2 => if ((v2 >>> (x3 &&& 31)) &&& (1:Int32)) = (0:Int32) then (f_X5_passes_62 x0 ((0:Int32)) σ) else (f_X5_passes_62 x0 ((1:Int32)) σ))) else (if x2 = (2:Int32) then ((gI σ x1 3 3).bind (fun v3 => if ((v3 >>> (x3 &&& 31)) &&& (1:Int32)) = (0:Int32) then (f_X5_passes_79 x0 ((0:Int32)) σ) else (f_X5_passes_79 x0 ((1:Int32)) σ))) else (if x2 = (3:Int32) then (if x3 = (0:Int32) then ((gI σ x1 3 4).bind (fun v5 => f_X5_passes_95 x0 (x4) (v5) σ)) else ((gI σ x1 3 5).bind (fun v4 => f_X5_passes_95 x0 (x4) (v4) σ))) else ((gI σ x1 3 14).bind (fun v6 => if x3 = (0:Int32) then (if (v6 - x4) = (0:Int32) then (f_X5_passes_151 x0 ((1:Int32)) σ) else (f_X5_passes_151 x0 ((0:Int32)) σ)) else ((rm (v6 - x4) x3).bind (fun v7 => if v7 = (0:Int32) then ((dv (v6 - x4) x3).bind (fun v8 => if v8 < (0:Int32) then (f_X5_passes_150 x0 σ) else (f_X5_passes_151 x0 ((1:Int32)) σ))) else (f_X5_passes_150 x0 σ))))))))) = some r := h
  refine lv_iload_n hx hb dX5_passes_0 rfl (lv_at hl 2 rfl) ?_
  by_cases hc0 : x2 = (0:Int32)
  · have h := ip hc0 h
    refine lv_tableIn (tgt := 32) (off := 31) hx hb dX5_passes_1 (by rw [hc0]; decide) (by rw [hc0]; decide) (by rw [hc0]; rfl) rfl ?_
    refine c_aload_n hx hb dX5_passes_32 rfl (lv_at hl 1 rfl) ?_
    obtain ⟨v1, hv1, h⟩ := ob h
    refine c_gI X hP hv1 (Nat.le_of_ble_eq_true rfl) (Nat.le_of_ble_eq_true rfl) rfl w_230 dX5_passes_33 ?_
    refine lv_iload_n hx hb dX5_passes_36 rfl (lv_at hl 3 rfl) ?_
    refine lv_icmp_ne (tgt := 44) hx hb dX5_passes_37 rfl (fun hc => ?_) (fun hc => ?_)
    · have h := ine hc h
      refine lv_iconst (v := (0:Int32)) hx hb dX5_passes_44 (by decide) ?_
      exact N_X5_passes_45 X hP hS (lv_sub hl [] rfl) h
    · have h := ip hc h
      refine lv_iconst (v := (1:Int32)) hx hb dX5_passes_40 (by decide) ?_
      refine lv_goto (tgt := 45) hx hb dX5_passes_41 rfl ?_
      exact N_X5_passes_45 X hP hS (lv_sub hl [] rfl) h
  · have h := ine hc0 h
    by_cases hc1 : x2 = (1:Int32)
    · have h := ip hc1 h
      refine lv_tableIn (tgt := 46) (off := 45) hx hb dX5_passes_1 (by rw [hc1]; decide) (by rw [hc1]; decide) (by rw [hc1]; rfl) rfl ?_
      refine c_aload_n hx hb dX5_passes_46 rfl (lv_at hl 1 rfl) ?_
      obtain ⟨v2, hv2, h⟩ := ob h
      refine c_gI X hP hv2 (Nat.le_of_ble_eq_true rfl) (Nat.le_of_ble_eq_true rfl) rfl w_234 dX5_passes_47 ?_
      refine lv_iload_n hx hb dX5_passes_50 rfl (lv_at hl 3 rfl) ?_
      refine lv_ishr hx hb dX5_passes_51 ?_
      refine lv_iconst (v := (1:Int32)) hx hb dX5_passes_52 (by decide) ?_
      refine lv_iand hx hb dX5_passes_53 ?_
      refine lv_if_eq (tgt := 61) hx hb dX5_passes_54 rfl (fun hc => ?_) (fun hc => ?_)
      · have h := ip hc h
        refine lv_iconst (v := (0:Int32)) hx hb dX5_passes_61 (by decide) ?_
        exact N_X5_passes_62 X hP hS (lv_sub hl [] rfl) h
      · have h := ine hc h
        refine lv_iconst (v := (1:Int32)) hx hb dX5_passes_57 (by decide) ?_
        refine lv_goto (tgt := 62) hx hb dX5_passes_58 rfl ?_
        exact N_X5_passes_62 X hP hS (lv_sub hl [] rfl) h
    · have h := ine hc1 h
      by_cases hc2 : x2 = (2:Int32)
      · have h := ip hc2 h
        refine lv_tableIn (tgt := 63) (off := 62) hx hb dX5_passes_1 (by rw [hc2]; decide) (by rw [hc2]; decide) (by rw [hc2]; rfl) rfl ?_
        refine c_aload_n hx hb dX5_passes_63 rfl (lv_at hl 1 rfl) ?_
        obtain ⟨v3, hv3, h⟩ := ob h
        refine c_gI X hP hv3 (Nat.le_of_ble_eq_true rfl) (Nat.le_of_ble_eq_true rfl) rfl w_236 dX5_passes_64 ?_
        refine lv_iload_n hx hb dX5_passes_67 rfl (lv_at hl 3 rfl) ?_
        refine lv_ishr hx hb dX5_passes_68 ?_
        refine lv_iconst (v := (1:Int32)) hx hb dX5_passes_69 (by decide) ?_
        refine lv_iand hx hb dX5_passes_70 ?_
        refine lv_if_eq (tgt := 78) hx hb dX5_passes_71 rfl (fun hc => ?_) (fun hc => ?_)
        · have h := ip hc h
          refine lv_iconst (v := (0:Int32)) hx hb dX5_passes_78 (by decide) ?_
          exact N_X5_passes_79 X hP hS (lv_sub hl [] rfl) h
        · have h := ine hc h
          refine lv_iconst (v := (1:Int32)) hx hb dX5_passes_74 (by decide) ?_
          refine lv_goto (tgt := 79) hx hb dX5_passes_75 rfl ?_
          exact N_X5_passes_79 X hP hS (lv_sub hl [] rfl) h
      · have h := ine hc2 h
        by_cases hc3 : x2 = (3:Int32)
        · have h := ip hc3 h
          refine lv_tableIn (tgt := 80) (off := 79) hx hb dX5_passes_1 (by rw [hc3]; decide) (by rw [hc3]; decide) (by rw [hc3]; rfl) rfl ?_
          refine lv_iload_n hx hb dX5_passes_80 rfl (lv_at hl 3 rfl) ?_
          refine lv_if_ne (tgt := 91) hx hb dX5_passes_81 rfl (fun hc => ?_) (fun hc => ?_)
          · have h := ine hc h
            refine c_aload_n hx hb dX5_passes_91 rfl (lv_at hl 1 rfl) ?_
            obtain ⟨v4, hv4, h⟩ := ob h
            refine c_gI X hP hv4 (Nat.le_of_ble_eq_true rfl) (Nat.le_of_ble_eq_true rfl) rfl w_241 dX5_passes_92 ?_
            exact N_X5_passes_95 X hP hS (lv_sub hl [4] rfl) h
          · have h := ip hc h
            refine c_aload_n hx hb dX5_passes_84 rfl (lv_at hl 1 rfl) ?_
            obtain ⟨v5, hv5, h⟩ := ob h
            refine c_gI X hP hv5 (Nat.le_of_ble_eq_true rfl) (Nat.le_of_ble_eq_true rfl) rfl w_238 dX5_passes_85 ?_
            refine lv_goto (tgt := 95) hx hb dX5_passes_88 rfl ?_
            exact N_X5_passes_95 X hP hS (lv_sub hl [4] rfl) h
        · have h := ine hc3 h
          refine lv_tableOut (tgt := 106) hx hb dX5_passes_1 (sw_out (lo := 0) (hi := 3) (fun k h1 h2 => by
            have h3 : k = 0 ∨ k = 1 ∨ k = 2 ∨ k = 3 := by omega
            rcases h3 with rfl | rfl | rfl | rfl
            · exact hc0
            · exact hc1
            · exact hc2
            · exact hc3)) rfl ?_
          refine c_aload_n hx hb dX5_passes_106 rfl (lv_at hl 1 rfl) ?_
          obtain ⟨v6, hv6, h⟩ := ob h
          refine c_gI X hP hv6 (Nat.le_of_ble_eq_true rfl) (Nat.le_of_ble_eq_true rfl) rfl w_268 dX5_passes_107 ?_
          refine lv_iload hx hb dX5_passes_110 (lv_at hl 4 rfl) ?_
          refine lv_isub hx hb dX5_passes_112 ?_
          refine c_istore hx hb dX5_passes_113 hl (Nat.le_of_ble_eq_true rfl) (lvKa rfl (lvKa rfl (lvKa rfl (lvKa rfl (lvKi lvK0))))) rfl (fun ls (hl : lv_has ls 6 [(5, .int (v6 - x4)), (0, cv Φ (some x0)), (1, cv Φ x1), (2, .int x2), (3, .int x3), (4, .int x4)]) => ?_)
          refine lv_iload_n hx hb dX5_passes_115 rfl (lv_at hl 4 rfl) ?_
          refine lv_if_ne (tgt := 132) hx hb dX5_passes_116 rfl (fun hc => ?_) (fun hc => ?_)
          · have h := ine hc h
            refine lv_iload hx hb dX5_passes_132 (lv_at hl 0 rfl) ?_
            refine lv_iload_n hx hb dX5_passes_134 rfl (lv_at hl 4 rfl) ?_
            obtain ⟨v7, hv7, h⟩ := ob h
            obtain ⟨hnv7, hev7⟩ := rm_spec hv7
            refine lv_irem hx hb dX5_passes_135 hnv7 ?_
            rw [hev7]
            refine lv_if_ne (tgt := 150) hx hb dX5_passes_136 rfl (fun hc => ?_) (fun hc => ?_)
            · have h := ine hc h
              exact N_X5_passes_150 X hP hS (lv_sub hl [] rfl) h
            · have h := ip hc h
              refine lv_iload hx hb dX5_passes_139 (lv_at hl 0 rfl) ?_
              refine lv_iload_n hx hb dX5_passes_141 rfl (lv_at hl 4 rfl) ?_
              obtain ⟨v8, hv8, h⟩ := ob h
              obtain ⟨hnv8, hev8⟩ := dv_spec hv8
              refine lv_idiv hx hb dX5_passes_142 hnv8 ?_
              rw [hev8]
              refine lv_if_lt (tgt := 150) hx hb dX5_passes_143 rfl (fun hc => ?_) (fun hc => ?_)
              · have h := ip hc h
                exact N_X5_passes_150 X hP hS (lv_sub hl [] rfl) h
              · have h := ine hc h
                refine lv_iconst (v := (1:Int32)) hx hb dX5_passes_146 (by decide) ?_
                refine lv_goto (tgt := 151) hx hb dX5_passes_147 rfl ?_
                exact N_X5_passes_151 X hP hS (lv_sub hl [] rfl) h
          · have h := ip hc h
            refine lv_iload hx hb dX5_passes_119 (lv_at hl 0 rfl) ?_
            refine lv_if_ne (tgt := 128) hx hb dX5_passes_121 rfl (fun hc => ?_) (fun hc => ?_)
            · have h := ine hc h
              refine lv_iconst (v := (0:Int32)) hx hb dX5_passes_128 (by decide) ?_
              refine lv_goto (tgt := 151) hx hb dX5_passes_129 rfl ?_
              exact N_X5_passes_151 X hP hS (lv_sub hl [] rfl) h
            · have h := ip hc h
              refine lv_iconst (v := (1:Int32)) hx hb dX5_passes_124 (by decide) ?_
              refine lv_goto (tgt := 151) hx hb dX5_passes_125 rfl ?_
              exact N_X5_passes_151 X hP hS (lv_sub hl [] rfl) h
theorem ww_X5_passes : Cond.instanceMethod yX5_passes ∈ BG ∧ Cond.selects (yX5_passes).cls yX5_passes yX5_passes ∈ BG ∧ Cond.initialized (yX5_passes).cls ∈ BG ∧ Cond.code yX5_passes cX5_passes 6 (some .boolean) ∈ BG := ⟨w_952, w_23, w_61, w_953⟩
theorem hy_X5_passes : (yX5_passes).cls ≠ "java/lang/invoke/MethodHandle" ∧ (yX5_passes).cls ≠ "java/lang/invoke/VarHandle" ∧ (parseMethodDescriptor (yX5_passes).desc).map (fun d => d.parameters.length) = some 4 := ⟨by decide, by decide, by decide +kernel⟩
def f_X5_passing_67 (k6 : Int32 → Int32 → Int32 → Int32 → Int32 → Int32 → Option (Int32)) (x0 : Nat) (x1 : Int32) (x2 : Int32) (x3 : Int32) (x4 : Int32) (x5 : Int32) (x6 : Int32) (σ : cS) : Option (Int32) := k6 (x1) (x2) (x3) (x4) (x5) ((x6 + (1:Int32)))
def f_X5_passing_6  (x0 : Nat) : Nat → Int32 → Int32 → Int32 → Int32 → Int32 → Int32 → cS → Option (Int32)
  | 0, _, _, _, _, _, _, _ => none
  | n + 1, x1, x2, x3, x4, x5, x6, σ => (gR σ (some x0) 5 0).bind (fun v1 => (gI σ v1 10 1).bind (fun v2 => if v2 ≤ x6 then (some x5) else ((gR σ (some x0) 5 0).bind (fun v3 => (rc σ v3 10).bind (fun v4 => (f_X10_at v4 (x6) σ).bind (fun v5 => if v5 = none then (f_X5_passing_67 (fun z0 z1 z2 z3 z4 z5 => f_X5_passing_6 x0 n z0 z1 z2 z3 z4 z5 σ) x0 (x1) (x2) (x3) (x4) (x5) (x6) σ) else (if ((x1 >>> (x6 &&& 31)) &&& (1:Int32)) = (0:Int32) then (f_X5_passing_67 (fun z0 z1 z2 z3 z4 z5 => f_X5_passing_6 x0 n z0 z1 z2 z3 z4 z5 σ) x0 (x1) (x2) (x3) (x4) (x5) (x6) σ) else ((rc σ (some x0) 5).bind (fun v6 => (f_X5_passes v6 (v5) (x2) (x3) (x4) σ).bind (fun v7 => if v7 = (0:Int32) then (f_X5_passing_67 (fun z0 z1 z2 z3 z4 z5 => f_X5_passing_6 x0 n z0 z1 z2 z3 z4 z5 σ) x0 (x1) (x2) (x3) (x4) ((x5 &&& (((1:Int32) <<< (x6 &&& 31)) ^^^ ((-1):Int32)))) (x6) σ) else (f_X5_passing_67 (fun z0 z1 z2 z3 z4 z5 => f_X5_passing_6 x0 n z0 z1 z2 z3 z4 z5 σ) x0 (x1) (x2) (x3) (x4) (x5) (x6) σ)))))))))))
def f_X5_passing (x0 : Nat) (x1 : Int32) (x2 : Int32) (x3 : Int32) (x4 : Int32) (σ : cS) : Option (Int32) := f_X5_passing_6 x0 4000 (x1) (x2) (x3) (x4) (x1) ((0:Int32)) σ
set_option maxRecDepth 20000 in
set_option maxHeartbeats 4000000 in
theorem N_X5_passing_67 {p : Program} {l : Launch} {e : Env} {s : State} {m : MethodId} {args : Array Value} {below : List Frame} {meth : Method} {c : Code} {D : cD} {Φ : cG} {x0 : Nat} {k6 : Int32 → Int32 → Int32 → Int32 → Int32 → Int32 → Option (Int32)}  {x1 : Int32} {x2 : Int32} {x3 : Int32} {x4 : Int32} {x5 : Int32} {x6 : Int32} {σ : cS} {ls : Array Slot} {r : Int32} (X : cX p s m args meth c cX5_passing 8 (some .int) RX5 D Φ) (hP : cP D Φ σ s.heap) (hS : va_S (cReg Φ) s.heap s.heap []) (hk6 : ∀ {x1 : Int32} {x2 : Int32} {x3 : Int32} {x4 : Int32} {x5 : Int32} {x6 : Int32} {ls : Array Slot}, lv_has ls 8 [(0, cv Φ (some x0)), (1, .int x1), (2, .int x2), (3, .int x3), (4, .int x4), (5, .int x5), (6, .int x6)] → k6 x1 x2 x3 x4 x5 x6 = some r → cWr p l e 1 25 s m args below meth c (some (.int r)) (F0 m 6 ls [])) (hl : lv_has ls 8 [(0, cv Φ (some x0)), (1, .int x1), (2, .int x2), (3, .int x3), (4, .int x4), (5, .int x5), (6, .int x6)]) (h : f_X5_passing_67 k6 x0 x1 x2 x3 x4 x5 x6 σ = some r) : cWr p l e 1 25 s m args below meth c (some (.int r)) (F0 m 67 ls []) := by
  have hx := X.1
  have hb := X.2.1
  have hown := X.2.2.2.1
  have hts := X.2.2.2.2.1
  have h : (k6 (x1) (x2) (x3) (x4) (x5) ((x6 + (1:Int32)))) = some r := h
  refine c_iinc (v := (x6 + (1:Int32))) hx hb dX5_passing_67 hl (k := 6) rfl rfl (Nat.le_of_ble_eq_true rfl) (lvKa rfl (lvKa rfl (lvKa rfl (lvKa rfl (lvKa rfl (lvKi (lvKa rfl lvK0))))))) rfl (fun ls (hl : lv_has ls 8 [(6, .int (x6 + (1:Int32))), (0, cv Φ (some x0)), (1, .int x1), (2, .int x2), (3, .int x3), (4, .int x4), (5, .int x5)]) => ?_)
  refine lv_goto (tgt := 6) hx hb dX5_passing_70 rfl ?_
  exact hk6 (lv_sub hl [1, 2, 3, 4, 5, 6, 0] rfl) h
set_option maxRecDepth 20000 in
set_option maxHeartbeats 4000000 in
theorem N_X5_passing_6 {p : Program} {l : Launch} {e : Env} {s : State} {m : MethodId} {args : Array Value} {below : List Frame} {meth : Method} {c : Code} {D : cD} {Φ : cG} {x0 : Nat}  {n : Nat} {x1 : Int32} {x2 : Int32} {x3 : Int32} {x4 : Int32} {x5 : Int32} {x6 : Int32} {σ : cS} {ls : Array Slot} {r : Int32} (X : cX p s m args meth c cX5_passing 8 (some .int) RX5 D Φ) (hP : cP D Φ σ s.heap) (hS : va_S (cReg Φ) s.heap s.heap [])  (hl : lv_has ls 8 [(0, cv Φ (some x0)), (1, .int x1), (2, .int x2), (3, .int x3), (4, .int x4), (5, .int x5), (6, .int x6)]) (h : f_X5_passing_6  x0 n x1 x2 x3 x4 x5 x6 σ = some r) : cWr p l e 1 25 s m args below meth c (some (.int r)) (F0 m 6 ls []) := by
  have hx := X.1
  have hb := X.2.1
  have hown := X.2.2.2.1
  have hts := X.2.2.2.2.1
  induction n generalizing x1 x2 x3 x4 x5 x6 ls with
  | zero => exact absurd (show none = some r from h) (by simp)
  | succ n ih =>
    have h : ((gR σ (some x0) 5 0).bind (fun v1 => (gI σ v1 10 1).bind (fun v2 => if v2 ≤ x6 then (some x5) else ((gR σ (some x0) 5 0).bind (fun v3 => (rc σ v3 10).bind (fun v4 => (f_X10_at v4 (x6) σ).bind (fun v5 => if v5 = none then (f_X5_passing_67 (fun z0 z1 z2 z3 z4 z5 => f_X5_passing_6 x0 n z0 z1 z2 z3 z4 z5 σ) x0 (x1) (x2) (x3) (x4) (x5) (x6) σ) else (if ((x1 >>> (x6 &&& 31)) &&& (1:Int32)) = (0:Int32) then (f_X5_passing_67 (fun z0 z1 z2 z3 z4 z5 => f_X5_passing_6 x0 n z0 z1 z2 z3 z4 z5 σ) x0 (x1) (x2) (x3) (x4) (x5) (x6) σ) else ((rc σ (some x0) 5).bind (fun v6 => (f_X5_passes v6 (v5) (x2) (x3) (x4) σ).bind (fun v7 => if v7 = (0:Int32) then (f_X5_passing_67 (fun z0 z1 z2 z3 z4 z5 => f_X5_passing_6 x0 n z0 z1 z2 z3 z4 z5 σ) x0 (x1) (x2) (x3) (x4) ((x5 &&& (((1:Int32) <<< (x6 &&& 31)) ^^^ ((-1):Int32)))) (x6) σ) else (f_X5_passing_67 (fun z0 z1 z2 z3 z4 z5 => f_X5_passing_6 x0 n z0 z1 z2 z3 z4 z5 σ) x0 (x1) (x2) (x3) (x4) (x5) (x6) σ)))))))))))) = some r := h
    refine lv_iload hx hb dX5_passing_6 (lv_at hl 6 rfl) ?_
    refine c_aload_n hx hb dX5_passing_8 rfl (lv_at hl 0 rfl) ?_
    obtain ⟨v1, hv1, h⟩ := ob h
    refine c_gR X hP hv1 (Nat.le_of_ble_eq_true rfl) (Nat.le_of_ble_eq_true rfl) rfl w_464 dX5_passing_9 ?_
    obtain ⟨v2, hv2, h⟩ := ob h
    refine c_gI X hP hv2 (Nat.le_of_ble_eq_true rfl) (Nat.le_of_ble_eq_true rfl) rfl w_330 dX5_passing_12 ?_
    refine lv_icmp_ge (tgt := 73) hx hb dX5_passing_15 rfl (fun hc => ?_) (fun hc => ?_)
    · have h := ip hc h
      refine lv_iload hx hb dX5_passing_73 (lv_at hl 5 rfl) ?_
      obtain rfl := sj h
      exact c_ri X dX5_passing_75
    · have h := ine hc h
      refine c_aload_n hx hb dX5_passing_18 rfl (lv_at hl 0 rfl) ?_
      obtain ⟨v3, hv3, h⟩ := ob h
      refine c_gR X hP hv3 (Nat.le_of_ble_eq_true rfl) (Nat.le_of_ble_eq_true rfl) rfl w_464 dX5_passing_19 ?_
      refine lv_iload hx hb dX5_passing_22 (lv_at hl 6 rfl) ?_
      obtain ⟨v4, hv4, h⟩ := ob h
      obtain ⟨v5, hv5, h⟩ := ob h
      refine c_cr (c_runV X (K_X10_at l D Φ σ v4 (x6) hv5) hv4 ⟨Nat.le_of_ble_eq_true rfl, by decide⟩ ⟨w_941, ww_X10_at⟩ rfl hy_X10_at rfl ⟨(Nat.le_of_ble_eq_true rfl), (Nat.le_of_ble_eq_true rfl)⟩ hP hS hl.1 (Nat.le_of_ble_eq_true rfl) dX5_passing_24 rfl ⟨(Nat.le_of_ble_eq_true rfl), (Nat.le_of_ble_eq_true rfl)⟩) ?_
      refine c_astore hx hb dX5_passing_27 hl (Nat.le_of_ble_eq_true rfl) (lvKa rfl (lvKa rfl (lvKa rfl (lvKa rfl (lvKa rfl (lvKa rfl (lvKi lvK0))))))) rfl (fun ls (hl : lv_has ls 8 [(7, cv Φ v5), (0, cv Φ (some x0)), (1, .int x1), (2, .int x2), (3, .int x3), (4, .int x4), (5, .int x5), (6, .int x6)]) => ?_)
      refine c_aload hx hb dX5_passing_29 (lv_at hl 0 rfl) ?_
      refine c_ifnull (Φ := Φ) (tgt := 67) hx hb dX5_passing_31 rfl (fun hc => ?_) (fun hc => ?_)
      · have h := ip hc h
        exact N_X5_passing_67 X hP hS ih (lv_sub hl [1, 2, 3, 4, 5, 6, 7] rfl) h
      · have h := ine hc h
        refine lv_iload_n hx hb dX5_passing_34 rfl (lv_at hl 2 rfl) ?_
        refine lv_iload hx hb dX5_passing_35 (lv_at hl 7 rfl) ?_
        refine lv_ishr hx hb dX5_passing_37 ?_
        refine lv_iconst (v := (1:Int32)) hx hb dX5_passing_38 (by decide) ?_
        refine lv_iand hx hb dX5_passing_39 ?_
        refine lv_if_eq (tgt := 67) hx hb dX5_passing_40 rfl (fun hc => ?_) (fun hc => ?_)
        · have h := ip hc h
          exact N_X5_passing_67 X hP hS ih (lv_sub hl [1, 2, 3, 4, 5, 6, 7] rfl) h
        · have h := ine hc h
          refine c_aload_n hx hb dX5_passing_43 rfl (lv_at hl 1 rfl) ?_
          refine c_aload hx hb dX5_passing_44 (lv_at hl 0 rfl) ?_
          refine lv_iload_n hx hb dX5_passing_46 rfl (lv_at hl 3 rfl) ?_
          refine lv_iload_n hx hb dX5_passing_47 rfl (lv_at hl 4 rfl) ?_
          refine lv_iload hx hb dX5_passing_48 (lv_at hl 5 rfl) ?_
          obtain ⟨v6, hv6, h⟩ := ob h
          obtain ⟨v7, hv7, h⟩ := ob h
          refine c_cr (c_runV X (K_X5_passes l D Φ σ v6 (v5) (x2) (x3) (x4) hv7) hv6 ⟨Nat.le_of_ble_eq_true rfl, by decide⟩ ⟨w_950, ww_X5_passes⟩ rfl hy_X5_passes rfl ⟨(Nat.le_of_ble_eq_true rfl), (Nat.le_of_ble_eq_true rfl)⟩ hP hS hl.1 (Nat.le_of_ble_eq_true rfl) dX5_passing_50 rfl ⟨(Nat.le_of_ble_eq_true rfl), (Nat.le_of_ble_eq_true rfl)⟩) ?_
          refine lv_if_ne (tgt := 67) hx hb dX5_passing_53 rfl (fun hc => ?_) (fun hc => ?_)
          · have h := ine hc h
            exact N_X5_passing_67 X hP hS ih (lv_sub hl [1, 2, 3, 4, 5, 6, 7] rfl) h
          · have h := ip hc h
            refine lv_iload hx hb dX5_passing_56 (lv_at hl 6 rfl) ?_
            refine lv_iconst (v := (1:Int32)) hx hb dX5_passing_58 (by decide) ?_
            refine lv_iload hx hb dX5_passing_59 (lv_at hl 7 rfl) ?_
            refine lv_ishl hx hb dX5_passing_61 ?_
            refine lv_iconst (v := ((-1):Int32)) hx hb dX5_passing_62 (by decide) ?_
            refine lv_ixor hx hb dX5_passing_63 ?_
            refine lv_iand hx hb dX5_passing_64 ?_
            refine c_istore hx hb dX5_passing_65 hl (Nat.le_of_ble_eq_true rfl) (lvKa rfl (lvKa rfl (lvKa rfl (lvKa rfl (lvKa rfl (lvKi (lvKa rfl (lvKa rfl lvK0)))))))) rfl (fun ls (hl : lv_has ls 8 [(5, .int (x5 &&& (((1:Int32) <<< (x6 &&& 31)) ^^^ ((-1):Int32)))), (7, cv Φ v5), (0, cv Φ (some x0)), (1, .int x1), (2, .int x2), (3, .int x3), (4, .int x4), (6, .int x6)]) => ?_)
            exact N_X5_passing_67 X hP hS ih (lv_sub hl [2, 3, 4, 5, 6, 0, 7] rfl) h
set_option maxRecDepth 20000 in
set_option maxHeartbeats 4000000 in
theorem K_X5_passing (l : Launch) (D : cD) (Φ : cG) (σ : cS) (x0 : Nat) (x1 : Int32) (x2 : Int32) (x3 : Int32) (x4 : Int32) {r : Int32} (h : f_X5_passing x0 x1 x2 x3 x4 σ = some r) : Met l yX5_passing (Cond.code yX5_passing cX5_passing 8 (some .int) :: BG) (rA 1 0 0 25) (cPc D Φ σ [cv Φ (some x0), .int x1, .int x2, .int x3, .int x4]) (cQr (some (.int r))) 0 0 (fun _ => False) := by
  refine Met.ofW (cc := cX5_passing) (maxL := 8) (ret := (some .int)) (by decide) rfl ?_
  intro p e s m args below meth c s₁ B hml hv
  obtain ⟨rfl, hP, hK, hZ⟩ := hv
  have X : cX p s m [cv Φ (some x0), .int x1, .int x2, .int x3, .int x4].toArray meth c cX5_passing 8 (some .int) RX5 D Φ := cX_of B hml hK hZ
  have hx := X.1
  have hb := X.2.1
  have hown := X.2.2.2.1
  have hts := X.2.2.2.2.1
  have hl := lv_entry [cv Φ (some x0), .int x1, .int x2, .int x3, .int x4] (n := 8) (by simp only [lgs_r, lgs_i, lgs_l, lgs_0, List.length]; exact Nat.le_of_ble_eq_true rfl)
  rw [lg_entry_eq]
  generalize (lg_sl [cv Φ (some x0), .int x1, .int x2, .int x3, .int x4] ++ List.replicate (8 - (lg_sl [cv Φ (some x0), .int x1, .int x2, .int x3, .int x4]).length) Slot.unset).toArray = ls at hl ⊢
  simp only [lv_args_r, lv_args_i, lv_args_l, lv_args_0] at hl
  have hl : lv_has ls 8 [(0, cv Φ (some x0)), (1, .int x1), (2, .int x2), (3, .int x3), (4, .int x4)] := hl
  have hS : va_S (cReg Φ) s.heap s.heap [] := va_S.rf
  show cWr p l e 1 25 s m [cv Φ (some x0), .int x1, .int x2, .int x3, .int x4].toArray below meth c (some (.int r)) (F0 m 0 ls [])
  have h : (f_X5_passing_6 x0 4000 (x1) (x2) (x3) (x4) (x1) ((0:Int32)) σ) = some r := h
  refine lv_iload_n hx hb dX5_passing_0 rfl (lv_at hl 1 rfl) ?_
  refine c_istore hx hb dX5_passing_1 hl (Nat.le_of_ble_eq_true rfl) (lvKa rfl (lvKa rfl (lvKa rfl (lvKa rfl (lvKi lvK0))))) rfl (fun ls (hl : lv_has ls 8 [(5, .int x1), (0, cv Φ (some x0)), (1, .int x1), (2, .int x2), (3, .int x3), (4, .int x4)]) => ?_)
  refine lv_iconst (v := (0:Int32)) hx hb dX5_passing_3 (by decide) ?_
  refine c_istore hx hb dX5_passing_4 hl (Nat.le_of_ble_eq_true rfl) (lvKi (lvKa rfl (lvKa rfl (lvKa rfl (lvKa rfl (lvKa rfl lvK0)))))) rfl (fun ls (hl : lv_has ls 8 [(6, .int (0:Int32)), (5, .int x1), (0, cv Φ (some x0)), (1, .int x1), (2, .int x2), (3, .int x3), (4, .int x4)]) => ?_)
  exact N_X5_passing_6 X hP hS (lv_sub hl [2, 3, 4, 5, 6, 1, 0] rfl) h
theorem ww_X5_passing : Cond.instanceMethod yX5_passing ∈ BG ∧ Cond.selects (yX5_passing).cls yX5_passing yX5_passing ∈ BG ∧ Cond.initialized (yX5_passing).cls ∈ BG ∧ Cond.code yX5_passing cX5_passing 8 (some .int) ∈ BG := ⟨w_948, w_22, w_61, w_949⟩
theorem hy_X5_passing : (yX5_passing).cls ≠ "java/lang/invoke/MethodHandle" ∧ (yX5_passing).cls ≠ "java/lang/invoke/VarHandle" ∧ (parseMethodDescriptor (yX5_passing).desc).map (fun d => d.parameters.length) = some 4 := ⟨by decide, by decide, by decide +kernel⟩
def f_X5_findFitting_194  (x0 : Nat) (x4 : Int32) (σ : cS) : Option (Int32) := some x4
def f_X5_findFitting_188 (k6 : Option Nat → Option Nat → Int32 → Int32 → Option (Int32)) (x0 : Nat) (x1 : Option Nat) (x3 : Option Nat) (x4 : Int32) (x5 : Int32) (σ : cS) : Option (Int32) := k6 (x1) (x3) (x4) ((x5 + (1:Int32)))
def f_X5_findFitting_102 (k6 : Option Nat → Option Nat → Int32 → Int32 → Option (Int32)) (x0 : Nat) (x1 : Option Nat) (x3 : Option Nat) (x5 : Int32) (y0 : Int32) (y1 : Int32) (σ : cS) : Option (Int32) := f_X5_findFitting_188 k6 x0 (x1) (x3) ((y0 &&& y1)) (x5) σ
def f_X5_findFitting_128 (k6 : Option Nat → Option Nat → Int32 → Int32 → Option (Int32)) (x0 : Nat) (x1 : Option Nat) (x3 : Option Nat) (x5 : Int32) (y0 : Int32) (y1 : Int32) (σ : cS) : Option (Int32) := f_X5_findFitting_188 k6 x0 (x1) (x3) ((y0 &&& y1)) (x5) σ
def f_X5_findFitting_160 (k6 : Option Nat → Option Nat → Int32 → Int32 → Option (Int32)) (x0 : Nat) (x1 : Option Nat) (x3 : Option Nat) (x5 : Int32) (y0 : Int32) (y1 : Int32) (σ : cS) : Option (Int32) := f_X5_findFitting_188 k6 x0 (x1) (x3) ((y0 &&& y1)) (x5) σ
def f_X5_findFitting_6  (x0 : Nat) : Nat → Option Nat → Option Nat → Int32 → Int32 → cS → Option (Int32)
  | 0, _, _, _, _, _ => none
  | n + 1, x1, x3, x4, x5, σ => (gI σ x1 2 4).bind (fun v1 => if v1 ≤ x5 then (f_X5_findFitting_194 x0 (x4) σ) else (if (4:Int32) ≤ x5 then (f_X5_findFitting_194 x0 (x4) σ) else ((gR σ x1 2 2).bind (fun v2 => (aI σ v2 x5).bind (fun v3 => (gR σ x1 2 3).bind (fun v4 => (aI σ v4 x5).bind (fun v5 => (gR σ x1 2 1).bind (fun v6 => (aI σ v6 x5).bind (fun v7 => if v7 = (5:Int32) then ((f_X11_isBelow (v3) ((30:Int32))).bind (fun v8 => if v8 = (0:Int32) then (f_X5_findFitting_102 (fun z0 z1 z2 z3 => f_X5_findFitting_6 x0 n z0 z1 z2 z3 σ) x0 (x1) (x3) (x5) (x4) ((0:Int32)) σ) else ((aI σ x3 v3).bind (fun v9 => f_X5_findFitting_102 (fun z0 z1 z2 z3 => f_X5_findFitting_6 x0 n z0 z1 z2 z3 σ) x0 (x1) (x3) (x5) (x4) ((v9 ^^^ ((-1):Int32))) σ)))) else (if v7 = (6:Int32) then ((f_X11_isBelow (v3) ((30:Int32))).bind (fun v10 => if v10 = (0:Int32) then (f_X5_findFitting_128 (fun z0 z1 z2 z3 => f_X5_findFitting_6 x0 n z0 z1 z2 z3 σ) x0 (x1) (x3) (x5) (x4) ((0:Int32)) σ) else ((aI σ x3 v3).bind (fun v11 => f_X5_findFitting_128 (fun z0 z1 z2 z3 => f_X5_findFitting_6 x0 n z0 z1 z2 z3 σ) x0 (x1) (x3) (x5) (x4) (v11) σ)))) else (if v7 = (7:Int32) then ((f_X11_isBelow (v5) ((30:Int32))).bind (fun v12 => if v12 = (0:Int32) then (f_X5_findFitting_160 (fun z0 z1 z2 z3 => f_X5_findFitting_6 x0 n z0 z1 z2 z3 σ) x0 (x1) (x3) (x5) (x4) ((0:Int32)) σ) else ((aI σ x3 v5).bind (fun v13 => (rc σ (some x0) 5).bind (fun v14 => (f_X5_origins v14 (v13) (v3) σ).bind (fun v15 => f_X5_findFitting_160 (fun z0 z1 z2 z3 => f_X5_findFitting_6 x0 n z0 z1 z2 z3 σ) x0 (x1) (x3) (x5) (x4) (v15) σ)))))) else (if v7 = (8:Int32) then (f_X5_findFitting_188 (fun z0 z1 z2 z3 => f_X5_findFitting_6 x0 n z0 z1 z2 z3 σ) x0 (x1) (x3) (x4) (x5) σ) else (if v7 = (9:Int32) then (f_X5_findFitting_188 (fun z0 z1 z2 z3 => f_X5_findFitting_6 x0 n z0 z1 z2 z3 σ) x0 (x1) (x3) (x4) (x5) σ) else ((gR σ x1 2 1).bind (fun v16 => (aI σ v16 x5).bind (fun v17 => (rc σ (some x0) 5).bind (fun v18 => (f_X5_passing v18 (x4) (v17) (v3) (v5) σ).bind (fun v19 => f_X5_findFitting_188 (fun z0 z1 z2 z3 => f_X5_findFitting_6 x0 n z0 z1 z2 z3 σ) x0 (x1) (x3) (v19) (x5) σ))))))))))))))))))
def f_X5_findFitting (x0 : Nat) (x1 : Option Nat) (x2 : Int32) (x3 : Option Nat) (σ : cS) : Option (Int32) := f_X5_findFitting_6 x0 4000 (x1) (x3) (x2) ((0:Int32)) σ
set_option maxRecDepth 20000 in
set_option maxHeartbeats 4000000 in
theorem N_X5_findFitting_194 {p : Program} {l : Launch} {e : Env} {s : State} {m : MethodId} {args : Array Value} {below : List Frame} {meth : Method} {c : Code} {D : cD} {Φ : cG} {x0 : Nat}   {x4 : Int32} {σ : cS} {ls : Array Slot} {r : Int32} (X : cX p s m args meth c cX5_findFitting 8 (some .int) RX5 D Φ) (hP : cP D Φ σ s.heap) (hS : va_S (cReg Φ) s.heap s.heap [])  (hl : lv_has ls 8 [(4, .int x4)]) (h : f_X5_findFitting_194  x0 x4 σ = some r) : cWr p l e 2 52 s m args below meth c (some (.int r)) (F0 m 194 ls []) := by
  have hx := X.1
  have hb := X.2.1
  have hown := X.2.2.2.1
  have hts := X.2.2.2.2.1
  have h : (some x4) = some r := h
  refine lv_iload hx hb dX5_findFitting_194 (lv_at hl 0 rfl) ?_
  obtain rfl := sj h
  exact c_ri X dX5_findFitting_196
set_option maxRecDepth 20000 in
set_option maxHeartbeats 4000000 in
theorem N_X5_findFitting_188 {p : Program} {l : Launch} {e : Env} {s : State} {m : MethodId} {args : Array Value} {below : List Frame} {meth : Method} {c : Code} {D : cD} {Φ : cG} {x0 : Nat} {k6 : Option Nat → Option Nat → Int32 → Int32 → Option (Int32)}  {x1 : Option Nat} {x3 : Option Nat} {x4 : Int32} {x5 : Int32} {σ : cS} {ls : Array Slot} {r : Int32} (X : cX p s m args meth c cX5_findFitting 8 (some .int) RX5 D Φ) (hP : cP D Φ σ s.heap) (hS : va_S (cReg Φ) s.heap s.heap []) (hk6 : ∀ {x1 : Option Nat} {x3 : Option Nat} {x4 : Int32} {x5 : Int32} {ls : Array Slot}, lv_has ls 8 [(0, cv Φ (some x0)), (1, cv Φ x1), (3, cv Φ x3), (4, .int x4), (5, .int x5)] → k6 x1 x3 x4 x5 = some r → cWr p l e 2 52 s m args below meth c (some (.int r)) (F0 m 6 ls [])) (hl : lv_has ls 8 [(0, cv Φ (some x0)), (1, cv Φ x1), (3, cv Φ x3), (4, .int x4), (5, .int x5)]) (h : f_X5_findFitting_188 k6 x0 x1 x3 x4 x5 σ = some r) : cWr p l e 2 52 s m args below meth c (some (.int r)) (F0 m 188 ls []) := by
  have hx := X.1
  have hb := X.2.1
  have hown := X.2.2.2.1
  have hts := X.2.2.2.2.1
  have h : (k6 (x1) (x3) (x4) ((x5 + (1:Int32)))) = some r := h
  refine c_iinc (v := (x5 + (1:Int32))) hx hb dX5_findFitting_188 hl (k := 4) rfl rfl (Nat.le_of_ble_eq_true rfl) (lvKa rfl (lvKa rfl (lvKa rfl (lvKi (lvKa rfl lvK0))))) rfl (fun ls (hl : lv_has ls 8 [(5, .int (x5 + (1:Int32))), (0, cv Φ (some x0)), (1, cv Φ x1), (3, cv Φ x3), (4, .int x4)]) => ?_)
  refine lv_goto (tgt := 6) hx hb dX5_findFitting_191 rfl ?_
  exact hk6 (lv_sub hl [1, 2, 3, 4, 0] rfl) h
set_option maxRecDepth 20000 in
set_option maxHeartbeats 4000000 in
theorem N_X5_findFitting_102 {p : Program} {l : Launch} {e : Env} {s : State} {m : MethodId} {args : Array Value} {below : List Frame} {meth : Method} {c : Code} {D : cD} {Φ : cG} {x0 : Nat} {k6 : Option Nat → Option Nat → Int32 → Int32 → Option (Int32)}  {x1 : Option Nat} {x3 : Option Nat} {x5 : Int32} {y0 : Int32} {y1 : Int32} {σ : cS} {ls : Array Slot} {r : Int32} (X : cX p s m args meth c cX5_findFitting 8 (some .int) RX5 D Φ) (hP : cP D Φ σ s.heap) (hS : va_S (cReg Φ) s.heap s.heap []) (hk6 : ∀ {x1 : Option Nat} {x3 : Option Nat} {x4 : Int32} {x5 : Int32} {ls : Array Slot}, lv_has ls 8 [(0, cv Φ (some x0)), (1, cv Φ x1), (3, cv Φ x3), (4, .int x4), (5, .int x5)] → k6 x1 x3 x4 x5 = some r → cWr p l e 2 52 s m args below meth c (some (.int r)) (F0 m 6 ls [])) (hl : lv_has ls 8 [(0, cv Φ (some x0)), (1, cv Φ x1), (3, cv Φ x3), (5, .int x5)]) (h : f_X5_findFitting_102 k6 x0 x1 x3 x5 y0 y1 σ = some r) : cWr p l e 2 52 s m args below meth c (some (.int r)) (F0 m 102 ls [.int y1, .int y0]) := by
  have hx := X.1
  have hb := X.2.1
  have hown := X.2.2.2.1
  have hts := X.2.2.2.2.1
  have h : (f_X5_findFitting_188 k6 x0 (x1) (x3) ((y0 &&& y1)) (x5) σ) = some r := h
  refine lv_iand hx hb dX5_findFitting_102 ?_
  refine c_istore hx hb dX5_findFitting_103 hl (Nat.le_of_ble_eq_true rfl) (lvKa rfl (lvKa rfl (lvKr (lvKa rfl lvK0)))) rfl (fun ls (hl : lv_has ls 8 [(4, .int (y0 &&& y1)), (0, cv Φ (some x0)), (1, cv Φ x1), (3, cv Φ x3), (5, .int x5)]) => ?_)
  refine lv_goto (tgt := 188) hx hb dX5_findFitting_105 rfl ?_
  exact N_X5_findFitting_188 X hP hS hk6 (lv_sub hl [1, 2, 3, 0, 4] rfl) h
set_option maxRecDepth 20000 in
set_option maxHeartbeats 4000000 in
theorem N_X5_findFitting_128 {p : Program} {l : Launch} {e : Env} {s : State} {m : MethodId} {args : Array Value} {below : List Frame} {meth : Method} {c : Code} {D : cD} {Φ : cG} {x0 : Nat} {k6 : Option Nat → Option Nat → Int32 → Int32 → Option (Int32)}  {x1 : Option Nat} {x3 : Option Nat} {x5 : Int32} {y0 : Int32} {y1 : Int32} {σ : cS} {ls : Array Slot} {r : Int32} (X : cX p s m args meth c cX5_findFitting 8 (some .int) RX5 D Φ) (hP : cP D Φ σ s.heap) (hS : va_S (cReg Φ) s.heap s.heap []) (hk6 : ∀ {x1 : Option Nat} {x3 : Option Nat} {x4 : Int32} {x5 : Int32} {ls : Array Slot}, lv_has ls 8 [(0, cv Φ (some x0)), (1, cv Φ x1), (3, cv Φ x3), (4, .int x4), (5, .int x5)] → k6 x1 x3 x4 x5 = some r → cWr p l e 2 52 s m args below meth c (some (.int r)) (F0 m 6 ls [])) (hl : lv_has ls 8 [(0, cv Φ (some x0)), (1, cv Φ x1), (3, cv Φ x3), (5, .int x5)]) (h : f_X5_findFitting_128 k6 x0 x1 x3 x5 y0 y1 σ = some r) : cWr p l e 2 52 s m args below meth c (some (.int r)) (F0 m 128 ls [.int y1, .int y0]) := by
  have hx := X.1
  have hb := X.2.1
  have hown := X.2.2.2.1
  have hts := X.2.2.2.2.1
  have h : (f_X5_findFitting_188 k6 x0 (x1) (x3) ((y0 &&& y1)) (x5) σ) = some r := h
  refine lv_iand hx hb dX5_findFitting_128 ?_
  refine c_istore hx hb dX5_findFitting_129 hl (Nat.le_of_ble_eq_true rfl) (lvKa rfl (lvKa rfl (lvKr (lvKa rfl lvK0)))) rfl (fun ls (hl : lv_has ls 8 [(4, .int (y0 &&& y1)), (0, cv Φ (some x0)), (1, cv Φ x1), (3, cv Φ x3), (5, .int x5)]) => ?_)
  refine lv_goto (tgt := 188) hx hb dX5_findFitting_131 rfl ?_
  exact N_X5_findFitting_188 X hP hS hk6 (lv_sub hl [1, 2, 3, 0, 4] rfl) h
set_option maxRecDepth 20000 in
set_option maxHeartbeats 4000000 in
theorem N_X5_findFitting_160 {p : Program} {l : Launch} {e : Env} {s : State} {m : MethodId} {args : Array Value} {below : List Frame} {meth : Method} {c : Code} {D : cD} {Φ : cG} {x0 : Nat} {k6 : Option Nat → Option Nat → Int32 → Int32 → Option (Int32)}  {x1 : Option Nat} {x3 : Option Nat} {x5 : Int32} {y0 : Int32} {y1 : Int32} {σ : cS} {ls : Array Slot} {r : Int32} (X : cX p s m args meth c cX5_findFitting 8 (some .int) RX5 D Φ) (hP : cP D Φ σ s.heap) (hS : va_S (cReg Φ) s.heap s.heap []) (hk6 : ∀ {x1 : Option Nat} {x3 : Option Nat} {x4 : Int32} {x5 : Int32} {ls : Array Slot}, lv_has ls 8 [(0, cv Φ (some x0)), (1, cv Φ x1), (3, cv Φ x3), (4, .int x4), (5, .int x5)] → k6 x1 x3 x4 x5 = some r → cWr p l e 2 52 s m args below meth c (some (.int r)) (F0 m 6 ls [])) (hl : lv_has ls 8 [(0, cv Φ (some x0)), (1, cv Φ x1), (3, cv Φ x3), (5, .int x5)]) (h : f_X5_findFitting_160 k6 x0 x1 x3 x5 y0 y1 σ = some r) : cWr p l e 2 52 s m args below meth c (some (.int r)) (F0 m 160 ls [.int y1, .int y0]) := by
  have hx := X.1
  have hb := X.2.1
  have hown := X.2.2.2.1
  have hts := X.2.2.2.2.1
  have h : (f_X5_findFitting_188 k6 x0 (x1) (x3) ((y0 &&& y1)) (x5) σ) = some r := h
  refine lv_iand hx hb dX5_findFitting_160 ?_
  refine c_istore hx hb dX5_findFitting_161 hl (Nat.le_of_ble_eq_true rfl) (lvKa rfl (lvKa rfl (lvKr (lvKa rfl lvK0)))) rfl (fun ls (hl : lv_has ls 8 [(4, .int (y0 &&& y1)), (0, cv Φ (some x0)), (1, cv Φ x1), (3, cv Φ x3), (5, .int x5)]) => ?_)
  refine lv_goto (tgt := 188) hx hb dX5_findFitting_163 rfl ?_
  exact N_X5_findFitting_188 X hP hS hk6 (lv_sub hl [1, 2, 3, 0, 4] rfl) h
set_option maxRecDepth 20000 in
set_option maxHeartbeats 4000000 in
theorem N_X5_findFitting_6 {p : Program} {l : Launch} {e : Env} {s : State} {m : MethodId} {args : Array Value} {below : List Frame} {meth : Method} {c : Code} {D : cD} {Φ : cG} {x0 : Nat}  {n : Nat} {x1 : Option Nat} {x3 : Option Nat} {x4 : Int32} {x5 : Int32} {σ : cS} {ls : Array Slot} {r : Int32} (X : cX p s m args meth c cX5_findFitting 8 (some .int) RX5 D Φ) (hP : cP D Φ σ s.heap) (hS : va_S (cReg Φ) s.heap s.heap [])  (hl : lv_has ls 8 [(0, cv Φ (some x0)), (1, cv Φ x1), (3, cv Φ x3), (4, .int x4), (5, .int x5)]) (h : f_X5_findFitting_6  x0 n x1 x3 x4 x5 σ = some r) : cWr p l e 2 52 s m args below meth c (some (.int r)) (F0 m 6 ls []) := by
  have hx := X.1
  have hb := X.2.1
  have hown := X.2.2.2.1
  have hts := X.2.2.2.2.1
  induction n generalizing x1 x3 x4 x5 ls with
  | zero => exact absurd (show none = some r from h) (by simp)
  | succ n ih =>
    have h : ((gI σ x1 2 4).bind (fun v1 => if v1 ≤ x5 then (f_X5_findFitting_194 x0 (x4) σ) else (if (4:Int32) ≤ x5 then (f_X5_findFitting_194 x0 (x4) σ) else ((gR σ x1 2 2).bind (fun v2 => (aI σ v2 x5).bind (fun v3 => (gR σ x1 2 3).bind (fun v4 => (aI σ v4 x5).bind (fun v5 => (gR σ x1 2 1).bind (fun v6 => (aI σ v6 x5).bind (fun v7 => if v7 = (5:Int32) then ((f_X11_isBelow (v3) ((30:Int32))).bind (fun v8 => if v8 = (0:Int32) then (f_X5_findFitting_102 (fun z0 z1 z2 z3 => f_X5_findFitting_6 x0 n z0 z1 z2 z3 σ) x0 (x1) (x3) (x5) (x4) ((0:Int32)) σ) else ((aI σ x3 v3).bind (fun v9 => f_X5_findFitting_102 (fun z0 z1 z2 z3 => f_X5_findFitting_6 x0 n z0 z1 z2 z3 σ) x0 (x1) (x3) (x5) (x4) ((v9 ^^^ ((-1):Int32))) σ)))) else (if v7 = (6:Int32) then ((f_X11_isBelow (v3) ((30:Int32))).bind (fun v10 => if v10 = (0:Int32) then (f_X5_findFitting_128 (fun z0 z1 z2 z3 => f_X5_findFitting_6 x0 n z0 z1 z2 z3 σ) x0 (x1) (x3) (x5) (x4) ((0:Int32)) σ) else ((aI σ x3 v3).bind (fun v11 => f_X5_findFitting_128 (fun z0 z1 z2 z3 => f_X5_findFitting_6 x0 n z0 z1 z2 z3 σ) x0 (x1) (x3) (x5) (x4) (v11) σ)))) else (if v7 = (7:Int32) then ((f_X11_isBelow (v5) ((30:Int32))).bind (fun v12 => if v12 = (0:Int32) then (f_X5_findFitting_160 (fun z0 z1 z2 z3 => f_X5_findFitting_6 x0 n z0 z1 z2 z3 σ) x0 (x1) (x3) (x5) (x4) ((0:Int32)) σ) else ((aI σ x3 v5).bind (fun v13 => (rc σ (some x0) 5).bind (fun v14 => (f_X5_origins v14 (v13) (v3) σ).bind (fun v15 => f_X5_findFitting_160 (fun z0 z1 z2 z3 => f_X5_findFitting_6 x0 n z0 z1 z2 z3 σ) x0 (x1) (x3) (x5) (x4) (v15) σ)))))) else (if v7 = (8:Int32) then (f_X5_findFitting_188 (fun z0 z1 z2 z3 => f_X5_findFitting_6 x0 n z0 z1 z2 z3 σ) x0 (x1) (x3) (x4) (x5) σ) else (if v7 = (9:Int32) then (f_X5_findFitting_188 (fun z0 z1 z2 z3 => f_X5_findFitting_6 x0 n z0 z1 z2 z3 σ) x0 (x1) (x3) (x4) (x5) σ) else ((gR σ x1 2 1).bind (fun v16 => (aI σ v16 x5).bind (fun v17 => (rc σ (some x0) 5).bind (fun v18 => (f_X5_passing v18 (x4) (v17) (v3) (v5) σ).bind (fun v19 => f_X5_findFitting_188 (fun z0 z1 z2 z3 => f_X5_findFitting_6 x0 n z0 z1 z2 z3 σ) x0 (x1) (x3) (v19) (x5) σ))))))))))))))))))) = some r := h
    refine lv_iload hx hb dX5_findFitting_6 (lv_at hl 4 rfl) ?_
    refine c_aload_n hx hb dX5_findFitting_8 rfl (lv_at hl 1 rfl) ?_
    obtain ⟨v1, hv1, h⟩ := ob h
    refine c_gI X hP hv1 (Nat.le_of_ble_eq_true rfl) (Nat.le_of_ble_eq_true rfl) rfl w_379 dX5_findFitting_9 ?_
    refine lv_icmp_ge (tgt := 194) hx hb dX5_findFitting_12 rfl (fun hc => ?_) (fun hc => ?_)
    · have h := ip hc h
      exact N_X5_findFitting_194 X hP hS (lv_sub hl [3] rfl) h
    · have h := ine hc h
      refine lv_iload hx hb dX5_findFitting_15 (lv_at hl 4 rfl) ?_
      refine lv_iconst (v := (4:Int32)) hx hb dX5_findFitting_17 (by decide) ?_
      refine lv_icmp_ge (tgt := 194) hx hb dX5_findFitting_18 rfl (fun hc => ?_) (fun hc => ?_)
      · have h := ip hc h
        exact N_X5_findFitting_194 X hP hS (lv_sub hl [3] rfl) h
      · have h := ine hc h
        refine c_aload_n hx hb dX5_findFitting_21 rfl (lv_at hl 1 rfl) ?_
        obtain ⟨v2, hv2, h⟩ := ob h
        refine c_gR X hP hv2 (Nat.le_of_ble_eq_true rfl) (Nat.le_of_ble_eq_true rfl) rfl w_374 dX5_findFitting_22 ?_
        refine lv_iload hx hb dX5_findFitting_25 (lv_at hl 4 rfl) ?_
        obtain ⟨v3, hv3, h⟩ := ob h
        refine c_ald X hP hv3 dX5_findFitting_27 ?_
        refine c_istore hx hb dX5_findFitting_28 hl (Nat.le_of_ble_eq_true rfl) (lvKa rfl (lvKa rfl (lvKa rfl (lvKa rfl (lvKi lvK0))))) rfl (fun ls (hl : lv_has ls 8 [(6, .int v3), (0, cv Φ (some x0)), (1, cv Φ x1), (3, cv Φ x3), (4, .int x4), (5, .int x5)]) => ?_)
        refine c_aload_n hx hb dX5_findFitting_30 rfl (lv_at hl 2 rfl) ?_
        obtain ⟨v4, hv4, h⟩ := ob h
        refine c_gR X hP hv4 (Nat.le_of_ble_eq_true rfl) (Nat.le_of_ble_eq_true rfl) rfl w_377 dX5_findFitting_31 ?_
        refine lv_iload hx hb dX5_findFitting_34 (lv_at hl 5 rfl) ?_
        obtain ⟨v5, hv5, h⟩ := ob h
        refine c_ald X hP hv5 dX5_findFitting_36 ?_
        refine c_istore hx hb dX5_findFitting_37 hl (Nat.le_of_ble_eq_true rfl) (lvKi (lvKa rfl (lvKa rfl (lvKa rfl (lvKa rfl (lvKa rfl lvK0)))))) rfl (fun ls (hl : lv_has ls 8 [(7, .int v5), (6, .int v3), (0, cv Φ (some x0)), (1, cv Φ x1), (3, cv Φ x3), (4, .int x4), (5, .int x5)]) => ?_)
        refine c_aload_n hx hb dX5_findFitting_39 rfl (lv_at hl 3 rfl) ?_
        obtain ⟨v6, hv6, h⟩ := ob h
        refine c_gR X hP hv6 (Nat.le_of_ble_eq_true rfl) (Nat.le_of_ble_eq_true rfl) rfl w_371 dX5_findFitting_40 ?_
        refine lv_iload hx hb dX5_findFitting_43 (lv_at hl 6 rfl) ?_
        obtain ⟨v7, hv7, h⟩ := ob h
        refine c_ald X hP hv7 dX5_findFitting_45 ?_
        by_cases hc0 : v7 = (5:Int32)
        · have h := ip hc0 h
          refine lv_tableIn (tgt := 80) (off := 34) hx hb dX5_findFitting_46 (by rw [hc0]; decide) (by rw [hc0]; decide) (by rw [hc0]; rfl) rfl ?_
          refine lv_iload hx hb dX5_findFitting_80 (lv_at hl 5 rfl) ?_
          refine lv_iload hx hb dX5_findFitting_82 (lv_at hl 1 rfl) ?_
          refine lv_bipush (v := (30:Int32)) hx hb dX5_findFitting_84 (by decide) ?_
          obtain ⟨v8, hv8, h⟩ := ob h
          refine c_cr (c_runSN X (K_X11_isBelow l D Φ σ (v3) ((30:Int32)) hv8) ⟨cn_4, ww_X11_isBelow⟩ hy_X11_isBelow rfl ⟨(Nat.le_of_ble_eq_true rfl), (Nat.le_of_ble_eq_true rfl)⟩ hP hS hl.1 (Nat.le_of_ble_eq_true rfl) dX5_findFitting_86 rfl ⟨(Nat.le_of_ble_eq_true rfl), (Nat.le_of_ble_eq_true rfl)⟩) ?_
          refine lv_if_eq (tgt := 101) hx hb dX5_findFitting_89 rfl (fun hc => ?_) (fun hc => ?_)
          · have h := ip hc h
            refine lv_iconst (v := (0:Int32)) hx hb dX5_findFitting_101 (by decide) ?_
            exact N_X5_findFitting_102 X hP hS ih (lv_sub hl [2, 3, 4, 6] rfl) h
          · have h := ine hc h
            refine c_aload_n hx hb dX5_findFitting_92 rfl (lv_at hl 4 rfl) ?_
            refine lv_iload hx hb dX5_findFitting_93 (lv_at hl 1 rfl) ?_
            obtain ⟨v9, hv9, h⟩ := ob h
            refine c_ald X hP hv9 dX5_findFitting_95 ?_
            refine lv_iconst (v := ((-1):Int32)) hx hb dX5_findFitting_96 (by decide) ?_
            refine lv_ixor hx hb dX5_findFitting_97 ?_
            refine lv_goto (tgt := 102) hx hb dX5_findFitting_98 rfl ?_
            exact N_X5_findFitting_102 X hP hS ih (lv_sub hl [2, 3, 4, 6] rfl) h
        · have h := ine hc0 h
          by_cases hc1 : v7 = (6:Int32)
          · have h := ip hc1 h
            refine lv_tableIn (tgt := 108) (off := 62) hx hb dX5_findFitting_46 (by rw [hc1]; decide) (by rw [hc1]; decide) (by rw [hc1]; rfl) rfl ?_
            refine lv_iload hx hb dX5_findFitting_108 (lv_at hl 5 rfl) ?_
            refine lv_iload hx hb dX5_findFitting_110 (lv_at hl 1 rfl) ?_
            refine lv_bipush (v := (30:Int32)) hx hb dX5_findFitting_112 (by decide) ?_
            obtain ⟨v10, hv10, h⟩ := ob h
            refine c_cr (c_runSN X (K_X11_isBelow l D Φ σ (v3) ((30:Int32)) hv10) ⟨cn_4, ww_X11_isBelow⟩ hy_X11_isBelow rfl ⟨(Nat.le_of_ble_eq_true rfl), (Nat.le_of_ble_eq_true rfl)⟩ hP hS hl.1 (Nat.le_of_ble_eq_true rfl) dX5_findFitting_114 rfl ⟨(Nat.le_of_ble_eq_true rfl), (Nat.le_of_ble_eq_true rfl)⟩) ?_
            refine lv_if_eq (tgt := 127) hx hb dX5_findFitting_117 rfl (fun hc => ?_) (fun hc => ?_)
            · have h := ip hc h
              refine lv_iconst (v := (0:Int32)) hx hb dX5_findFitting_127 (by decide) ?_
              exact N_X5_findFitting_128 X hP hS ih (lv_sub hl [2, 3, 4, 6] rfl) h
            · have h := ine hc h
              refine c_aload_n hx hb dX5_findFitting_120 rfl (lv_at hl 4 rfl) ?_
              refine lv_iload hx hb dX5_findFitting_121 (lv_at hl 1 rfl) ?_
              obtain ⟨v11, hv11, h⟩ := ob h
              refine c_ald X hP hv11 dX5_findFitting_123 ?_
              refine lv_goto (tgt := 128) hx hb dX5_findFitting_124 rfl ?_
              exact N_X5_findFitting_128 X hP hS ih (lv_sub hl [2, 3, 4, 6] rfl) h
          · have h := ine hc1 h
            by_cases hc2 : v7 = (7:Int32)
            · have h := ip hc2 h
              refine lv_tableIn (tgt := 134) (off := 88) hx hb dX5_findFitting_46 (by rw [hc2]; decide) (by rw [hc2]; decide) (by rw [hc2]; rfl) rfl ?_
              refine lv_iload hx hb dX5_findFitting_134 (lv_at hl 5 rfl) ?_
              refine lv_iload hx hb dX5_findFitting_136 (lv_at hl 0 rfl) ?_
              refine lv_bipush (v := (30:Int32)) hx hb dX5_findFitting_138 (by decide) ?_
              obtain ⟨v12, hv12, h⟩ := ob h
              refine c_cr (c_runSN X (K_X11_isBelow l D Φ σ (v5) ((30:Int32)) hv12) ⟨cn_4, ww_X11_isBelow⟩ hy_X11_isBelow rfl ⟨(Nat.le_of_ble_eq_true rfl), (Nat.le_of_ble_eq_true rfl)⟩ hP hS hl.1 (Nat.le_of_ble_eq_true rfl) dX5_findFitting_140 rfl ⟨(Nat.le_of_ble_eq_true rfl), (Nat.le_of_ble_eq_true rfl)⟩) ?_
              refine lv_if_eq (tgt := 159) hx hb dX5_findFitting_143 rfl (fun hc => ?_) (fun hc => ?_)
              · have h := ip hc h
                refine lv_iconst (v := (0:Int32)) hx hb dX5_findFitting_159 (by decide) ?_
                exact N_X5_findFitting_160 X hP hS ih (lv_sub hl [2, 3, 4, 6] rfl) h
              · have h := ine hc h
                refine c_aload_n hx hb dX5_findFitting_146 rfl (lv_at hl 2 rfl) ?_
                refine c_aload_n hx hb dX5_findFitting_147 rfl (lv_at hl 4 rfl) ?_
                refine lv_iload hx hb dX5_findFitting_148 (lv_at hl 0 rfl) ?_
                obtain ⟨v13, hv13, h⟩ := ob h
                refine c_ald X hP hv13 dX5_findFitting_150 ?_
                refine lv_iload hx hb dX5_findFitting_151 (lv_at hl 1 rfl) ?_
                obtain ⟨v14, hv14, h⟩ := ob h
                obtain ⟨v15, hv15, h⟩ := ob h
                refine c_cr (c_runV X (K_X5_origins l D Φ σ v14 (v13) (v3) hv15) hv14 ⟨Nat.le_of_ble_eq_true rfl, by decide⟩ ⟨w_937, ww_X5_origins⟩ rfl hy_X5_origins rfl ⟨(Nat.le_of_ble_eq_true rfl), (Nat.le_of_ble_eq_true rfl)⟩ hP hS hl.1 (Nat.le_of_ble_eq_true rfl) dX5_findFitting_153 rfl ⟨(Nat.le_of_ble_eq_true rfl), (Nat.le_of_ble_eq_true rfl)⟩) ?_
                refine lv_goto (tgt := 160) hx hb dX5_findFitting_156 rfl ?_
                exact N_X5_findFitting_160 X hP hS ih (lv_sub hl [2, 3, 4, 6] rfl) h
            · have h := ine hc2 h
              by_cases hc3 : v7 = (8:Int32)
              · have h := ip hc3 h
                refine lv_tableIn (tgt := 166) (off := 120) hx hb dX5_findFitting_46 (by rw [hc3]; decide) (by rw [hc3]; decide) (by rw [hc3]; rfl) rfl ?_
                refine lv_goto (tgt := 188) hx hb dX5_findFitting_166 rfl ?_
                exact N_X5_findFitting_188 X hP hS ih (lv_sub hl [2, 3, 4, 5, 6] rfl) h
              · have h := ine hc3 h
                by_cases hc4 : v7 = (9:Int32)
                · have h := ip hc4 h
                  refine lv_tableIn (tgt := 166) (off := 120) hx hb dX5_findFitting_46 (by rw [hc4]; decide) (by rw [hc4]; decide) (by rw [hc4]; rfl) rfl ?_
                  refine lv_goto (tgt := 188) hx hb dX5_findFitting_166 rfl ?_
                  exact N_X5_findFitting_188 X hP hS ih (lv_sub hl [2, 3, 4, 5, 6] rfl) h
                · have h := ine hc4 h
                  refine lv_tableOut (tgt := 169) hx hb dX5_findFitting_46 (sw_out (lo := 5) (hi := 9) (fun k h1 h2 => by
                    have h3 : k = 5 ∨ k = 6 ∨ k = 7 ∨ k = 8 ∨ k = 9 := by omega
                    rcases h3 with rfl | rfl | rfl | rfl | rfl
                    · exact hc0
                    · exact hc1
                    · exact hc2
                    · exact hc3
                    · exact hc4)) rfl ?_
                  refine c_aload_n hx hb dX5_findFitting_169 rfl (lv_at hl 2 rfl) ?_
                  refine lv_iload hx hb dX5_findFitting_170 (lv_at hl 5 rfl) ?_
                  refine c_aload_n hx hb dX5_findFitting_172 rfl (lv_at hl 3 rfl) ?_
                  obtain ⟨v16, hv16, h⟩ := ob h
                  refine c_gR X hP hv16 (Nat.le_of_ble_eq_true rfl) (Nat.le_of_ble_eq_true rfl) rfl w_371 dX5_findFitting_173 ?_
                  refine lv_iload hx hb dX5_findFitting_176 (lv_at hl 6 rfl) ?_
                  obtain ⟨v17, hv17, h⟩ := ob h
                  refine c_ald X hP hv17 dX5_findFitting_178 ?_
                  refine lv_iload hx hb dX5_findFitting_179 (lv_at hl 1 rfl) ?_
                  refine lv_iload hx hb dX5_findFitting_181 (lv_at hl 0 rfl) ?_
                  obtain ⟨v18, hv18, h⟩ := ob h
                  obtain ⟨v19, hv19, h⟩ := ob h
                  refine c_cr (c_runV X (K_X5_passing l D Φ σ v18 (x4) (v17) (v3) (v5) hv19) hv18 ⟨Nat.le_of_ble_eq_true rfl, by decide⟩ ⟨w_946, ww_X5_passing⟩ rfl hy_X5_passing rfl ⟨(Nat.le_of_ble_eq_true rfl), (Nat.le_of_ble_eq_true rfl)⟩ hP hS hl.1 (Nat.le_of_ble_eq_true rfl) dX5_findFitting_183 rfl ⟨(Nat.le_of_ble_eq_true rfl), (Nat.le_of_ble_eq_true rfl)⟩) ?_
                  refine c_istore hx hb dX5_findFitting_186 hl (Nat.le_of_ble_eq_true rfl) (lvKa rfl (lvKa rfl (lvKa rfl (lvKa rfl (lvKr (lvKa rfl (lvKa rfl lvK0))))))) rfl (fun ls (hl : lv_has ls 8 [(4, .int v19), (7, .int v5), (6, .int v3), (0, cv Φ (some x0)), (1, cv Φ x1), (3, cv Φ x3), (5, .int x5)]) => ?_)
                  exact N_X5_findFitting_188 X hP hS ih (lv_sub hl [3, 4, 5, 0, 6] rfl) h
set_option maxRecDepth 20000 in
set_option maxHeartbeats 4000000 in
theorem K_X5_findFitting (l : Launch) (D : cD) (Φ : cG) (σ : cS) (x0 : Nat) (x1 : Option Nat) (x2 : Int32) (x3 : Option Nat) {r : Int32} (h : f_X5_findFitting x0 x1 x2 x3 σ = some r) : Met l yX5_findFitting (Cond.code yX5_findFitting cX5_findFitting 8 (some .int) :: BG) (rA 2 0 0 52) (cPc D Φ σ [cv Φ (some x0), cv Φ x1, .int x2, cv Φ x3]) (cQr (some (.int r))) 0 0 (fun _ => False) := by
  refine Met.ofW (cc := cX5_findFitting) (maxL := 8) (ret := (some .int)) (by decide) rfl ?_
  intro p e s m args below meth c s₁ B hml hv
  obtain ⟨rfl, hP, hK, hZ⟩ := hv
  have X : cX p s m [cv Φ (some x0), cv Φ x1, .int x2, cv Φ x3].toArray meth c cX5_findFitting 8 (some .int) RX5 D Φ := cX_of B hml hK hZ
  have hx := X.1
  have hb := X.2.1
  have hown := X.2.2.2.1
  have hts := X.2.2.2.2.1
  have hl := lv_entry [cv Φ (some x0), cv Φ x1, .int x2, cv Φ x3] (n := 8) (by simp only [lgs_r, lgs_i, lgs_l, lgs_0, List.length]; exact Nat.le_of_ble_eq_true rfl)
  rw [lg_entry_eq]
  generalize (lg_sl [cv Φ (some x0), cv Φ x1, .int x2, cv Φ x3] ++ List.replicate (8 - (lg_sl [cv Φ (some x0), cv Φ x1, .int x2, cv Φ x3]).length) Slot.unset).toArray = ls at hl ⊢
  simp only [lv_args_r, lv_args_i, lv_args_l, lv_args_0] at hl
  have hl : lv_has ls 8 [(0, cv Φ (some x0)), (1, cv Φ x1), (2, .int x2), (3, cv Φ x3)] := hl
  have hS : va_S (cReg Φ) s.heap s.heap [] := va_S.rf
  show cWr p l e 2 52 s m [cv Φ (some x0), cv Φ x1, .int x2, cv Φ x3].toArray below meth c (some (.int r)) (F0 m 0 ls [])
  have h : (f_X5_findFitting_6 x0 4000 (x1) (x3) (x2) ((0:Int32)) σ) = some r := h
  refine lv_iload_n hx hb dX5_findFitting_0 rfl (lv_at hl 2 rfl) ?_
  refine c_istore hx hb dX5_findFitting_1 hl (Nat.le_of_ble_eq_true rfl) (lvKa rfl (lvKa rfl (lvKa rfl (lvKr lvK0)))) rfl (fun ls (hl : lv_has ls 8 [(4, .int x2), (0, cv Φ (some x0)), (1, cv Φ x1), (2, .int x2), (3, cv Φ x3)]) => ?_)
  refine lv_iconst (v := (0:Int32)) hx hb dX5_findFitting_3 (by decide) ?_
  refine c_istore hx hb dX5_findFitting_4 hl (Nat.le_of_ble_eq_true rfl) (lvKi (lvKa rfl (lvKa rfl (lvKa rfl (lvKa rfl lvK0))))) rfl (fun ls (hl : lv_has ls 8 [(5, .int (0:Int32)), (4, .int x2), (0, cv Φ (some x0)), (1, cv Φ x1), (2, .int x2), (3, cv Φ x3)]) => ?_)
  exact N_X5_findFitting_6 X hP hS (lv_sub hl [2, 3, 5, 1, 0] rfl) h
theorem ww_X5_findFitting : Cond.instanceMethod yX5_findFitting ∈ BG ∧ Cond.selects (yX5_findFitting).cls yX5_findFitting yX5_findFitting ∈ BG ∧ Cond.initialized (yX5_findFitting).cls ∈ BG ∧ Cond.code yX5_findFitting cX5_findFitting 8 (some .int) ∈ BG := ⟨w_934, w_19, w_61, w_935⟩
theorem hy_X5_findFitting : (yX5_findFitting).cls ≠ "java/lang/invoke/MethodHandle" ∧ (yX5_findFitting).cls ≠ "java/lang/invoke/VarHandle" ∧ (parseMethodDescriptor (yX5_findFitting).desc).map (fun d => d.parameters.length) = some 3 := ⟨by decide, by decide, by decide +kernel⟩
def f_X5_reached_64 (k6 : Int32 → Int32 → Int32 → Int32 → Int32 → Option (Int32)) (x0 : Nat) (x1 : Int32) (x2 : Int32) (x3 : Int32) (x4 : Int32) (x5 : Int32) (σ : cS) : Option (Int32) := k6 (x1) (x2) (x3) (x4) ((x5 + (1:Int32)))
def f_X5_reached_6  (x0 : Nat) : Nat → Int32 → Int32 → Int32 → Int32 → Int32 → cS → Option (Int32)
  | 0, _, _, _, _, _, _ => none
  | n + 1, x1, x2, x3, x4, x5, σ => (gR σ (some x0) 5 0).bind (fun v1 => (gI σ v1 10 1).bind (fun v2 => if v2 ≤ x5 then (some x4) else ((gR σ (some x0) 5 0).bind (fun v3 => (rc σ v3 10).bind (fun v4 => (f_X10_at v4 (x5) σ).bind (fun v5 => if v5 = none then (f_X5_reached_64 (fun z0 z1 z2 z3 z4 => f_X5_reached_6 x0 n z0 z1 z2 z3 z4 σ) x0 (x1) (x2) (x3) (x4) (x5) σ) else (if ((x1 >>> (x5 &&& 31)) &&& (1:Int32)) = (0:Int32) then (f_X5_reached_64 (fun z0 z1 z2 z3 z4 => f_X5_reached_6 x0 n z0 z1 z2 z3 z4 σ) x0 (x1) (x2) (x3) (x4) (x5) σ) else ((rc σ (some x0) 5).bind (fun v6 => (f_X5_sources v6 (v5) (x2) σ).bind (fun v7 => if (v7 &&& x3) = (0:Int32) then (f_X5_reached_64 (fun z0 z1 z2 z3 z4 => f_X5_reached_6 x0 n z0 z1 z2 z3 z4 σ) x0 (x1) (x2) (x3) (x4) (x5) σ) else (f_X5_reached_64 (fun z0 z1 z2 z3 z4 => f_X5_reached_6 x0 n z0 z1 z2 z3 z4 σ) x0 (x1) (x2) (x3) ((x4 ||| ((1:Int32) <<< (x5 &&& 31)))) (x5) σ)))))))))))
def f_X5_reached (x0 : Nat) (x1 : Int32) (x2 : Int32) (x3 : Int32) (σ : cS) : Option (Int32) := f_X5_reached_6 x0 4000 (x1) (x2) (x3) ((0:Int32)) ((0:Int32)) σ
set_option maxRecDepth 20000 in
set_option maxHeartbeats 4000000 in
theorem N_X5_reached_64 {p : Program} {l : Launch} {e : Env} {s : State} {m : MethodId} {args : Array Value} {below : List Frame} {meth : Method} {c : Code} {D : cD} {Φ : cG} {x0 : Nat} {k6 : Int32 → Int32 → Int32 → Int32 → Int32 → Option (Int32)}  {x1 : Int32} {x2 : Int32} {x3 : Int32} {x4 : Int32} {x5 : Int32} {σ : cS} {ls : Array Slot} {r : Int32} (X : cX p s m args meth c cX5_reached 7 (some .int) RX5 D Φ) (hP : cP D Φ σ s.heap) (hS : va_S (cReg Φ) s.heap s.heap []) (hk6 : ∀ {x1 : Int32} {x2 : Int32} {x3 : Int32} {x4 : Int32} {x5 : Int32} {ls : Array Slot}, lv_has ls 7 [(0, cv Φ (some x0)), (1, .int x1), (2, .int x2), (3, .int x3), (4, .int x4), (5, .int x5)] → k6 x1 x2 x3 x4 x5 = some r → cWr p l e 1 27 s m args below meth c (some (.int r)) (F0 m 6 ls [])) (hl : lv_has ls 7 [(0, cv Φ (some x0)), (1, .int x1), (2, .int x2), (3, .int x3), (4, .int x4), (5, .int x5)]) (h : f_X5_reached_64 k6 x0 x1 x2 x3 x4 x5 σ = some r) : cWr p l e 1 27 s m args below meth c (some (.int r)) (F0 m 64 ls []) := by
  have hx := X.1
  have hb := X.2.1
  have hown := X.2.2.2.1
  have hts := X.2.2.2.2.1
  have h : (k6 (x1) (x2) (x3) (x4) ((x5 + (1:Int32)))) = some r := h
  refine c_iinc (v := (x5 + (1:Int32))) hx hb dX5_reached_64 hl (k := 5) rfl rfl (Nat.le_of_ble_eq_true rfl) (lvKa rfl (lvKa rfl (lvKa rfl (lvKa rfl (lvKi (lvKa rfl lvK0)))))) rfl (fun ls (hl : lv_has ls 7 [(5, .int (x5 + (1:Int32))), (0, cv Φ (some x0)), (1, .int x1), (2, .int x2), (3, .int x3), (4, .int x4)]) => ?_)
  refine lv_goto (tgt := 6) hx hb dX5_reached_67 rfl ?_
  exact hk6 (lv_sub hl [1, 2, 3, 4, 5, 0] rfl) h
set_option maxRecDepth 20000 in
set_option maxHeartbeats 4000000 in
theorem N_X5_reached_6 {p : Program} {l : Launch} {e : Env} {s : State} {m : MethodId} {args : Array Value} {below : List Frame} {meth : Method} {c : Code} {D : cD} {Φ : cG} {x0 : Nat}  {n : Nat} {x1 : Int32} {x2 : Int32} {x3 : Int32} {x4 : Int32} {x5 : Int32} {σ : cS} {ls : Array Slot} {r : Int32} (X : cX p s m args meth c cX5_reached 7 (some .int) RX5 D Φ) (hP : cP D Φ σ s.heap) (hS : va_S (cReg Φ) s.heap s.heap [])  (hl : lv_has ls 7 [(0, cv Φ (some x0)), (1, .int x1), (2, .int x2), (3, .int x3), (4, .int x4), (5, .int x5)]) (h : f_X5_reached_6  x0 n x1 x2 x3 x4 x5 σ = some r) : cWr p l e 1 27 s m args below meth c (some (.int r)) (F0 m 6 ls []) := by
  have hx := X.1
  have hb := X.2.1
  have hown := X.2.2.2.1
  have hts := X.2.2.2.2.1
  induction n generalizing x1 x2 x3 x4 x5 ls with
  | zero => exact absurd (show none = some r from h) (by simp)
  | succ n ih =>
    have h : ((gR σ (some x0) 5 0).bind (fun v1 => (gI σ v1 10 1).bind (fun v2 => if v2 ≤ x5 then (some x4) else ((gR σ (some x0) 5 0).bind (fun v3 => (rc σ v3 10).bind (fun v4 => (f_X10_at v4 (x5) σ).bind (fun v5 => if v5 = none then (f_X5_reached_64 (fun z0 z1 z2 z3 z4 => f_X5_reached_6 x0 n z0 z1 z2 z3 z4 σ) x0 (x1) (x2) (x3) (x4) (x5) σ) else (if ((x1 >>> (x5 &&& 31)) &&& (1:Int32)) = (0:Int32) then (f_X5_reached_64 (fun z0 z1 z2 z3 z4 => f_X5_reached_6 x0 n z0 z1 z2 z3 z4 σ) x0 (x1) (x2) (x3) (x4) (x5) σ) else ((rc σ (some x0) 5).bind (fun v6 => (f_X5_sources v6 (v5) (x2) σ).bind (fun v7 => if (v7 &&& x3) = (0:Int32) then (f_X5_reached_64 (fun z0 z1 z2 z3 z4 => f_X5_reached_6 x0 n z0 z1 z2 z3 z4 σ) x0 (x1) (x2) (x3) (x4) (x5) σ) else (f_X5_reached_64 (fun z0 z1 z2 z3 z4 => f_X5_reached_6 x0 n z0 z1 z2 z3 z4 σ) x0 (x1) (x2) (x3) ((x4 ||| ((1:Int32) <<< (x5 &&& 31)))) (x5) σ)))))))))))) = some r := h
    refine lv_iload hx hb dX5_reached_6 (lv_at hl 5 rfl) ?_
    refine c_aload_n hx hb dX5_reached_8 rfl (lv_at hl 0 rfl) ?_
    obtain ⟨v1, hv1, h⟩ := ob h
    refine c_gR X hP hv1 (Nat.le_of_ble_eq_true rfl) (Nat.le_of_ble_eq_true rfl) rfl w_464 dX5_reached_9 ?_
    obtain ⟨v2, hv2, h⟩ := ob h
    refine c_gI X hP hv2 (Nat.le_of_ble_eq_true rfl) (Nat.le_of_ble_eq_true rfl) rfl w_330 dX5_reached_12 ?_
    refine lv_icmp_ge (tgt := 70) hx hb dX5_reached_15 rfl (fun hc => ?_) (fun hc => ?_)
    · have h := ip hc h
      refine lv_iload hx hb dX5_reached_70 (lv_at hl 4 rfl) ?_
      obtain rfl := sj h
      exact c_ri X dX5_reached_72
    · have h := ine hc h
      refine c_aload_n hx hb dX5_reached_18 rfl (lv_at hl 0 rfl) ?_
      obtain ⟨v3, hv3, h⟩ := ob h
      refine c_gR X hP hv3 (Nat.le_of_ble_eq_true rfl) (Nat.le_of_ble_eq_true rfl) rfl w_464 dX5_reached_19 ?_
      refine lv_iload hx hb dX5_reached_22 (lv_at hl 5 rfl) ?_
      obtain ⟨v4, hv4, h⟩ := ob h
      obtain ⟨v5, hv5, h⟩ := ob h
      refine c_cr (c_runV X (K_X10_at l D Φ σ v4 (x5) hv5) hv4 ⟨Nat.le_of_ble_eq_true rfl, by decide⟩ ⟨w_941, ww_X10_at⟩ rfl hy_X10_at rfl ⟨(Nat.le_of_ble_eq_true rfl), (Nat.le_of_ble_eq_true rfl)⟩ hP hS hl.1 (Nat.le_of_ble_eq_true rfl) dX5_reached_24 rfl ⟨(Nat.le_of_ble_eq_true rfl), (Nat.le_of_ble_eq_true rfl)⟩) ?_
      refine c_astore hx hb dX5_reached_27 hl (Nat.le_of_ble_eq_true rfl) (lvKa rfl (lvKa rfl (lvKa rfl (lvKa rfl (lvKa rfl (lvKi lvK0)))))) rfl (fun ls (hl : lv_has ls 7 [(6, cv Φ v5), (0, cv Φ (some x0)), (1, .int x1), (2, .int x2), (3, .int x3), (4, .int x4), (5, .int x5)]) => ?_)
      refine c_aload hx hb dX5_reached_29 (lv_at hl 0 rfl) ?_
      refine c_ifnull (Φ := Φ) (tgt := 64) hx hb dX5_reached_31 rfl (fun hc => ?_) (fun hc => ?_)
      · have h := ip hc h
        exact N_X5_reached_64 X hP hS ih (lv_sub hl [1, 2, 3, 4, 5, 6] rfl) h
      · have h := ine hc h
        refine lv_iload_n hx hb dX5_reached_34 rfl (lv_at hl 2 rfl) ?_
        refine lv_iload hx hb dX5_reached_35 (lv_at hl 6 rfl) ?_
        refine lv_ishr hx hb dX5_reached_37 ?_
        refine lv_iconst (v := (1:Int32)) hx hb dX5_reached_38 (by decide) ?_
        refine lv_iand hx hb dX5_reached_39 ?_
        refine lv_if_eq (tgt := 64) hx hb dX5_reached_40 rfl (fun hc => ?_) (fun hc => ?_)
        · have h := ip hc h
          exact N_X5_reached_64 X hP hS ih (lv_sub hl [1, 2, 3, 4, 5, 6] rfl) h
        · have h := ine hc h
          refine c_aload_n hx hb dX5_reached_43 rfl (lv_at hl 1 rfl) ?_
          refine c_aload hx hb dX5_reached_44 (lv_at hl 0 rfl) ?_
          refine lv_iload_n hx hb dX5_reached_46 rfl (lv_at hl 3 rfl) ?_
          obtain ⟨v6, hv6, h⟩ := ob h
          obtain ⟨v7, hv7, h⟩ := ob h
          refine c_cr (c_runV X (K_X5_sources l D Φ σ v6 (v5) (x2) hv7) hv6 ⟨Nat.le_of_ble_eq_true rfl, by decide⟩ ⟨w_942, ww_X5_sources⟩ rfl hy_X5_sources rfl ⟨(Nat.le_of_ble_eq_true rfl), (Nat.le_of_ble_eq_true rfl)⟩ hP hS hl.1 (Nat.le_of_ble_eq_true rfl) dX5_reached_47 rfl ⟨(Nat.le_of_ble_eq_true rfl), (Nat.le_of_ble_eq_true rfl)⟩) ?_
          refine lv_iload_n hx hb dX5_reached_50 rfl (lv_at hl 4 rfl) ?_
          refine lv_iand hx hb dX5_reached_51 ?_
          refine lv_if_eq (tgt := 64) hx hb dX5_reached_52 rfl (fun hc => ?_) (fun hc => ?_)
          · have h := ip hc h
            exact N_X5_reached_64 X hP hS ih (lv_sub hl [1, 2, 3, 4, 5, 6] rfl) h
          · have h := ine hc h
            refine lv_iload hx hb dX5_reached_55 (lv_at hl 5 rfl) ?_
            refine lv_iconst (v := (1:Int32)) hx hb dX5_reached_57 (by decide) ?_
            refine lv_iload hx hb dX5_reached_58 (lv_at hl 6 rfl) ?_
            refine lv_ishl hx hb dX5_reached_60 ?_
            refine lv_ior hx hb dX5_reached_61 ?_
            refine c_istore hx hb dX5_reached_62 hl (Nat.le_of_ble_eq_true rfl) (lvKa rfl (lvKa rfl (lvKa rfl (lvKa rfl (lvKi (lvKa rfl (lvKa rfl lvK0))))))) rfl (fun ls (hl : lv_has ls 7 [(4, .int (x4 ||| ((1:Int32) <<< (x5 &&& 31)))), (6, cv Φ v5), (0, cv Φ (some x0)), (1, .int x1), (2, .int x2), (3, .int x3), (5, .int x5)]) => ?_)
            exact N_X5_reached_64 X hP hS ih (lv_sub hl [2, 3, 4, 5, 0, 6] rfl) h
set_option maxRecDepth 20000 in
set_option maxHeartbeats 4000000 in
theorem K_X5_reached (l : Launch) (D : cD) (Φ : cG) (σ : cS) (x0 : Nat) (x1 : Int32) (x2 : Int32) (x3 : Int32) {r : Int32} (h : f_X5_reached x0 x1 x2 x3 σ = some r) : Met l yX5_reached (Cond.code yX5_reached cX5_reached 7 (some .int) :: BG) (rA 1 0 0 27) (cPc D Φ σ [cv Φ (some x0), .int x1, .int x2, .int x3]) (cQr (some (.int r))) 0 0 (fun _ => False) := by
  refine Met.ofW (cc := cX5_reached) (maxL := 7) (ret := (some .int)) (by decide) rfl ?_
  intro p e s m args below meth c s₁ B hml hv
  obtain ⟨rfl, hP, hK, hZ⟩ := hv
  have X : cX p s m [cv Φ (some x0), .int x1, .int x2, .int x3].toArray meth c cX5_reached 7 (some .int) RX5 D Φ := cX_of B hml hK hZ
  have hx := X.1
  have hb := X.2.1
  have hown := X.2.2.2.1
  have hts := X.2.2.2.2.1
  have hl := lv_entry [cv Φ (some x0), .int x1, .int x2, .int x3] (n := 7) (by simp only [lgs_r, lgs_i, lgs_l, lgs_0, List.length]; exact Nat.le_of_ble_eq_true rfl)
  rw [lg_entry_eq]
  generalize (lg_sl [cv Φ (some x0), .int x1, .int x2, .int x3] ++ List.replicate (7 - (lg_sl [cv Φ (some x0), .int x1, .int x2, .int x3]).length) Slot.unset).toArray = ls at hl ⊢
  simp only [lv_args_r, lv_args_i, lv_args_l, lv_args_0] at hl
  have hl : lv_has ls 7 [(0, cv Φ (some x0)), (1, .int x1), (2, .int x2), (3, .int x3)] := hl
  have hS : va_S (cReg Φ) s.heap s.heap [] := va_S.rf
  show cWr p l e 1 27 s m [cv Φ (some x0), .int x1, .int x2, .int x3].toArray below meth c (some (.int r)) (F0 m 0 ls [])
  have h : (f_X5_reached_6 x0 4000 (x1) (x2) (x3) ((0:Int32)) ((0:Int32)) σ) = some r := h
  refine lv_iconst (v := (0:Int32)) hx hb dX5_reached_0 (by decide) ?_
  refine c_istore hx hb dX5_reached_1 hl (Nat.le_of_ble_eq_true rfl) (lvKa rfl (lvKa rfl (lvKa rfl (lvKi lvK0)))) rfl (fun ls (hl : lv_has ls 7 [(4, .int (0:Int32)), (0, cv Φ (some x0)), (1, .int x1), (2, .int x2), (3, .int x3)]) => ?_)
  refine lv_iconst (v := (0:Int32)) hx hb dX5_reached_3 (by decide) ?_
  refine c_istore hx hb dX5_reached_4 hl (Nat.le_of_ble_eq_true rfl) (lvKi (lvKa rfl (lvKa rfl (lvKa rfl (lvKa rfl lvK0))))) rfl (fun ls (hl : lv_has ls 7 [(5, .int (0:Int32)), (4, .int (0:Int32)), (0, cv Φ (some x0)), (1, .int x1), (2, .int x2), (3, .int x3)]) => ?_)
  exact N_X5_reached_6 X hP hS (lv_sub hl [2, 3, 4, 5, 1, 0] rfl) h
theorem ww_X5_reached : Cond.instanceMethod yX5_reached ∈ BG ∧ Cond.selects (yX5_reached).cls yX5_reached yX5_reached ∈ BG ∧ Cond.initialized (yX5_reached).cls ∈ BG ∧ Cond.code yX5_reached cX5_reached 7 (some .int) ∈ BG := ⟨w_956, w_24, w_61, w_957⟩
theorem hy_X5_reached : (yX5_reached).cls ≠ "java/lang/invoke/MethodHandle" ∧ (yX5_reached).cls ≠ "java/lang/invoke/VarHandle" ∧ (parseMethodDescriptor (yX5_reached).desc).map (fun d => d.parameters.length) = some 3 := ⟨by decide, by decide, by decide +kernel⟩
def f_X10_partsIn_66 (k5 : Int32 → Int32 → Int32 → Int32 → Option (Int32)) (x0 : Nat) (x1 : Int32) (x2 : Int32) (x3 : Int32) (x4 : Int32) (σ : cS) : Option (Int32) := k5 (x1) (x2) (x3) ((x4 + (1:Int32)))
def f_X10_partsIn_5  (x0 : Nat) : Nat → Int32 → Int32 → Int32 → Int32 → cS → Option (Int32)
  | 0, _, _, _, _, _ => none
  | n + 1, x1, x2, x3, x4, σ => (gI σ (some x0) 10 1).bind (fun v1 => if v1 ≤ x4 then (some x3) else ((rc σ (some x0) 10).bind (fun v2 => (f_X10_at v2 (x4) σ).bind (fun v3 => if v3 = none then (f_X10_partsIn_66 (fun z0 z1 z2 z3 => f_X10_partsIn_5 x0 n z0 z1 z2 z3 σ) x0 (x1) (x2) (x3) (x4) σ) else ((gI σ v3 3 6).bind (fun v4 => if v4 = x2 then ((gR σ v3 3 15).bind (fun v5 => if v5 = none then (f_X10_partsIn_66 (fun z0 z1 z2 z3 => f_X10_partsIn_5 x0 n z0 z1 z2 z3 σ) x0 (x1) (x2) (x3) (x4) σ) else ((gR σ v3 3 15).bind (fun v6 => (gI σ v6 3 0).bind (fun v7 => if ((x1 >>> (v7 &&& 31)) &&& (1:Int32)) = (0:Int32) then (f_X10_partsIn_66 (fun z0 z1 z2 z3 => f_X10_partsIn_5 x0 n z0 z1 z2 z3 σ) x0 (x1) (x2) (x3) (x4) σ) else (f_X10_partsIn_66 (fun z0 z1 z2 z3 => f_X10_partsIn_5 x0 n z0 z1 z2 z3 σ) x0 (x1) (x2) ((x3 ||| ((1:Int32) <<< (x4 &&& 31)))) (x4) σ)))))) else (f_X10_partsIn_66 (fun z0 z1 z2 z3 => f_X10_partsIn_5 x0 n z0 z1 z2 z3 σ) x0 (x1) (x2) (x3) (x4) σ)))))))
def f_X10_partsIn (x0 : Nat) (x1 : Int32) (x2 : Int32) (σ : cS) : Option (Int32) := f_X10_partsIn_5 x0 4000 (x1) (x2) ((0:Int32)) ((0:Int32)) σ
set_option maxRecDepth 20000 in
set_option maxHeartbeats 4000000 in
theorem N_X10_partsIn_66 {p : Program} {l : Launch} {e : Env} {s : State} {m : MethodId} {args : Array Value} {below : List Frame} {meth : Method} {c : Code} {D : cD} {Φ : cG} {x0 : Nat} {k5 : Int32 → Int32 → Int32 → Int32 → Option (Int32)}  {x1 : Int32} {x2 : Int32} {x3 : Int32} {x4 : Int32} {σ : cS} {ls : Array Slot} {r : Int32} (X : cX p s m args meth c cX10_partsIn 6 (some .int) RX10 D Φ) (hP : cP D Φ σ s.heap) (hS : va_S (cReg Φ) s.heap s.heap []) (hk5 : ∀ {x1 : Int32} {x2 : Int32} {x3 : Int32} {x4 : Int32} {ls : Array Slot}, lv_has ls 6 [(0, cv Φ (some x0)), (1, .int x1), (2, .int x2), (3, .int x3), (4, .int x4)] → k5 x1 x2 x3 x4 = some r → cWr p l e 1 21 s m args below meth c (some (.int r)) (F0 m 5 ls [])) (hl : lv_has ls 6 [(0, cv Φ (some x0)), (1, .int x1), (2, .int x2), (3, .int x3), (4, .int x4)]) (h : f_X10_partsIn_66 k5 x0 x1 x2 x3 x4 σ = some r) : cWr p l e 1 21 s m args below meth c (some (.int r)) (F0 m 66 ls []) := by
  have hx := X.1
  have hb := X.2.1
  have hown := X.2.2.2.1
  have hts := X.2.2.2.2.1
  have h : (k5 (x1) (x2) (x3) ((x4 + (1:Int32)))) = some r := h
  refine c_iinc (v := (x4 + (1:Int32))) hx hb dX10_partsIn_66 hl (k := 4) rfl rfl (Nat.le_of_ble_eq_true rfl) (lvKa rfl (lvKa rfl (lvKa rfl (lvKi (lvKa rfl lvK0))))) rfl (fun ls (hl : lv_has ls 6 [(4, .int (x4 + (1:Int32))), (0, cv Φ (some x0)), (1, .int x1), (2, .int x2), (3, .int x3)]) => ?_)
  refine lv_goto (tgt := 5) hx hb dX10_partsIn_69 rfl ?_
  exact hk5 (lv_sub hl [1, 2, 3, 4, 0] rfl) h
set_option maxRecDepth 20000 in
set_option maxHeartbeats 4000000 in
theorem N_X10_partsIn_5 {p : Program} {l : Launch} {e : Env} {s : State} {m : MethodId} {args : Array Value} {below : List Frame} {meth : Method} {c : Code} {D : cD} {Φ : cG} {x0 : Nat}  {n : Nat} {x1 : Int32} {x2 : Int32} {x3 : Int32} {x4 : Int32} {σ : cS} {ls : Array Slot} {r : Int32} (X : cX p s m args meth c cX10_partsIn 6 (some .int) RX10 D Φ) (hP : cP D Φ σ s.heap) (hS : va_S (cReg Φ) s.heap s.heap [])  (hl : lv_has ls 6 [(0, cv Φ (some x0)), (1, .int x1), (2, .int x2), (3, .int x3), (4, .int x4)]) (h : f_X10_partsIn_5  x0 n x1 x2 x3 x4 σ = some r) : cWr p l e 1 21 s m args below meth c (some (.int r)) (F0 m 5 ls []) := by
  have hx := X.1
  have hb := X.2.1
  have hown := X.2.2.2.1
  have hts := X.2.2.2.2.1
  induction n generalizing x1 x2 x3 x4 ls with
  | zero => exact absurd (show none = some r from h) (by simp)
  | succ n ih =>
    have h : ((gI σ (some x0) 10 1).bind (fun v1 => if v1 ≤ x4 then (some x3) else ((rc σ (some x0) 10).bind (fun v2 => (f_X10_at v2 (x4) σ).bind (fun v3 => if v3 = none then (f_X10_partsIn_66 (fun z0 z1 z2 z3 => f_X10_partsIn_5 x0 n z0 z1 z2 z3 σ) x0 (x1) (x2) (x3) (x4) σ) else ((gI σ v3 3 6).bind (fun v4 => if v4 = x2 then ((gR σ v3 3 15).bind (fun v5 => if v5 = none then (f_X10_partsIn_66 (fun z0 z1 z2 z3 => f_X10_partsIn_5 x0 n z0 z1 z2 z3 σ) x0 (x1) (x2) (x3) (x4) σ) else ((gR σ v3 3 15).bind (fun v6 => (gI σ v6 3 0).bind (fun v7 => if ((x1 >>> (v7 &&& 31)) &&& (1:Int32)) = (0:Int32) then (f_X10_partsIn_66 (fun z0 z1 z2 z3 => f_X10_partsIn_5 x0 n z0 z1 z2 z3 σ) x0 (x1) (x2) (x3) (x4) σ) else (f_X10_partsIn_66 (fun z0 z1 z2 z3 => f_X10_partsIn_5 x0 n z0 z1 z2 z3 σ) x0 (x1) (x2) ((x3 ||| ((1:Int32) <<< (x4 &&& 31)))) (x4) σ)))))) else (f_X10_partsIn_66 (fun z0 z1 z2 z3 => f_X10_partsIn_5 x0 n z0 z1 z2 z3 σ) x0 (x1) (x2) (x3) (x4) σ)))))))) = some r := h
    refine lv_iload hx hb dX10_partsIn_5 (lv_at hl 4 rfl) ?_
    refine c_aload_n hx hb dX10_partsIn_7 rfl (lv_at hl 0 rfl) ?_
    obtain ⟨v1, hv1, h⟩ := ob h
    refine c_gI X hP hv1 (Nat.le_of_ble_eq_true rfl) (Nat.le_of_ble_eq_true rfl) rfl w_328 dX10_partsIn_8 ?_
    refine lv_icmp_ge (tgt := 72) hx hb dX10_partsIn_11 rfl (fun hc => ?_) (fun hc => ?_)
    · have h := ip hc h
      refine lv_iload_n hx hb dX10_partsIn_72 rfl (lv_at hl 3 rfl) ?_
      obtain rfl := sj h
      exact c_ri X dX10_partsIn_73
    · have h := ine hc h
      refine c_aload_n hx hb dX10_partsIn_14 rfl (lv_at hl 0 rfl) ?_
      refine lv_iload hx hb dX10_partsIn_15 (lv_at hl 4 rfl) ?_
      obtain ⟨v2, hv2, h⟩ := ob h
      obtain ⟨v3, hv3, h⟩ := ob h
      refine c_cr (c_runV X (K_X10_at l D Φ σ v2 (x4) hv3) hv2 ⟨Nat.le_of_ble_eq_true rfl, by decide⟩ ⟨w_785, ww_X10_at⟩ rfl hy_X10_at rfl ⟨(Nat.le_of_ble_eq_true rfl), (Nat.le_of_ble_eq_true rfl)⟩ hP hS hl.1 (Nat.le_of_ble_eq_true rfl) dX10_partsIn_17 rfl ⟨(Nat.le_of_ble_eq_true rfl), (Nat.le_of_ble_eq_true rfl)⟩) ?_
      refine c_astore hx hb dX10_partsIn_20 hl (Nat.le_of_ble_eq_true rfl) (lvKa rfl (lvKa rfl (lvKa rfl (lvKa rfl (lvKi lvK0))))) rfl (fun ls (hl : lv_has ls 6 [(5, cv Φ v3), (0, cv Φ (some x0)), (1, .int x1), (2, .int x2), (3, .int x3), (4, .int x4)]) => ?_)
      refine c_aload hx hb dX10_partsIn_22 (lv_at hl 0 rfl) ?_
      refine c_ifnull (Φ := Φ) (tgt := 66) hx hb dX10_partsIn_24 rfl (fun hc => ?_) (fun hc => ?_)
      · have h := ip hc h
        exact N_X10_partsIn_66 X hP hS ih (lv_sub hl [1, 2, 3, 4, 5] rfl) h
      · have h := ine hc h
        refine c_aload hx hb dX10_partsIn_27 (lv_at hl 0 rfl) ?_
        obtain ⟨v4, hv4, h⟩ := ob h
        refine c_gI X hP hv4 (Nat.le_of_ble_eq_true rfl) (Nat.le_of_ble_eq_true rfl) rfl w_246 dX10_partsIn_29 ?_
        refine lv_iload_n hx hb dX10_partsIn_32 rfl (lv_at hl 3 rfl) ?_
        refine lv_icmp_ne (tgt := 66) hx hb dX10_partsIn_33 rfl (fun hc => ?_) (fun hc => ?_)
        · have h := ine hc h
          exact N_X10_partsIn_66 X hP hS ih (lv_sub hl [1, 2, 3, 4, 5] rfl) h
        · have h := ip hc h
          refine c_aload hx hb dX10_partsIn_36 (lv_at hl 0 rfl) ?_
          obtain ⟨v5, hv5, h⟩ := ob h
          refine c_gR X hP hv5 (Nat.le_of_ble_eq_true rfl) (Nat.le_of_ble_eq_true rfl) rfl w_271 dX10_partsIn_38 ?_
          refine c_ifnull (Φ := Φ) (tgt := 66) hx hb dX10_partsIn_41 rfl (fun hc => ?_) (fun hc => ?_)
          · have h := ip hc h
            exact N_X10_partsIn_66 X hP hS ih (lv_sub hl [1, 2, 3, 4, 5] rfl) h
          · have h := ine hc h
            refine lv_iload_n hx hb dX10_partsIn_44 rfl (lv_at hl 2 rfl) ?_
            refine c_aload hx hb dX10_partsIn_45 (lv_at hl 0 rfl) ?_
            obtain ⟨v6, hv6, h⟩ := ob h
            refine c_gR X hP hv6 (Nat.le_of_ble_eq_true rfl) (Nat.le_of_ble_eq_true rfl) rfl w_271 dX10_partsIn_47 ?_
            obtain ⟨v7, hv7, h⟩ := ob h
            refine c_gI X hP hv7 (Nat.le_of_ble_eq_true rfl) (Nat.le_of_ble_eq_true rfl) rfl w_225 dX10_partsIn_50 ?_
            refine lv_ishr hx hb dX10_partsIn_53 ?_
            refine lv_iconst (v := (1:Int32)) hx hb dX10_partsIn_54 (by decide) ?_
            refine lv_iand hx hb dX10_partsIn_55 ?_
            refine lv_if_eq (tgt := 66) hx hb dX10_partsIn_56 rfl (fun hc => ?_) (fun hc => ?_)
            · have h := ip hc h
              exact N_X10_partsIn_66 X hP hS ih (lv_sub hl [1, 2, 3, 4, 5] rfl) h
            · have h := ine hc h
              refine lv_iload_n hx hb dX10_partsIn_59 rfl (lv_at hl 4 rfl) ?_
              refine lv_iconst (v := (1:Int32)) hx hb dX10_partsIn_60 (by decide) ?_
              refine lv_iload hx hb dX10_partsIn_61 (lv_at hl 5 rfl) ?_
              refine lv_ishl hx hb dX10_partsIn_63 ?_
              refine lv_ior hx hb dX10_partsIn_64 ?_
              refine c_istore_n hx hb dX10_partsIn_65 rfl hl (Nat.le_of_ble_eq_true rfl) (lvKa rfl (lvKa rfl (lvKa rfl (lvKi (lvKa rfl (lvKa rfl lvK0)))))) rfl (fun ls (hl : lv_has ls 6 [(3, .int (x3 ||| ((1:Int32) <<< (x4 &&& 31)))), (5, cv Φ v3), (0, cv Φ (some x0)), (1, .int x1), (2, .int x2), (4, .int x4)]) => ?_)
              exact N_X10_partsIn_66 X hP hS ih (lv_sub hl [2, 3, 4, 0, 5] rfl) h
set_option maxRecDepth 20000 in
set_option maxHeartbeats 4000000 in
theorem K_X10_partsIn (l : Launch) (D : cD) (Φ : cG) (σ : cS) (x0 : Nat) (x1 : Int32) (x2 : Int32) {r : Int32} (h : f_X10_partsIn x0 x1 x2 σ = some r) : Met l yX10_partsIn (Cond.code yX10_partsIn cX10_partsIn 6 (some .int) :: BG) (rA 1 0 0 21) (cPc D Φ σ [cv Φ (some x0), .int x1, .int x2]) (cQr (some (.int r))) 0 0 (fun _ => False) := by
  refine Met.ofW (cc := cX10_partsIn) (maxL := 6) (ret := (some .int)) (by decide) rfl ?_
  intro p e s m args below meth c s₁ B hml hv
  obtain ⟨rfl, hP, hK, hZ⟩ := hv
  have X : cX p s m [cv Φ (some x0), .int x1, .int x2].toArray meth c cX10_partsIn 6 (some .int) RX10 D Φ := cX_of B hml hK hZ
  have hx := X.1
  have hb := X.2.1
  have hown := X.2.2.2.1
  have hts := X.2.2.2.2.1
  have hl := lv_entry [cv Φ (some x0), .int x1, .int x2] (n := 6) (by simp only [lgs_r, lgs_i, lgs_l, lgs_0, List.length]; exact Nat.le_of_ble_eq_true rfl)
  rw [lg_entry_eq]
  generalize (lg_sl [cv Φ (some x0), .int x1, .int x2] ++ List.replicate (6 - (lg_sl [cv Φ (some x0), .int x1, .int x2]).length) Slot.unset).toArray = ls at hl ⊢
  simp only [lv_args_r, lv_args_i, lv_args_l, lv_args_0] at hl
  have hl : lv_has ls 6 [(0, cv Φ (some x0)), (1, .int x1), (2, .int x2)] := hl
  have hS : va_S (cReg Φ) s.heap s.heap [] := va_S.rf
  show cWr p l e 1 21 s m [cv Φ (some x0), .int x1, .int x2].toArray below meth c (some (.int r)) (F0 m 0 ls [])
  have h : (f_X10_partsIn_5 x0 4000 (x1) (x2) ((0:Int32)) ((0:Int32)) σ) = some r := h
  refine lv_iconst (v := (0:Int32)) hx hb dX10_partsIn_0 (by decide) ?_
  refine c_istore_n hx hb dX10_partsIn_1 rfl hl (Nat.le_of_ble_eq_true rfl) (lvKa rfl (lvKa rfl (lvKi lvK0))) rfl (fun ls (hl : lv_has ls 6 [(3, .int (0:Int32)), (0, cv Φ (some x0)), (1, .int x1), (2, .int x2)]) => ?_)
  refine lv_iconst (v := (0:Int32)) hx hb dX10_partsIn_2 (by decide) ?_
  refine c_istore hx hb dX10_partsIn_3 hl (Nat.le_of_ble_eq_true rfl) (lvKi (lvKa rfl (lvKa rfl (lvKa rfl lvK0)))) rfl (fun ls (hl : lv_has ls 6 [(4, .int (0:Int32)), (3, .int (0:Int32)), (0, cv Φ (some x0)), (1, .int x1), (2, .int x2)]) => ?_)
  exact N_X10_partsIn_5 X hP hS (lv_sub hl [2, 3, 4, 1, 0] rfl) h
theorem ww_X10_partsIn : Cond.instanceMethod yX10_partsIn ∈ BG ∧ Cond.selects (yX10_partsIn).cls yX10_partsIn yX10_partsIn ∈ BG ∧ Cond.initialized (yX10_partsIn).cls ∈ BG ∧ Cond.code yX10_partsIn cX10_partsIn 6 (some .int) ∈ BG := ⟨w_959, w_960, w_58, w_961⟩
theorem hy_X10_partsIn : (yX10_partsIn).cls ≠ "java/lang/invoke/MethodHandle" ∧ (yX10_partsIn).cls ≠ "java/lang/invoke/VarHandle" ∧ (parseMethodDescriptor (yX10_partsIn).desc).map (fun d => d.parameters.length) = some 2 := ⟨by decide, by decide, by decide +kernel⟩
def f_X5_findSet_125  (x0 : Nat) (y0 : Int32) (σ : cS) : Option (Int32) := some y0
def f_X5_findSet_87 (k19 : Option Nat → Option Nat → Option Nat → Int32 → Int32 → Option Nat → Option (Int32)) (x0 : Nat) (x1 : Option Nat) (x2 : Option Nat) (x3 : Option Nat) (x4 : Int32) (x6 : Option Nat) (y0 : Int32) (σ : cS) : Option (Int32) := (gR σ x6 2 9).bind (fun v1 => k19 (x1) (x2) (x3) (x4) (y0) (v1))
def f_X5_findSet_54 (k19 : Option Nat → Option Nat → Option Nat → Int32 → Int32 → Option Nat → Option (Int32)) (x0 : Nat) (x1 : Option Nat) (x2 : Option Nat) (x3 : Option Nat) (x4 : Int32) (x5 : Int32) (x6 : Option Nat) (y0 : Option Nat) (y1 : Option Nat) (y2 : Int32) (σ : cS) : Option (Int32) := (rc σ y0 5).bind (fun v1 => (f_X5_findFitting v1 (y1) (y2) (x3) σ).bind (fun v2 => (gR σ x1 7 0).bind (fun v3 => if x6 = v3 then (f_X5_findSet_87 k19 x0 (x1) (x2) (x3) (x4) (x6) (v2) σ) else ((gI σ x6 2 0).bind (fun v4 => (rc σ (some x0) 5).bind (fun v5 => (f_X5_reached v5 (v2) (v4) (x5) σ).bind (fun v6 => f_X5_findSet_87 k19 x0 (x1) (x2) (x3) (x4) (x6) (v6) σ)))))))
def f_X5_findSet_19  (x0 : Nat) : Nat → Option Nat → Option Nat → Option Nat → Int32 → Int32 → Option Nat → cS → Option (Int32)
  | 0, _, _, _, _, _, _, _ => none
  | n + 1, x1, x2, x3, x4, x5, x6, σ => if x6 = none then ((gI σ x1 7 4).bind (fun v1 => if v1 = ((-1):Int32) then (f_X5_findSet_125 x0 (x5) σ) else ((gR σ (some x0) 5 0).bind (fun v2 => (gI σ x1 7 4).bind (fun v3 => (rc σ v2 10).bind (fun v4 => (f_X10_partsIn v4 (x5) (v3) σ).bind (fun v5 => f_X5_findSet_125 x0 (v5) σ))))))) else ((gI σ x6 2 5).bind (fun v6 => if v6 = (0:Int32) then (f_X5_findSet_54 (fun z0 z1 z2 z3 z4 z5 => f_X5_findSet_19 x0 n z0 z1 z2 z3 z4 z5 σ) x0 (x1) (x2) (x3) (x4) (x5) (x6) ((some x0)) (x6) (x4) σ) else (if x2 = none then (f_X5_findSet_54 (fun z0 z1 z2 z3 z4 z5 => f_X5_findSet_19 x0 n z0 z1 z2 z3 z4 z5 σ) x0 (x1) (x2) (x3) (x4) (x5) (x6) ((some x0)) (x6) ((0:Int32)) σ) else ((gI σ x2 3 0).bind (fun v7 => f_X5_findSet_54 (fun z0 z1 z2 z3 z4 z5 => f_X5_findSet_19 x0 n z0 z1 z2 z3 z4 z5 σ) x0 (x1) (x2) (x3) (x4) (x5) (x6) ((some x0)) (x6) (((1:Int32) <<< (v7 &&& 31))) σ)))))
def f_X5_findSet (x0 : Nat) (x1 : Option Nat) (x2 : Option Nat) (x3 : Option Nat) (σ : cS) : Option (Int32) := (gR σ (some x0) 5 0).bind (fun v1 => (rc σ v1 10).bind (fun v2 => (f_X10_membersOf v2 (x2) σ).bind (fun v3 => (gR σ x1 7 0).bind (fun v4 => f_X5_findSet_19 x0 4000 (x1) (x2) (x3) (v3) ((0:Int32)) (v4) σ))))
set_option maxRecDepth 20000 in
set_option maxHeartbeats 4000000 in
theorem N_X5_findSet_125 {p : Program} {l : Launch} {e : Env} {s : State} {m : MethodId} {args : Array Value} {below : List Frame} {meth : Method} {c : Code} {D : cD} {Φ : cG} {x0 : Nat}   {y0 : Int32} {σ : cS} {ls : Array Slot} {r : Int32} (X : cX p s m args meth c cX5_findSet 8 (some .int) RX5 D Φ) (hP : cP D Φ σ s.heap) (hS : va_S (cReg Φ) s.heap s.heap [])  (hl : lv_has ls 8 []) (h : f_X5_findSet_125  x0 y0 σ = some r) : cWr p l e 3 79 s m args below meth c (some (.int r)) (F0 m 125 ls [.int y0]) := by
  have hx := X.1
  have hb := X.2.1
  have hown := X.2.2.2.1
  have hts := X.2.2.2.2.1
  have h : (some y0) = some r := h
  obtain rfl := sj h
  exact c_ri X dX5_findSet_125
set_option maxRecDepth 20000 in
set_option maxHeartbeats 4000000 in
theorem N_X5_findSet_87 {p : Program} {l : Launch} {e : Env} {s : State} {m : MethodId} {args : Array Value} {below : List Frame} {meth : Method} {c : Code} {D : cD} {Φ : cG} {x0 : Nat} {k19 : Option Nat → Option Nat → Option Nat → Int32 → Int32 → Option Nat → Option (Int32)}  {x1 : Option Nat} {x2 : Option Nat} {x3 : Option Nat} {x4 : Int32} {x6 : Option Nat} {y0 : Int32} {σ : cS} {ls : Array Slot} {r : Int32} (X : cX p s m args meth c cX5_findSet 8 (some .int) RX5 D Φ) (hP : cP D Φ σ s.heap) (hS : va_S (cReg Φ) s.heap s.heap []) (hk19 : ∀ {x1 : Option Nat} {x2 : Option Nat} {x3 : Option Nat} {x4 : Int32} {x5 : Int32} {x6 : Option Nat} {ls : Array Slot}, lv_has ls 8 [(0, cv Φ (some x0)), (1, cv Φ x1), (2, cv Φ x2), (3, cv Φ x3), (4, .int x4), (5, .int x5), (6, cv Φ x6)] → k19 x1 x2 x3 x4 x5 x6 = some r → cWr p l e 3 79 s m args below meth c (some (.int r)) (F0 m 19 ls [])) (hl : lv_has ls 8 [(0, cv Φ (some x0)), (1, cv Φ x1), (2, cv Φ x2), (3, cv Φ x3), (4, .int x4), (6, cv Φ x6)]) (h : f_X5_findSet_87 k19 x0 x1 x2 x3 x4 x6 y0 σ = some r) : cWr p l e 3 79 s m args below meth c (some (.int r)) (F0 m 87 ls [.int y0]) := by
  have hx := X.1
  have hb := X.2.1
  have hown := X.2.2.2.1
  have hts := X.2.2.2.2.1
  have h : ((gR σ x6 2 9).bind (fun v1 => k19 (x1) (x2) (x3) (x4) (y0) (v1))) = some r := h
  refine c_istore hx hb dX5_findSet_87 hl (Nat.le_of_ble_eq_true rfl) (lvKa rfl (lvKa rfl (lvKa rfl (lvKa rfl (lvKi (lvKa rfl lvK0)))))) rfl (fun ls (hl : lv_has ls 8 [(5, .int y0), (0, cv Φ (some x0)), (1, cv Φ x1), (2, cv Φ x2), (3, cv Φ x3), (4, .int x4), (6, cv Φ x6)]) => ?_)
  refine c_aload hx hb dX5_findSet_89 (lv_at hl 6 rfl) ?_
  obtain ⟨v1, hv1, h⟩ := ob h
  refine c_gR X hP hv1 (Nat.le_of_ble_eq_true rfl) (Nat.le_of_ble_eq_true rfl) rfl w_387 dX5_findSet_91 ?_
  refine c_astore hx hb dX5_findSet_94 hl (Nat.le_of_ble_eq_true rfl) (lvKi (lvKa rfl (lvKa rfl (lvKa rfl (lvKa rfl (lvKa rfl (lvKa rfl lvK0))))))) rfl (fun ls (hl : lv_has ls 8 [(6, cv Φ v1), (5, .int y0), (0, cv Φ (some x0)), (1, cv Φ x1), (2, cv Φ x2), (3, cv Φ x3), (4, .int x4)]) => ?_)
  refine lv_goto (tgt := 19) hx hb dX5_findSet_96 rfl ?_
  exact hk19 (lv_sub hl [2, 3, 4, 5, 6, 1, 0] rfl) h
set_option maxRecDepth 20000 in
set_option maxHeartbeats 4000000 in
theorem N_X5_findSet_54 {p : Program} {l : Launch} {e : Env} {s : State} {m : MethodId} {args : Array Value} {below : List Frame} {meth : Method} {c : Code} {D : cD} {Φ : cG} {x0 : Nat} {k19 : Option Nat → Option Nat → Option Nat → Int32 → Int32 → Option Nat → Option (Int32)}  {x1 : Option Nat} {x2 : Option Nat} {x3 : Option Nat} {x4 : Int32} {x5 : Int32} {x6 : Option Nat} {y0 : Option Nat} {y1 : Option Nat} {y2 : Int32} {σ : cS} {ls : Array Slot} {r : Int32} (X : cX p s m args meth c cX5_findSet 8 (some .int) RX5 D Φ) (hP : cP D Φ σ s.heap) (hS : va_S (cReg Φ) s.heap s.heap []) (hk19 : ∀ {x1 : Option Nat} {x2 : Option Nat} {x3 : Option Nat} {x4 : Int32} {x5 : Int32} {x6 : Option Nat} {ls : Array Slot}, lv_has ls 8 [(0, cv Φ (some x0)), (1, cv Φ x1), (2, cv Φ x2), (3, cv Φ x3), (4, .int x4), (5, .int x5), (6, cv Φ x6)] → k19 x1 x2 x3 x4 x5 x6 = some r → cWr p l e 3 79 s m args below meth c (some (.int r)) (F0 m 19 ls [])) (hl : lv_has ls 8 [(0, cv Φ (some x0)), (1, cv Φ x1), (2, cv Φ x2), (3, cv Φ x3), (4, .int x4), (5, .int x5), (6, cv Φ x6)]) (h : f_X5_findSet_54 k19 x0 x1 x2 x3 x4 x5 x6 y0 y1 y2 σ = some r) : cWr p l e 3 79 s m args below meth c (some (.int r)) (F0 m 54 ls [.int y2, cv Φ y1, cv Φ y0]) := by
  have hx := X.1
  have hb := X.2.1
  have hown := X.2.2.2.1
  have hts := X.2.2.2.2.1
  have h : ((rc σ y0 5).bind (fun v1 => (f_X5_findFitting v1 (y1) (y2) (x3) σ).bind (fun v2 => (gR σ x1 7 0).bind (fun v3 => if x6 = v3 then (f_X5_findSet_87 k19 x0 (x1) (x2) (x3) (x4) (x6) (v2) σ) else ((gI σ x6 2 0).bind (fun v4 => (rc σ (some x0) 5).bind (fun v5 => (f_X5_reached v5 (v2) (v4) (x5) σ).bind (fun v6 => f_X5_findSet_87 k19 x0 (x1) (x2) (x3) (x4) (x6) (v6) σ)))))))) = some r := h
  refine c_aload_n hx hb dX5_findSet_54 rfl (lv_at hl 3 rfl) ?_
  obtain ⟨v1, hv1, h⟩ := ob h
  obtain ⟨v2, hv2, h⟩ := ob h
  refine c_cr (c_runV X (K_X5_findFitting l D Φ σ v1 (y1) (y2) (x3) hv2) hv1 ⟨Nat.le_of_ble_eq_true rfl, by decide⟩ ⟨w_932, ww_X5_findFitting⟩ rfl hy_X5_findFitting rfl ⟨(Nat.le_of_ble_eq_true rfl), (Nat.le_of_ble_eq_true rfl)⟩ hP hS hl.1 (Nat.le_of_ble_eq_true rfl) dX5_findSet_55 rfl ⟨(Nat.le_of_ble_eq_true rfl), (Nat.le_of_ble_eq_true rfl)⟩) ?_
  refine c_istore hx hb dX5_findSet_58 hl (Nat.le_of_ble_eq_true rfl) (lvKa rfl (lvKa rfl (lvKa rfl (lvKa rfl (lvKa rfl (lvKa rfl (lvKr lvK0))))))) rfl (fun ls (hl : lv_has ls 8 [(7, .int v2), (0, cv Φ (some x0)), (1, cv Φ x1), (2, cv Φ x2), (3, cv Φ x3), (4, .int x4), (5, .int x5), (6, cv Φ x6)]) => ?_)
  refine c_aload hx hb dX5_findSet_60 (lv_at hl 7 rfl) ?_
  refine c_aload_n hx hb dX5_findSet_62 rfl (lv_at hl 2 rfl) ?_
  obtain ⟨v3, hv3, h⟩ := ob h
  refine c_gR X hP hv3 (Nat.le_of_ble_eq_true rfl) (Nat.le_of_ble_eq_true rfl) rfl w_410 dX5_findSet_63 ?_
  refine c_acmp_ne (tgt := 74) X hP dX5_findSet_66 rfl (fun hc => ?_) (fun hc => ?_)
  · have h := ine hc h
    refine c_aload_n hx hb dX5_findSet_74 rfl (lv_at hl 1 rfl) ?_
    refine lv_iload hx hb dX5_findSet_75 (lv_at hl 0 rfl) ?_
    refine c_aload hx hb dX5_findSet_77 (lv_at hl 7 rfl) ?_
    obtain ⟨v4, hv4, h⟩ := ob h
    refine c_gI X hP hv4 (Nat.le_of_ble_eq_true rfl) (Nat.le_of_ble_eq_true rfl) rfl w_368 dX5_findSet_79 ?_
    refine lv_iload hx hb dX5_findSet_82 (lv_at hl 6 rfl) ?_
    obtain ⟨v5, hv5, h⟩ := ob h
    obtain ⟨v6, hv6, h⟩ := ob h
    refine c_cr (c_runV X (K_X5_reached l D Φ σ v5 (v2) (v4) (x5) hv6) hv5 ⟨Nat.le_of_ble_eq_true rfl, by decide⟩ ⟨w_954, ww_X5_reached⟩ rfl hy_X5_reached rfl ⟨(Nat.le_of_ble_eq_true rfl), (Nat.le_of_ble_eq_true rfl)⟩ hP hS hl.1 (Nat.le_of_ble_eq_true rfl) dX5_findSet_84 rfl ⟨(Nat.le_of_ble_eq_true rfl), (Nat.le_of_ble_eq_true rfl)⟩) ?_
    exact N_X5_findSet_87 X hP hS hk19 (lv_sub hl [1, 2, 3, 4, 5, 7] rfl) h
  · have h := ip hc h
    refine lv_iload hx hb dX5_findSet_69 (lv_at hl 0 rfl) ?_
    refine lv_goto (tgt := 87) hx hb dX5_findSet_71 rfl ?_
    exact N_X5_findSet_87 X hP hS hk19 (lv_sub hl [1, 2, 3, 4, 5, 7] rfl) h
set_option maxRecDepth 20000 in
set_option maxHeartbeats 4000000 in
theorem N_X5_findSet_19 {p : Program} {l : Launch} {e : Env} {s : State} {m : MethodId} {args : Array Value} {below : List Frame} {meth : Method} {c : Code} {D : cD} {Φ : cG} {x0 : Nat}  {n : Nat} {x1 : Option Nat} {x2 : Option Nat} {x3 : Option Nat} {x4 : Int32} {x5 : Int32} {x6 : Option Nat} {σ : cS} {ls : Array Slot} {r : Int32} (X : cX p s m args meth c cX5_findSet 8 (some .int) RX5 D Φ) (hP : cP D Φ σ s.heap) (hS : va_S (cReg Φ) s.heap s.heap [])  (hl : lv_has ls 8 [(0, cv Φ (some x0)), (1, cv Φ x1), (2, cv Φ x2), (3, cv Φ x3), (4, .int x4), (5, .int x5), (6, cv Φ x6)]) (h : f_X5_findSet_19  x0 n x1 x2 x3 x4 x5 x6 σ = some r) : cWr p l e 3 79 s m args below meth c (some (.int r)) (F0 m 19 ls []) := by
  have hx := X.1
  have hb := X.2.1
  have hown := X.2.2.2.1
  have hts := X.2.2.2.2.1
  induction n generalizing x1 x2 x3 x4 x5 x6 ls with
  | zero => exact absurd (show none = some r from h) (by simp)
  | succ n ih =>
    have h : (if x6 = none then ((gI σ x1 7 4).bind (fun v1 => if v1 = ((-1):Int32) then (f_X5_findSet_125 x0 (x5) σ) else ((gR σ (some x0) 5 0).bind (fun v2 => (gI σ x1 7 4).bind (fun v3 => (rc σ v2 10).bind (fun v4 => (f_X10_partsIn v4 (x5) (v3) σ).bind (fun v5 => f_X5_findSet_125 x0 (v5) σ))))))) else ((gI σ x6 2 5).bind (fun v6 => if v6 = (0:Int32) then (f_X5_findSet_54 (fun z0 z1 z2 z3 z4 z5 => f_X5_findSet_19 x0 n z0 z1 z2 z3 z4 z5 σ) x0 (x1) (x2) (x3) (x4) (x5) (x6) ((some x0)) (x6) (x4) σ) else (if x2 = none then (f_X5_findSet_54 (fun z0 z1 z2 z3 z4 z5 => f_X5_findSet_19 x0 n z0 z1 z2 z3 z4 z5 σ) x0 (x1) (x2) (x3) (x4) (x5) (x6) ((some x0)) (x6) ((0:Int32)) σ) else ((gI σ x2 3 0).bind (fun v7 => f_X5_findSet_54 (fun z0 z1 z2 z3 z4 z5 => f_X5_findSet_19 x0 n z0 z1 z2 z3 z4 z5 σ) x0 (x1) (x2) (x3) (x4) (x5) (x6) ((some x0)) (x6) (((1:Int32) <<< (v7 &&& 31))) σ)))))) = some r := h
    refine c_aload hx hb dX5_findSet_19 (lv_at hl 6 rfl) ?_
    refine c_ifnull (Φ := Φ) (tgt := 99) hx hb dX5_findSet_21 rfl (fun hc => ?_) (fun hc => ?_)
    · have h := ip hc h
      refine c_aload_n hx hb dX5_findSet_99 rfl (lv_at hl 1 rfl) ?_
      obtain ⟨v1, hv1, h⟩ := ob h
      refine c_gI X hP hv1 (Nat.le_of_ble_eq_true rfl) (Nat.le_of_ble_eq_true rfl) rfl w_418 dX5_findSet_100 ?_
      refine lv_iconst (v := ((-1):Int32)) hx hb dX5_findSet_103 (by decide) ?_
      refine lv_icmp_ne (tgt := 112) hx hb dX5_findSet_104 rfl (fun hc => ?_) (fun hc => ?_)
      · have h := ine hc h
        refine c_aload_n hx hb dX5_findSet_112 rfl (lv_at hl 0 rfl) ?_
        obtain ⟨v2, hv2, h⟩ := ob h
        refine c_gR X hP hv2 (Nat.le_of_ble_eq_true rfl) (Nat.le_of_ble_eq_true rfl) rfl w_464 dX5_findSet_113 ?_
        refine lv_iload hx hb dX5_findSet_116 (lv_at hl 5 rfl) ?_
        refine c_aload_n hx hb dX5_findSet_118 rfl (lv_at hl 1 rfl) ?_
        obtain ⟨v3, hv3, h⟩ := ob h
        refine c_gI X hP hv3 (Nat.le_of_ble_eq_true rfl) (Nat.le_of_ble_eq_true rfl) rfl w_418 dX5_findSet_119 ?_
        obtain ⟨v4, hv4, h⟩ := ob h
        obtain ⟨v5, hv5, h⟩ := ob h
        refine c_cr (c_runV X (K_X10_partsIn l D Φ σ v4 (x5) (v3) hv5) hv4 ⟨Nat.le_of_ble_eq_true rfl, by decide⟩ ⟨w_958, ww_X10_partsIn⟩ rfl hy_X10_partsIn rfl ⟨(Nat.le_of_ble_eq_true rfl), (Nat.le_of_ble_eq_true rfl)⟩ hP hS hl.1 (Nat.le_of_ble_eq_true rfl) dX5_findSet_122 rfl ⟨(Nat.le_of_ble_eq_true rfl), (Nat.le_of_ble_eq_true rfl)⟩) ?_
        exact N_X5_findSet_125 X hP hS (lv_sub hl [] rfl) h
      · have h := ip hc h
        refine lv_iload hx hb dX5_findSet_107 (lv_at hl 5 rfl) ?_
        refine lv_goto (tgt := 125) hx hb dX5_findSet_109 rfl ?_
        exact N_X5_findSet_125 X hP hS (lv_sub hl [] rfl) h
    · have h := ine hc h
      refine c_aload_n hx hb dX5_findSet_24 rfl (lv_at hl 0 rfl) ?_
      refine c_aload hx hb dX5_findSet_25 (lv_at hl 6 rfl) ?_
      refine c_aload hx hb dX5_findSet_27 (lv_at hl 6 rfl) ?_
      obtain ⟨v6, hv6, h⟩ := ob h
      refine c_gI X hP hv6 (Nat.le_of_ble_eq_true rfl) (Nat.le_of_ble_eq_true rfl) rfl w_381 dX5_findSet_29 ?_
      refine lv_if_eq (tgt := 52) hx hb dX5_findSet_32 rfl (fun hc => ?_) (fun hc => ?_)
      · have h := ip hc h
        refine lv_iload hx hb dX5_findSet_52 (lv_at hl 4 rfl) ?_
        exact N_X5_findSet_54 X hP hS ih (lv_sub hl [0, 1, 2, 3, 4, 5, 6] rfl) h
      · have h := ine hc h
        refine c_aload_n hx hb dX5_findSet_35 rfl (lv_at hl 2 rfl) ?_
        refine c_ifnonnull (Φ := Φ) (tgt := 43) hx hb dX5_findSet_36 rfl (fun hc => ?_) (fun hc => ?_)
        · have h := ine hc h
          refine lv_iconst (v := (1:Int32)) hx hb dX5_findSet_43 (by decide) ?_
          refine c_aload_n hx hb dX5_findSet_44 rfl (lv_at hl 2 rfl) ?_
          obtain ⟨v7, hv7, h⟩ := ob h
          refine c_gI X hP hv7 (Nat.le_of_ble_eq_true rfl) (Nat.le_of_ble_eq_true rfl) rfl w_226 dX5_findSet_45 ?_
          refine lv_ishl hx hb dX5_findSet_48 ?_
          refine lv_goto (tgt := 54) hx hb dX5_findSet_49 rfl ?_
          exact N_X5_findSet_54 X hP hS ih (lv_sub hl [0, 1, 2, 3, 4, 5, 6] rfl) h
        · have h := ip hc h
          refine lv_iconst (v := (0:Int32)) hx hb dX5_findSet_39 (by decide) ?_
          refine lv_goto (tgt := 54) hx hb dX5_findSet_40 rfl ?_
          exact N_X5_findSet_54 X hP hS ih (lv_sub hl [0, 1, 2, 3, 4, 5, 6] rfl) h
set_option maxRecDepth 20000 in
set_option maxHeartbeats 4000000 in
theorem K_X5_findSet (l : Launch) (D : cD) (Φ : cG) (σ : cS) (x0 : Nat) (x1 : Option Nat) (x2 : Option Nat) (x3 : Option Nat) {r : Int32} (h : f_X5_findSet x0 x1 x2 x3 σ = some r) : Met l yX5_findSet (Cond.code yX5_findSet cX5_findSet 8 (some .int) :: BG) (rA 3 0 0 79) (cPc D Φ σ [cv Φ (some x0), cv Φ x1, cv Φ x2, cv Φ x3]) (cQr (some (.int r))) 0 0 (fun _ => False) := by
  refine Met.ofW (cc := cX5_findSet) (maxL := 8) (ret := (some .int)) (by decide) rfl ?_
  intro p e s m args below meth c s₁ B hml hv
  obtain ⟨rfl, hP, hK, hZ⟩ := hv
  have X : cX p s m [cv Φ (some x0), cv Φ x1, cv Φ x2, cv Φ x3].toArray meth c cX5_findSet 8 (some .int) RX5 D Φ := cX_of B hml hK hZ
  have hx := X.1
  have hb := X.2.1
  have hown := X.2.2.2.1
  have hts := X.2.2.2.2.1
  have hl := lv_entry [cv Φ (some x0), cv Φ x1, cv Φ x2, cv Φ x3] (n := 8) (by simp only [lgs_r, lgs_i, lgs_l, lgs_0, List.length]; exact Nat.le_of_ble_eq_true rfl)
  rw [lg_entry_eq]
  generalize (lg_sl [cv Φ (some x0), cv Φ x1, cv Φ x2, cv Φ x3] ++ List.replicate (8 - (lg_sl [cv Φ (some x0), cv Φ x1, cv Φ x2, cv Φ x3]).length) Slot.unset).toArray = ls at hl ⊢
  simp only [lv_args_r, lv_args_i, lv_args_l, lv_args_0] at hl
  have hl : lv_has ls 8 [(0, cv Φ (some x0)), (1, cv Φ x1), (2, cv Φ x2), (3, cv Φ x3)] := hl
  have hS : va_S (cReg Φ) s.heap s.heap [] := va_S.rf
  show cWr p l e 3 79 s m [cv Φ (some x0), cv Φ x1, cv Φ x2, cv Φ x3].toArray below meth c (some (.int r)) (F0 m 0 ls [])
  have h : ((gR σ (some x0) 5 0).bind (fun v1 => (rc σ v1 10).bind (fun v2 => (f_X10_membersOf v2 (x2) σ).bind (fun v3 => (gR σ x1 7 0).bind (fun v4 => f_X5_findSet_19 x0 4000 (x1) (x2) (x3) (v3) ((0:Int32)) (v4) σ))))) = some r := h
  refine c_aload_n hx hb dX5_findSet_0 rfl (lv_at hl 0 rfl) ?_
  obtain ⟨v1, hv1, h⟩ := ob h
  refine c_gR X hP hv1 (Nat.le_of_ble_eq_true rfl) (Nat.le_of_ble_eq_true rfl) rfl w_464 dX5_findSet_1 ?_
  refine c_aload_n hx hb dX5_findSet_4 rfl (lv_at hl 2 rfl) ?_
  obtain ⟨v2, hv2, h⟩ := ob h
  obtain ⟨v3, hv3, h⟩ := ob h
  refine c_cr (c_runV X (K_X10_membersOf l D Φ σ v2 (x2) hv3) hv2 ⟨Nat.le_of_ble_eq_true rfl, by decide⟩ ⟨w_927, ww_X10_membersOf⟩ rfl hy_X10_membersOf rfl ⟨(Nat.le_of_ble_eq_true rfl), (Nat.le_of_ble_eq_true rfl)⟩ hP hS hl.1 (Nat.le_of_ble_eq_true rfl) dX5_findSet_5 rfl ⟨(Nat.le_of_ble_eq_true rfl), (Nat.le_of_ble_eq_true rfl)⟩) ?_
  refine c_istore hx hb dX5_findSet_8 hl (Nat.le_of_ble_eq_true rfl) (lvKa rfl (lvKa rfl (lvKa rfl (lvKr lvK0)))) rfl (fun ls (hl : lv_has ls 8 [(4, .int v3), (0, cv Φ (some x0)), (1, cv Φ x1), (2, cv Φ x2), (3, cv Φ x3)]) => ?_)
  refine lv_iconst (v := (0:Int32)) hx hb dX5_findSet_10 (by decide) ?_
  refine c_istore hx hb dX5_findSet_11 hl (Nat.le_of_ble_eq_true rfl) (lvKi (lvKa rfl (lvKa rfl (lvKa rfl (lvKa rfl lvK0))))) rfl (fun ls (hl : lv_has ls 8 [(5, .int (0:Int32)), (4, .int v3), (0, cv Φ (some x0)), (1, cv Φ x1), (2, cv Φ x2), (3, cv Φ x3)]) => ?_)
  refine c_aload_n hx hb dX5_findSet_13 rfl (lv_at hl 3 rfl) ?_
  obtain ⟨v4, hv4, h⟩ := ob h
  refine c_gR X hP hv4 (Nat.le_of_ble_eq_true rfl) (Nat.le_of_ble_eq_true rfl) rfl w_410 dX5_findSet_14 ?_
  refine c_astore hx hb dX5_findSet_17 hl (Nat.le_of_ble_eq_true rfl) (lvKi (lvKa rfl (lvKa rfl (lvKa rfl (lvKa rfl (lvKa rfl lvK0)))))) rfl (fun ls (hl : lv_has ls 8 [(6, cv Φ v4), (5, .int (0:Int32)), (4, .int v3), (0, cv Φ (some x0)), (1, cv Φ x1), (2, cv Φ x2), (3, cv Φ x3)]) => ?_)
  exact N_X5_findSet_19 X hP hS (lv_sub hl [3, 4, 5, 6, 2, 1, 0] rfl) h
theorem ww_X5_findSet : Cond.instanceMethod yX5_findSet ∈ BG ∧ Cond.selects (yX5_findSet).cls yX5_findSet yX5_findSet ∈ BG ∧ Cond.initialized (yX5_findSet).cls ∈ BG ∧ Cond.code yX5_findSet cX5_findSet 8 (some .int) ∈ BG := ⟨w_925, w_18, w_61, w_926⟩
theorem hy_X5_findSet : (yX5_findSet).cls ≠ "java/lang/invoke/MethodHandle" ∧ (yX5_findSet).cls ≠ "java/lang/invoke/VarHandle" ∧ (parseMethodDescriptor (yX5_findSet).desc).map (fun d => d.parameters.length) = some 3 := ⟨by decide, by decide, by decide +kernel⟩
def f_X5_setOf_40  (x0 : Nat)  (σ : cS) : Option (Int32 × cS) := some ((0:Int32), σ)
def f_X5_setOf_161  (x0 : Nat) (x1 : Option Nat) (x3 : Int32) (x4 : Int32) (σ : cS) : Option (Int32 × cS) := (gR σ (some x0) 5 5).bind (fun v1 => (aI σ v1 x3).bind (fun v2 => (sI σ v1 x3 (v2 ||| x4)).bind (fun v3 => (gR v3 (some x0) 5 4).bind (fun v4 => (aR v3 v4 50 x3).bind (fun v5 => (gI v3 x1 7 3).bind (fun v6 => (aI v3 v5 v6).bind (fun v7 => some (v7, v3))))))))
def f_X5_setOf_155 (k96 : Option Nat → Option Nat → Int32 → Int32 → Int32 → cS → Option (Int32 × cS)) (x0 : Nat) (x1 : Option Nat) (x2 : Option Nat) (x3 : Int32) (x4 : Int32) (x5 : Int32) (σ : cS) : Option (Int32 × cS) := k96 (x1) (x2) (x3) (x4) ((x5 + (1:Int32))) σ
def f_X5_setOf_96  (x0 : Nat) : Nat → Option Nat → Option Nat → Int32 → Int32 → Int32 → cS → Option (Int32 × cS)
  | 0, _, _, _, _, _, _ => none
  | n + 1, x1, x2, x3, x4, x5, σ => (gI σ x1 7 3).bind (fun v1 => if v1 < x5 then (f_X5_setOf_161 x0 (x1) (x3) (x4) σ) else (if x4 = (0:Int32) then (f_X5_setOf_161 x0 (x1) (x3) (x4) σ) else ((rc σ (some x0) 5).bind (fun v2 => (f_X5_selectorAt v2 (x5) σ).bind (fun v3 => if v3 = none then (f_X5_setOf_155 (f_X5_setOf_96 x0 n) x0 (x1) (x2) (x3) (x4) (x5) σ) else (if ((x4 >>> (x5 &&& 31)) &&& (1:Int32)) = (0:Int32) then (f_X5_setOf_155 (f_X5_setOf_96 x0 n) x0 (x1) (x2) (x3) (x4) (x5) σ) else ((gR σ (some x0) 5 4).bind (fun v4 => (aR σ v4 50 x3).bind (fun v5 => (gR σ (some x0) 5 4).bind (fun v6 => (aR σ v6 50 x3).bind (fun v7 => (rc σ (some x0) 5).bind (fun v8 => (f_X5_findSet v8 (v3) (x2) (v7) σ).bind (fun v9 => (sI σ v5 x5 v9).bind (fun v10 => f_X5_setOf_155 (f_X5_setOf_96 x0 n) x0 (x1) (x2) (x3) (x4) (x5) v10))))))))))))))
def f_X5_setOf_78  (x0 : Nat) (x1 : Option Nat) (x2 : Option Nat) (x3 : Int32) (σ : cS) : Option (Int32 × cS) := (gI σ x1 7 9).bind (fun v1 => (gR σ (some x0) 5 5).bind (fun v2 => (aI σ v2 x3).bind (fun v3 => f_X5_setOf_96 x0 4000 (x1) (x2) (x3) ((v1 &&& (v3 ^^^ ((-1):Int32)))) ((0:Int32)) σ)))
def f_X5_setOf_13  (x0 : Nat) (x1 : Option Nat) (x2 : Option Nat) (y0 : Int32) (σ : cS) : Option (Int32 × cS) := if y0 < (0:Int32) then (f_X5_setOf_40 x0 σ) else (if (30:Int32) < y0 then (f_X5_setOf_40 x0 σ) else ((gI σ x1 7 3).bind (fun v1 => if v1 < (0:Int32) then (f_X5_setOf_40 x0 σ) else ((gI σ x1 7 3).bind (fun v2 => if v2 < (30:Int32) then ((gR σ (some x0) 5 6).bind (fun v3 => (aI σ v3 y0).bind (fun v4 => (gR σ (some x0) 5 0).bind (fun v5 => (gI σ v5 10 3).bind (fun v6 => if v4 = v6 then (f_X5_setOf_78 x0 (x1) (x2) (y0) σ) else ((gR σ (some x0) 5 6).bind (fun v7 => (gR σ (some x0) 5 0).bind (fun v8 => (gI σ v8 10 3).bind (fun v9 => (sI σ v7 y0 v9).bind (fun v10 => (gR v10 (some x0) 5 5).bind (fun v11 => (sI v10 v11 y0 (0:Int32)).bind (fun v12 => f_X5_setOf_78 x0 (x1) (x2) (y0) v12)))))))))))) else (f_X5_setOf_40 x0 σ))))))
def f_X5_setOf (x0 : Nat) (x1 : Option Nat) (x2 : Option Nat) (σ : cS) : Option (Int32 × cS) := if x2 = none then (f_X5_setOf_13 x0 (x1) (x2) ((30:Int32)) σ) else ((gI σ x2 3 0).bind (fun v1 => f_X5_setOf_13 x0 (x1) (x2) (v1) σ))
set_option maxRecDepth 20000 in
set_option maxHeartbeats 4000000 in
theorem N_X5_setOf_40 {p : Program} {l : Launch} {e : Env} {s : State} {m : MethodId} {args : Array Value} {below : List Frame} {meth : Method} {c : Code} {D : cD} {Φ : cG} {x0 : Nat}    {σ : cS} {H : Heap} {locs : List Loc} {ls : Array Slot} {q : Int32 × cS} (X : cX p s m args meth c cX5_setOf 7 (some .int) RX5 D Φ) (hP : cP D Φ σ H) (hS : va_S (cReg Φ) s.heap H locs)  (hl : lv_has ls 7 []) (h : f_X5_setOf_40  x0  σ = some q) : cWw p l e 4 0 0 106 s m args below meth c D Φ q.2 (some (.int q.1)) H locs 0 0 (F0 m 40 ls []) := by
  have hx := X.1
  have hb := X.2.1
  have hown := X.2.2.2.1
  have hts := X.2.2.2.2.1
  have h : (some ((0:Int32), σ)) = some q := h
  refine lv_iconst (v := (0:Int32)) hx hb dX5_setOf_40 (by decide) ?_
  obtain rfl := sj h
  exact c_wi X hP hS (Nat.le_of_ble_eq_true rfl) (Nat.le_of_ble_eq_true rfl) dX5_setOf_41
set_option maxRecDepth 20000 in
set_option maxHeartbeats 4000000 in
theorem N_X5_setOf_161 {p : Program} {l : Launch} {e : Env} {s : State} {m : MethodId} {args : Array Value} {below : List Frame} {meth : Method} {c : Code} {D : cD} {Φ : cG} {x0 : Nat}   {x1 : Option Nat} {x3 : Int32} {x4 : Int32} {σ : cS} {H : Heap} {locs : List Loc} {ls : Array Slot} {q : Int32 × cS} (X : cX p s m args meth c cX5_setOf 7 (some .int) RX5 D Φ) (hP : cP D Φ σ H) (hS : va_S (cReg Φ) s.heap H locs)  (hl : lv_has ls 7 [(0, cv Φ (some x0)), (1, cv Φ x1), (3, .int x3), (4, .int x4)]) (h : f_X5_setOf_161  x0 x1 x3 x4 σ = some q) : cWw p l e 4 0 0 106 s m args below meth c D Φ q.2 (some (.int q.1)) H locs 0 0 (F0 m 161 ls []) := by
  have hx := X.1
  have hb := X.2.1
  have hown := X.2.2.2.1
  have hts := X.2.2.2.2.1
  have h : ((gR σ (some x0) 5 5).bind (fun v1 => (aI σ v1 x3).bind (fun v2 => (sI σ v1 x3 (v2 ||| x4)).bind (fun v3 => (gR v3 (some x0) 5 4).bind (fun v4 => (aR v3 v4 50 x3).bind (fun v5 => (gI v3 x1 7 3).bind (fun v6 => (aI v3 v5 v6).bind (fun v7 => some (v7, v3))))))))) = some q := h
  refine c_aload_n hx hb dX5_setOf_161 rfl (lv_at hl 0 rfl) ?_
  obtain ⟨v1, hv1, h⟩ := ob h
  refine c_gR X hP hv1 (Nat.le_of_ble_eq_true rfl) (Nat.le_of_ble_eq_true rfl) rfl w_471 dX5_setOf_162 ?_
  refine lv_iload_n hx hb dX5_setOf_165 rfl (lv_at hl 2 rfl) ?_
  refine lv_dup2_11 hx hb dX5_setOf_166 rfl (cv_cat _ _) ?_
  obtain ⟨v2, hv2, h⟩ := ob h
  refine c_ald X hP hv2 dX5_setOf_167 ?_
  refine lv_iload hx hb dX5_setOf_168 (lv_at hl 3 rfl) ?_
  refine lv_ior hx hb dX5_setOf_170 ?_
  obtain ⟨v3, hv3, h⟩ := ob h
  refine c_ast X hP hS hv3 dX5_setOf_171 (fun H locs hP hS => ?_)
  refine c_aload_n hx hb dX5_setOf_172 rfl (lv_at hl 0 rfl) ?_
  obtain ⟨v4, hv4, h⟩ := ob h
  refine c_gR X hP hv4 (Nat.le_of_ble_eq_true rfl) (Nat.le_of_ble_eq_true rfl) rfl w_470 dX5_setOf_173 ?_
  refine lv_iload_n hx hb dX5_setOf_176 rfl (lv_at hl 2 rfl) ?_
  obtain ⟨v5, hv5, h⟩ := ob h
  refine c_aldq X hP hv5 (ty := .array .int) rfl (by decide) rfl dX5_setOf_177 ?_
  refine c_aload_n hx hb dX5_setOf_178 rfl (lv_at hl 1 rfl) ?_
  obtain ⟨v6, hv6, h⟩ := ob h
  refine c_gI X hP hv6 (Nat.le_of_ble_eq_true rfl) (Nat.le_of_ble_eq_true rfl) rfl w_416 dX5_setOf_179 ?_
  obtain ⟨v7, hv7, h⟩ := ob h
  refine c_ald X hP hv7 dX5_setOf_182 ?_
  obtain rfl := sj h
  exact c_wi X hP hS (Nat.le_of_ble_eq_true rfl) (Nat.le_of_ble_eq_true rfl) dX5_setOf_183
set_option maxRecDepth 20000 in
set_option maxHeartbeats 4000000 in
theorem N_X5_setOf_155 {p : Program} {l : Launch} {e : Env} {s : State} {m : MethodId} {args : Array Value} {below : List Frame} {meth : Method} {c : Code} {D : cD} {Φ : cG} {x0 : Nat} {k96 : Option Nat → Option Nat → Int32 → Int32 → Int32 → cS → Option (Int32 × cS)}  {x1 : Option Nat} {x2 : Option Nat} {x3 : Int32} {x4 : Int32} {x5 : Int32} {σ : cS} {H : Heap} {locs : List Loc} {ls : Array Slot} {q : Int32 × cS} (X : cX p s m args meth c cX5_setOf 7 (some .int) RX5 D Φ) (hP : cP D Φ σ H) (hS : va_S (cReg Φ) s.heap H locs) (hk96 : ∀ {x1 : Option Nat} {x2 : Option Nat} {x3 : Int32} {x4 : Int32} {x5 : Int32} {σ : cS} {H : Heap} {locs : List Loc} {ls : Array Slot}, cP D Φ σ H → va_S (cReg Φ) s.heap H locs → lv_has ls 7 [(0, cv Φ (some x0)), (1, cv Φ x1), (2, cv Φ x2), (3, .int x3), (4, .int x4), (5, .int x5)] → k96 x1 x2 x3 x4 x5 σ = some q → cWw p l e 4 0 0 106 s m args below meth c D Φ q.2 (some (.int q.1)) H locs 0 0 (F0 m 96 ls [])) (hl : lv_has ls 7 [(0, cv Φ (some x0)), (1, cv Φ x1), (2, cv Φ x2), (3, .int x3), (4, .int x4), (5, .int x5)]) (h : f_X5_setOf_155 k96 x0 x1 x2 x3 x4 x5 σ = some q) : cWw p l e 4 0 0 106 s m args below meth c D Φ q.2 (some (.int q.1)) H locs 0 0 (F0 m 155 ls []) := by
  have hx := X.1
  have hb := X.2.1
  have hown := X.2.2.2.1
  have hts := X.2.2.2.2.1
  have h : (k96 (x1) (x2) (x3) (x4) ((x5 + (1:Int32))) σ) = some q := h
  refine c_iinc (v := (x5 + (1:Int32))) hx hb dX5_setOf_155 hl (k := 5) rfl rfl (Nat.le_of_ble_eq_true rfl) (lvKa rfl (lvKa rfl (lvKa rfl (lvKa rfl (lvKi (lvKa rfl lvK0)))))) rfl (fun ls (hl : lv_has ls 7 [(5, .int (x5 + (1:Int32))), (0, cv Φ (some x0)), (1, cv Φ x1), (2, cv Φ x2), (3, .int x3), (4, .int x4)]) => ?_)
  refine lv_goto (tgt := 96) hx hb dX5_setOf_158 rfl ?_
  exact hk96 hP hS (lv_sub hl [1, 2, 3, 4, 5, 0] rfl) h
set_option maxRecDepth 20000 in
set_option maxHeartbeats 4000000 in
theorem N_X5_setOf_96 {p : Program} {l : Launch} {e : Env} {s : State} {m : MethodId} {args : Array Value} {below : List Frame} {meth : Method} {c : Code} {D : cD} {Φ : cG} {x0 : Nat}  {n : Nat} {x1 : Option Nat} {x2 : Option Nat} {x3 : Int32} {x4 : Int32} {x5 : Int32} {σ : cS} {H : Heap} {locs : List Loc} {ls : Array Slot} {q : Int32 × cS} (X : cX p s m args meth c cX5_setOf 7 (some .int) RX5 D Φ) (hP : cP D Φ σ H) (hS : va_S (cReg Φ) s.heap H locs)  (hl : lv_has ls 7 [(0, cv Φ (some x0)), (1, cv Φ x1), (2, cv Φ x2), (3, .int x3), (4, .int x4), (5, .int x5)]) (h : f_X5_setOf_96  x0 n x1 x2 x3 x4 x5 σ = some q) : cWw p l e 4 0 0 106 s m args below meth c D Φ q.2 (some (.int q.1)) H locs 0 0 (F0 m 96 ls []) := by
  have hx := X.1
  have hb := X.2.1
  have hown := X.2.2.2.1
  have hts := X.2.2.2.2.1
  induction n generalizing x1 x2 x3 x4 x5 σ H locs ls with
  | zero => exact absurd (show none = some q from h) (by simp)
  | succ n ih =>
    have h : ((gI σ x1 7 3).bind (fun v1 => if v1 < x5 then (f_X5_setOf_161 x0 (x1) (x3) (x4) σ) else (if x4 = (0:Int32) then (f_X5_setOf_161 x0 (x1) (x3) (x4) σ) else ((rc σ (some x0) 5).bind (fun v2 => (f_X5_selectorAt v2 (x5) σ).bind (fun v3 => if v3 = none then (f_X5_setOf_155 (f_X5_setOf_96 x0 n) x0 (x1) (x2) (x3) (x4) (x5) σ) else (if ((x4 >>> (x5 &&& 31)) &&& (1:Int32)) = (0:Int32) then (f_X5_setOf_155 (f_X5_setOf_96 x0 n) x0 (x1) (x2) (x3) (x4) (x5) σ) else ((gR σ (some x0) 5 4).bind (fun v4 => (aR σ v4 50 x3).bind (fun v5 => (gR σ (some x0) 5 4).bind (fun v6 => (aR σ v6 50 x3).bind (fun v7 => (rc σ (some x0) 5).bind (fun v8 => (f_X5_findSet v8 (v3) (x2) (v7) σ).bind (fun v9 => (sI σ v5 x5 v9).bind (fun v10 => f_X5_setOf_155 (f_X5_setOf_96 x0 n) x0 (x1) (x2) (x3) (x4) (x5) v10))))))))))))))) = some q := h
    refine lv_iload hx hb dX5_setOf_96 (lv_at hl 5 rfl) ?_
    refine c_aload_n hx hb dX5_setOf_98 rfl (lv_at hl 1 rfl) ?_
    obtain ⟨v1, hv1, h⟩ := ob h
    refine c_gI X hP hv1 (Nat.le_of_ble_eq_true rfl) (Nat.le_of_ble_eq_true rfl) rfl w_416 dX5_setOf_99 ?_
    refine lv_icmp_gt (tgt := 161) hx hb dX5_setOf_102 rfl (fun hc => ?_) (fun hc => ?_)
    · have h := ip hc h
      exact N_X5_setOf_161 X hP hS (lv_sub hl [0, 1, 3, 4] rfl) h
    · have h := ine hc h
      refine lv_iload hx hb dX5_setOf_105 (lv_at hl 4 rfl) ?_
      refine lv_if_eq (tgt := 161) hx hb dX5_setOf_107 rfl (fun hc => ?_) (fun hc => ?_)
      · have h := ip hc h
        exact N_X5_setOf_161 X hP hS (lv_sub hl [0, 1, 3, 4] rfl) h
      · have h := ine hc h
        refine c_aload_n hx hb dX5_setOf_110 rfl (lv_at hl 0 rfl) ?_
        refine lv_iload hx hb dX5_setOf_111 (lv_at hl 5 rfl) ?_
        obtain ⟨v2, hv2, h⟩ := ob h
        obtain ⟨v3, hv3, h⟩ := ob h
        refine c_cr (c_runV X (K_X5_selectorAt l D Φ σ v2 (x5) hv3) hv2 ⟨Nat.le_of_ble_eq_true rfl, by decide⟩ ⟨w_922, ww_X5_selectorAt⟩ rfl hy_X5_selectorAt rfl ⟨(Nat.le_of_ble_eq_true rfl), (Nat.le_of_ble_eq_true rfl)⟩ hP hS hl.1 (Nat.le_of_ble_eq_true rfl) dX5_setOf_113 rfl ⟨(Nat.le_of_ble_eq_true rfl), (Nat.le_of_ble_eq_true rfl)⟩) ?_
        refine c_astore hx hb dX5_setOf_116 hl (Nat.le_of_ble_eq_true rfl) (lvKa rfl (lvKa rfl (lvKa rfl (lvKa rfl (lvKa rfl (lvKi lvK0)))))) rfl (fun ls (hl : lv_has ls 7 [(6, cv Φ v3), (0, cv Φ (some x0)), (1, cv Φ x1), (2, cv Φ x2), (3, .int x3), (4, .int x4), (5, .int x5)]) => ?_)
        refine c_aload hx hb dX5_setOf_118 (lv_at hl 0 rfl) ?_
        refine c_ifnull (Φ := Φ) (tgt := 155) hx hb dX5_setOf_120 rfl (fun hc => ?_) (fun hc => ?_)
        · have h := ip hc h
          exact N_X5_setOf_155 X hP hS ih (lv_sub hl [1, 2, 3, 4, 5, 6] rfl) h
        · have h := ine hc h
          refine lv_iload hx hb dX5_setOf_123 (lv_at hl 5 rfl) ?_
          refine lv_iload hx hb dX5_setOf_125 (lv_at hl 6 rfl) ?_
          refine lv_ishr hx hb dX5_setOf_127 ?_
          refine lv_iconst (v := (1:Int32)) hx hb dX5_setOf_128 (by decide) ?_
          refine lv_iand hx hb dX5_setOf_129 ?_
          refine lv_if_eq (tgt := 155) hx hb dX5_setOf_130 rfl (fun hc => ?_) (fun hc => ?_)
          · have h := ip hc h
            exact N_X5_setOf_155 X hP hS ih (lv_sub hl [1, 2, 3, 4, 5, 6] rfl) h
          · have h := ine hc h
            refine c_aload_n hx hb dX5_setOf_133 rfl (lv_at hl 1 rfl) ?_
            obtain ⟨v4, hv4, h⟩ := ob h
            refine c_gR X hP hv4 (Nat.le_of_ble_eq_true rfl) (Nat.le_of_ble_eq_true rfl) rfl w_470 dX5_setOf_134 ?_
            refine lv_iload_n hx hb dX5_setOf_137 rfl (lv_at hl 4 rfl) ?_
            obtain ⟨v5, hv5, h⟩ := ob h
            refine c_aldq X hP hv5 (ty := .array .int) rfl (by decide) rfl dX5_setOf_138 ?_
            refine lv_iload hx hb dX5_setOf_139 (lv_at hl 6 rfl) ?_
            refine c_aload_n hx hb dX5_setOf_141 rfl (lv_at hl 1 rfl) ?_
            refine c_aload hx hb dX5_setOf_142 (lv_at hl 0 rfl) ?_
            refine c_aload_n hx hb dX5_setOf_144 rfl (lv_at hl 3 rfl) ?_
            refine c_aload_n hx hb dX5_setOf_145 rfl (lv_at hl 1 rfl) ?_
            obtain ⟨v6, hv6, h⟩ := ob h
            refine c_gR X hP hv6 (Nat.le_of_ble_eq_true rfl) (Nat.le_of_ble_eq_true rfl) rfl w_470 dX5_setOf_146 ?_
            refine lv_iload_n hx hb dX5_setOf_149 rfl (lv_at hl 4 rfl) ?_
            obtain ⟨v7, hv7, h⟩ := ob h
            refine c_aldq X hP hv7 (ty := .array .int) rfl (by decide) rfl dX5_setOf_150 ?_
            obtain ⟨v8, hv8, h⟩ := ob h
            obtain ⟨v9, hv9, h⟩ := ob h
            refine c_cr (c_runV X (K_X5_findSet l D Φ σ v8 (v3) (x2) (v7) hv9) hv8 ⟨Nat.le_of_ble_eq_true rfl, by decide⟩ ⟨w_923, ww_X5_findSet⟩ rfl hy_X5_findSet rfl ⟨(Nat.le_of_ble_eq_true rfl), (Nat.le_of_ble_eq_true rfl)⟩ hP hS hl.1 (Nat.le_of_ble_eq_true rfl) dX5_setOf_151 rfl ⟨(Nat.le_of_ble_eq_true rfl), (Nat.le_of_ble_eq_true rfl)⟩) ?_
            obtain ⟨v10, hv10, h⟩ := ob h
            refine c_ast X hP hS hv10 dX5_setOf_154 (fun H locs hP hS => ?_)
            exact N_X5_setOf_155 X hP hS ih (lv_sub hl [1, 2, 3, 4, 5, 6] rfl) h
set_option maxRecDepth 20000 in
set_option maxHeartbeats 4000000 in
theorem N_X5_setOf_78 {p : Program} {l : Launch} {e : Env} {s : State} {m : MethodId} {args : Array Value} {below : List Frame} {meth : Method} {c : Code} {D : cD} {Φ : cG} {x0 : Nat}   {x1 : Option Nat} {x2 : Option Nat} {x3 : Int32} {σ : cS} {H : Heap} {locs : List Loc} {ls : Array Slot} {q : Int32 × cS} (X : cX p s m args meth c cX5_setOf 7 (some .int) RX5 D Φ) (hP : cP D Φ σ H) (hS : va_S (cReg Φ) s.heap H locs)  (hl : lv_has ls 7 [(0, cv Φ (some x0)), (1, cv Φ x1), (2, cv Φ x2), (3, .int x3)]) (h : f_X5_setOf_78  x0 x1 x2 x3 σ = some q) : cWw p l e 4 0 0 106 s m args below meth c D Φ q.2 (some (.int q.1)) H locs 0 0 (F0 m 78 ls []) := by
  have hx := X.1
  have hb := X.2.1
  have hown := X.2.2.2.1
  have hts := X.2.2.2.2.1
  have h : ((gI σ x1 7 9).bind (fun v1 => (gR σ (some x0) 5 5).bind (fun v2 => (aI σ v2 x3).bind (fun v3 => f_X5_setOf_96 x0 4000 (x1) (x2) (x3) ((v1 &&& (v3 ^^^ ((-1):Int32)))) ((0:Int32)) σ)))) = some q := h
  refine c_aload_n hx hb dX5_setOf_78 rfl (lv_at hl 1 rfl) ?_
  obtain ⟨v1, hv1, h⟩ := ob h
  refine c_gI X hP hv1 (Nat.le_of_ble_eq_true rfl) (Nat.le_of_ble_eq_true rfl) rfl w_428 dX5_setOf_79 ?_
  refine c_aload_n hx hb dX5_setOf_82 rfl (lv_at hl 0 rfl) ?_
  obtain ⟨v2, hv2, h⟩ := ob h
  refine c_gR X hP hv2 (Nat.le_of_ble_eq_true rfl) (Nat.le_of_ble_eq_true rfl) rfl w_471 dX5_setOf_83 ?_
  refine lv_iload_n hx hb dX5_setOf_86 rfl (lv_at hl 3 rfl) ?_
  obtain ⟨v3, hv3, h⟩ := ob h
  refine c_ald X hP hv3 dX5_setOf_87 ?_
  refine lv_iconst (v := ((-1):Int32)) hx hb dX5_setOf_88 (by decide) ?_
  refine lv_ixor hx hb dX5_setOf_89 ?_
  refine lv_iand hx hb dX5_setOf_90 ?_
  refine c_istore hx hb dX5_setOf_91 hl (Nat.le_of_ble_eq_true rfl) (lvKa rfl (lvKa rfl (lvKa rfl (lvKi lvK0)))) rfl (fun ls (hl : lv_has ls 7 [(4, .int (v1 &&& (v3 ^^^ ((-1):Int32)))), (0, cv Φ (some x0)), (1, cv Φ x1), (2, cv Φ x2), (3, .int x3)]) => ?_)
  refine lv_iconst (v := (0:Int32)) hx hb dX5_setOf_93 (by decide) ?_
  refine c_istore hx hb dX5_setOf_94 hl (Nat.le_of_ble_eq_true rfl) (lvKi (lvKa rfl (lvKa rfl (lvKa rfl (lvKa rfl lvK0))))) rfl (fun ls (hl : lv_has ls 7 [(5, .int (0:Int32)), (4, .int (v1 &&& (v3 ^^^ ((-1):Int32)))), (0, cv Φ (some x0)), (1, cv Φ x1), (2, cv Φ x2), (3, .int x3)]) => ?_)
  exact N_X5_setOf_96 X hP hS (lv_sub hl [2, 3, 4, 5, 1, 0] rfl) h
set_option maxRecDepth 20000 in
set_option maxHeartbeats 4000000 in
theorem N_X5_setOf_13 {p : Program} {l : Launch} {e : Env} {s : State} {m : MethodId} {args : Array Value} {below : List Frame} {meth : Method} {c : Code} {D : cD} {Φ : cG} {x0 : Nat}   {x1 : Option Nat} {x2 : Option Nat} {y0 : Int32} {σ : cS} {H : Heap} {locs : List Loc} {ls : Array Slot} {q : Int32 × cS} (X : cX p s m args meth c cX5_setOf 7 (some .int) RX5 D Φ) (hP : cP D Φ σ H) (hS : va_S (cReg Φ) s.heap H locs)  (hl : lv_has ls 7 [(0, cv Φ (some x0)), (1, cv Φ x1), (2, cv Φ x2)]) (h : f_X5_setOf_13  x0 x1 x2 y0 σ = some q) : cWw p l e 4 0 0 106 s m args below meth c D Φ q.2 (some (.int q.1)) H locs 0 0 (F0 m 13 ls [.int y0]) := by
  have hx := X.1
  have hb := X.2.1
  have hown := X.2.2.2.1
  have hts := X.2.2.2.2.1
  have h : (if y0 < (0:Int32) then (f_X5_setOf_40 x0 σ) else (if (30:Int32) < y0 then (f_X5_setOf_40 x0 σ) else ((gI σ x1 7 3).bind (fun v1 => if v1 < (0:Int32) then (f_X5_setOf_40 x0 σ) else ((gI σ x1 7 3).bind (fun v2 => if v2 < (30:Int32) then ((gR σ (some x0) 5 6).bind (fun v3 => (aI σ v3 y0).bind (fun v4 => (gR σ (some x0) 5 0).bind (fun v5 => (gI σ v5 10 3).bind (fun v6 => if v4 = v6 then (f_X5_setOf_78 x0 (x1) (x2) (y0) σ) else ((gR σ (some x0) 5 6).bind (fun v7 => (gR σ (some x0) 5 0).bind (fun v8 => (gI σ v8 10 3).bind (fun v9 => (sI σ v7 y0 v9).bind (fun v10 => (gR v10 (some x0) 5 5).bind (fun v11 => (sI v10 v11 y0 (0:Int32)).bind (fun v12 => f_X5_setOf_78 x0 (x1) (x2) (y0) v12)))))))))))) else (f_X5_setOf_40 x0 σ))))))) = some q := h
  refine c_istore_n hx hb dX5_setOf_13 rfl hl (Nat.le_of_ble_eq_true rfl) (lvKa rfl (lvKa rfl (lvKr lvK0))) rfl (fun ls (hl : lv_has ls 7 [(3, .int y0), (0, cv Φ (some x0)), (1, cv Φ x1), (2, cv Φ x2)]) => ?_)
  refine lv_iload_n hx hb dX5_setOf_14 rfl (lv_at hl 0 rfl) ?_
  refine lv_if_lt (tgt := 40) hx hb dX5_setOf_15 rfl (fun hc => ?_) (fun hc => ?_)
  · have h := ip hc h
    exact N_X5_setOf_40 X hP hS (lv_sub hl [] rfl) h
  · have h := ine hc h
    refine lv_iload_n hx hb dX5_setOf_18 rfl (lv_at hl 0 rfl) ?_
    refine lv_bipush (v := (30:Int32)) hx hb dX5_setOf_19 (by decide) ?_
    refine lv_icmp_gt (tgt := 40) hx hb dX5_setOf_21 rfl (fun hc => ?_) (fun hc => ?_)
    · have h := ip hc h
      exact N_X5_setOf_40 X hP hS (lv_sub hl [] rfl) h
    · have h := ine hc h
      refine c_aload_n hx hb dX5_setOf_24 rfl (lv_at hl 2 rfl) ?_
      obtain ⟨v1, hv1, h⟩ := ob h
      refine c_gI X hP hv1 (Nat.le_of_ble_eq_true rfl) (Nat.le_of_ble_eq_true rfl) rfl w_416 dX5_setOf_25 ?_
      refine lv_if_lt (tgt := 40) hx hb dX5_setOf_28 rfl (fun hc => ?_) (fun hc => ?_)
      · have h := ip hc h
        exact N_X5_setOf_40 X hP hS (lv_sub hl [] rfl) h
      · have h := ine hc h
        refine c_aload_n hx hb dX5_setOf_31 rfl (lv_at hl 2 rfl) ?_
        obtain ⟨v2, hv2, h⟩ := ob h
        refine c_gI X hP hv2 (Nat.le_of_ble_eq_true rfl) (Nat.le_of_ble_eq_true rfl) rfl w_416 dX5_setOf_32 ?_
        refine lv_bipush (v := (30:Int32)) hx hb dX5_setOf_35 (by decide) ?_
        refine lv_icmp_lt (tgt := 42) hx hb dX5_setOf_37 rfl (fun hc => ?_) (fun hc => ?_)
        · have h := ip hc h
          refine c_aload_n hx hb dX5_setOf_42 rfl (lv_at hl 1 rfl) ?_
          obtain ⟨v3, hv3, h⟩ := ob h
          refine c_gR X hP hv3 (Nat.le_of_ble_eq_true rfl) (Nat.le_of_ble_eq_true rfl) rfl w_472 dX5_setOf_43 ?_
          refine lv_iload_n hx hb dX5_setOf_46 rfl (lv_at hl 0 rfl) ?_
          obtain ⟨v4, hv4, h⟩ := ob h
          refine c_ald X hP hv4 dX5_setOf_47 ?_
          refine c_aload_n hx hb dX5_setOf_48 rfl (lv_at hl 1 rfl) ?_
          obtain ⟨v5, hv5, h⟩ := ob h
          refine c_gR X hP hv5 (Nat.le_of_ble_eq_true rfl) (Nat.le_of_ble_eq_true rfl) rfl w_464 dX5_setOf_49 ?_
          obtain ⟨v6, hv6, h⟩ := ob h
          refine c_gI X hP hv6 (Nat.le_of_ble_eq_true rfl) (Nat.le_of_ble_eq_true rfl) rfl w_333 dX5_setOf_52 ?_
          refine lv_icmp_eq (tgt := 78) hx hb dX5_setOf_55 rfl (fun hc => ?_) (fun hc => ?_)
          · have h := ip hc h
            exact N_X5_setOf_78 X hP hS (lv_sub hl [1, 2, 3, 0] rfl) h
          · have h := ine hc h
            refine c_aload_n hx hb dX5_setOf_58 rfl (lv_at hl 1 rfl) ?_
            obtain ⟨v7, hv7, h⟩ := ob h
            refine c_gR X hP hv7 (Nat.le_of_ble_eq_true rfl) (Nat.le_of_ble_eq_true rfl) rfl w_472 dX5_setOf_59 ?_
            refine lv_iload_n hx hb dX5_setOf_62 rfl (lv_at hl 0 rfl) ?_
            refine c_aload_n hx hb dX5_setOf_63 rfl (lv_at hl 1 rfl) ?_
            obtain ⟨v8, hv8, h⟩ := ob h
            refine c_gR X hP hv8 (Nat.le_of_ble_eq_true rfl) (Nat.le_of_ble_eq_true rfl) rfl w_464 dX5_setOf_64 ?_
            obtain ⟨v9, hv9, h⟩ := ob h
            refine c_gI X hP hv9 (Nat.le_of_ble_eq_true rfl) (Nat.le_of_ble_eq_true rfl) rfl w_333 dX5_setOf_67 ?_
            obtain ⟨v10, hv10, h⟩ := ob h
            refine c_ast X hP hS hv10 dX5_setOf_70 (fun H locs hP hS => ?_)
            refine c_aload_n hx hb dX5_setOf_71 rfl (lv_at hl 1 rfl) ?_
            obtain ⟨v11, hv11, h⟩ := ob h
            refine c_gR X hP hv11 (Nat.le_of_ble_eq_true rfl) (Nat.le_of_ble_eq_true rfl) rfl w_471 dX5_setOf_72 ?_
            refine lv_iload_n hx hb dX5_setOf_75 rfl (lv_at hl 0 rfl) ?_
            refine lv_iconst (v := (0:Int32)) hx hb dX5_setOf_76 (by decide) ?_
            obtain ⟨v12, hv12, h⟩ := ob h
            refine c_ast X hP hS hv12 dX5_setOf_77 (fun H locs hP hS => ?_)
            exact N_X5_setOf_78 X hP hS (lv_sub hl [1, 2, 3, 0] rfl) h
        · have h := ine hc h
          exact N_X5_setOf_40 X hP hS (lv_sub hl [] rfl) h
set_option maxRecDepth 20000 in
set_option maxHeartbeats 4000000 in
theorem K_X5_setOf (l : Launch) (D : cD) (Φ : cG) (σ : cS) (x0 : Nat) (x1 : Option Nat) (x2 : Option Nat) {q : Int32 × cS} (h : f_X5_setOf x0 x1 x2 σ = some q) : Met l yX5_setOf (Cond.code yX5_setOf cX5_setOf 7 (some .int) :: BG) (rA 4 0 0 106) (cPc D Φ σ [cv Φ (some x0), cv Φ x1, cv Φ x2]) (cQw D Φ q.2 (some (.int q.1))) 0 0 (cReg Φ) := by
  refine Met.ofW (cc := cX5_setOf) (maxL := 7) (ret := (some .int)) (by decide) rfl ?_
  intro p e s m args below meth c s₁ B hml hv
  obtain ⟨rfl, hP, hK, hZ⟩ := hv
  have X : cX p s m [cv Φ (some x0), cv Φ x1, cv Φ x2].toArray meth c cX5_setOf 7 (some .int) RX5 D Φ := cX_of B hml hK hZ
  have hx := X.1
  have hb := X.2.1
  have hown := X.2.2.2.1
  have hts := X.2.2.2.2.1
  have hl := lv_entry [cv Φ (some x0), cv Φ x1, cv Φ x2] (n := 7) (by simp only [lgs_r, lgs_i, lgs_l, lgs_0, List.length]; exact Nat.le_of_ble_eq_true rfl)
  rw [lg_entry_eq]
  generalize (lg_sl [cv Φ (some x0), cv Φ x1, cv Φ x2] ++ List.replicate (7 - (lg_sl [cv Φ (some x0), cv Φ x1, cv Φ x2]).length) Slot.unset).toArray = ls at hl ⊢
  simp only [lv_args_r, lv_args_i, lv_args_l, lv_args_0] at hl
  have hl : lv_has ls 7 [(0, cv Φ (some x0)), (1, cv Φ x1), (2, cv Φ x2)] := hl
  have hS : va_S (cReg Φ) s.heap s.heap [] := va_S.rf
  show cWw p l e 4 0 0 106 s m [cv Φ (some x0), cv Φ x1, cv Φ x2].toArray below meth c D Φ q.2 (some (.int q.1)) s.heap [] 0 0 (F0 m 0 ls [])
  have h : (if x2 = none then (f_X5_setOf_13 x0 (x1) (x2) ((30:Int32)) σ) else ((gI σ x2 3 0).bind (fun v1 => f_X5_setOf_13 x0 (x1) (x2) (v1) σ))) = some q := h
  refine c_aload_n hx hb dX5_setOf_0 rfl (lv_at hl 2 rfl) ?_
  refine c_ifnonnull (Φ := Φ) (tgt := 9) hx hb dX5_setOf_1 rfl (fun hc => ?_) (fun hc => ?_)
  · have h := ine hc h
    refine c_aload_n hx hb dX5_setOf_9 rfl (lv_at hl 2 rfl) ?_
    obtain ⟨v1, hv1, h⟩ := ob h
    refine c_gI X hP hv1 (Nat.le_of_ble_eq_true rfl) (Nat.le_of_ble_eq_true rfl) rfl w_226 dX5_setOf_10 ?_
    exact N_X5_setOf_13 X hP hS (lv_sub hl [0, 1, 2] rfl) h
  · have h := ip hc h
    refine lv_bipush (v := (30:Int32)) hx hb dX5_setOf_4 (by decide) ?_
    refine lv_goto (tgt := 13) hx hb dX5_setOf_6 rfl ?_
    exact N_X5_setOf_13 X hP hS (lv_sub hl [0, 1, 2] rfl) h
theorem ww_X5_setOf : Cond.instanceMethod yX5_setOf ∈ BG ∧ Cond.selects (yX5_setOf).cls yX5_setOf yX5_setOf ∈ BG ∧ Cond.initialized (yX5_setOf).cls ∈ BG ∧ Cond.code yX5_setOf cX5_setOf 7 (some .int) ∈ BG := ⟨w_919, w_920, w_61, w_921⟩
theorem hy_X5_setOf : (yX5_setOf).cls ≠ "java/lang/invoke/MethodHandle" ∧ (yX5_setOf).cls ≠ "java/lang/invoke/VarHandle" ∧ (parseMethodDescriptor (yX5_setOf).desc).map (fun d => d.parameters.length) = some 2 := ⟨by decide, by decide, by decide +kernel⟩
def f_X1_prepare_94 (k5 : Option Nat → cS → Option (cS)) (x0 : Nat) (x1 : Option Nat) (y0 : Option Nat) (y1 : Int32) (σ : cS) : Option (cS) := (pI σ y0 6 12 y1).bind (fun v1 => (gR v1 x1 6 14).bind (fun v2 => k5 (v2) v1))
def f_X1_prepare_78 (k5 : Option Nat → cS → Option (cS)) (x0 : Nat) (x1 : Option Nat) (y0 : Option Nat) (σ : cS) : Option (cS) := f_X1_prepare_94 k5 x0 (x1) (y0) ((0:Int32)) σ
def f_X1_prepare_63 (k5 : Option Nat → cS → Option (cS)) (x0 : Nat) (x1 : Option Nat) (x2 : Option Nat) (y0 : Option Nat) (y1 : Int32) (σ : cS) : Option (cS) := (pI σ y0 6 13 y1).bind (fun v1 => if x2 = none then (f_X1_prepare_78 k5 x0 (x1) (x1) v1) else ((gR v1 x2 8 2).bind (fun v2 => if v2 = none then (f_X1_prepare_78 k5 x0 (x1) (x1) v1) else ((gR v1 x2 8 2).bind (fun v3 => (gR v1 v3 3 18).bind (fun v4 => (gI v1 v4 6 12).bind (fun v5 => f_X1_prepare_94 k5 x0 (x1) (x1) ((v5 + (1:Int32))) v1)))))))
def f_X1_prepare_38 (k5 : Option Nat → cS → Option (cS)) (x0 : Nat) (x1 : Option Nat) (x2 : Option Nat) (y0 : Int32) (σ : cS) : Option (cS) := if y0 = (0:Int32) then (f_X1_prepare_63 k5 x0 (x1) (x2) (x1) ((0:Int32)) σ) else ((gR σ (some x0) 1 1).bind (fun v1 => (gR σ x1 6 2).bind (fun v2 => (gR σ x2 8 2).bind (fun v3 => (rc σ v1 5).bind (fun v4 => (f_X5_setOf v4 (v2) (v3) σ).bind (fun v5 => f_X1_prepare_63 k5 x0 (x1) (x2) (x1) (v5.1) v5.2))))))
def f_X1_prepare_37 (k5 : Option Nat → cS → Option (cS)) (x0 : Nat) (x1 : Option Nat) (x2 : Option Nat) (σ : cS) : Option (cS) := f_X1_prepare_38 k5 x0 (x1) (x2) ((0:Int32)) σ
def f_X1_prepare_5  (x0 : Nat) : Nat → Option Nat → cS → Option (cS)
  | 0, _, _ => none
  | n + 1, x1, σ => if x1 = none then (some σ) else ((gR σ x1 6 1).bind (fun v1 => if v1 = none then (f_X1_prepare_37 (f_X1_prepare_5 x0 n) x0 (x1) (v1) σ) else ((gI σ v1 8 4).bind (fun v2 => if v2 = (0:Int32) then (f_X1_prepare_37 (f_X1_prepare_5 x0 n) x0 (x1) (v1) σ) else ((rc σ (some x0) 1).bind (fun v3 => (f_X1_isThere v3 (v1) σ).bind (fun v4 => if v4 = (0:Int32) then (f_X1_prepare_37 (f_X1_prepare_5 x0 n) x0 (x1) (v1) σ) else (f_X1_prepare_38 (f_X1_prepare_5 x0 n) x0 (x1) (v1) ((1:Int32)) σ))))))))
def f_X1_prepare (x0 : Nat)  (σ : cS) : Option (cS) := (gR σ (some x0) 1 6).bind (fun v1 => f_X1_prepare_5 x0 4000 (v1) σ)
set_option maxRecDepth 20000 in
set_option maxHeartbeats 4000000 in
theorem N_X1_prepare_94 {p : Program} {l : Launch} {e : Env} {s : State} {m : MethodId} {args : Array Value} {below : List Frame} {meth : Method} {c : Code} {D : cD} {Φ : cG} {x0 : Nat} {k5 : Option Nat → cS → Option (cS)}  {x1 : Option Nat} {y0 : Option Nat} {y1 : Int32} {σ : cS} {H : Heap} {locs : List Loc} {ls : Array Slot} {q : cS} (X : cX p s m args meth c cX1_prepare 4 none RX1 D Φ) (hP : cP D Φ σ H) (hS : va_S (cReg Φ) s.heap H locs) (hk5 : ∀ {x1 : Option Nat} {σ : cS} {H : Heap} {locs : List Loc} {ls : Array Slot}, cP D Φ σ H → va_S (cReg Φ) s.heap H locs → lv_has ls 4 [(0, cv Φ (some x0)), (1, cv Φ x1)] → k5 x1 σ = some q → cWw p l e 5 0 0 132 s m args below meth c D Φ q none H locs 0 0 (F0 m 5 ls [])) (hl : lv_has ls 4 [(0, cv Φ (some x0)), (1, cv Φ x1)]) (h : f_X1_prepare_94 k5 x0 x1 y0 y1 σ = some q) : cWw p l e 5 0 0 132 s m args below meth c D Φ q none H locs 0 0 (F0 m 94 ls [.int y1, cv Φ y0]) := by
  have hx := X.1
  have hb := X.2.1
  have hown := X.2.2.2.1
  have hts := X.2.2.2.2.1
  have h : ((pI σ y0 6 12 y1).bind (fun v1 => (gR v1 x1 6 14).bind (fun v2 => k5 (v2) v1))) = some q := h
  obtain ⟨v1, hv1, h⟩ := ob h
  refine c_pI X hP hS hv1 (Nat.le_of_ble_eq_true rfl) (Nat.le_of_ble_eq_true rfl) rfl rfl (Or.inl rfl) w_187 dX1_prepare_94 (fun H locs hP hS => ?_)
  refine c_aload_n hx hb dX1_prepare_97 rfl (lv_at hl 1 rfl) ?_
  obtain ⟨v2, hv2, h⟩ := ob h
  refine c_gR X hP hv2 (Nat.le_of_ble_eq_true rfl) (Nat.le_of_ble_eq_true rfl) rfl w_190 dX1_prepare_98 ?_
  refine c_astore_n hx hb dX1_prepare_101 rfl hl (Nat.le_of_ble_eq_true rfl) (lvKr (lvKa rfl lvK0)) rfl (fun ls (hl : lv_has ls 4 [(1, cv Φ v2), (0, cv Φ (some x0))]) => ?_)
  refine lv_goto (tgt := 5) hx hb dX1_prepare_102 rfl ?_
  exact hk5 hP hS (lv_sub hl [1, 0] rfl) h
set_option maxRecDepth 20000 in
set_option maxHeartbeats 4000000 in
theorem N_X1_prepare_78 {p : Program} {l : Launch} {e : Env} {s : State} {m : MethodId} {args : Array Value} {below : List Frame} {meth : Method} {c : Code} {D : cD} {Φ : cG} {x0 : Nat} {k5 : Option Nat → cS → Option (cS)}  {x1 : Option Nat} {y0 : Option Nat} {σ : cS} {H : Heap} {locs : List Loc} {ls : Array Slot} {q : cS} (X : cX p s m args meth c cX1_prepare 4 none RX1 D Φ) (hP : cP D Φ σ H) (hS : va_S (cReg Φ) s.heap H locs) (hk5 : ∀ {x1 : Option Nat} {σ : cS} {H : Heap} {locs : List Loc} {ls : Array Slot}, cP D Φ σ H → va_S (cReg Φ) s.heap H locs → lv_has ls 4 [(0, cv Φ (some x0)), (1, cv Φ x1)] → k5 x1 σ = some q → cWw p l e 5 0 0 132 s m args below meth c D Φ q none H locs 0 0 (F0 m 5 ls [])) (hl : lv_has ls 4 [(0, cv Φ (some x0)), (1, cv Φ x1)]) (h : f_X1_prepare_78 k5 x0 x1 y0 σ = some q) : cWw p l e 5 0 0 132 s m args below meth c D Φ q none H locs 0 0 (F0 m 78 ls [cv Φ y0]) := by
  have hx := X.1
  have hb := X.2.1
  have hown := X.2.2.2.1
  have hts := X.2.2.2.2.1
  have h : (f_X1_prepare_94 k5 x0 (x1) (y0) ((0:Int32)) σ) = some q := h
  refine lv_iconst (v := (0:Int32)) hx hb dX1_prepare_78 (by decide) ?_
  refine lv_goto (tgt := 94) hx hb dX1_prepare_79 rfl ?_
  exact N_X1_prepare_94 X hP hS hk5 (lv_sub hl [0, 1] rfl) h
set_option maxRecDepth 20000 in
set_option maxHeartbeats 4000000 in
theorem N_X1_prepare_63 {p : Program} {l : Launch} {e : Env} {s : State} {m : MethodId} {args : Array Value} {below : List Frame} {meth : Method} {c : Code} {D : cD} {Φ : cG} {x0 : Nat} {k5 : Option Nat → cS → Option (cS)}  {x1 : Option Nat} {x2 : Option Nat} {y0 : Option Nat} {y1 : Int32} {σ : cS} {H : Heap} {locs : List Loc} {ls : Array Slot} {q : cS} (X : cX p s m args meth c cX1_prepare 4 none RX1 D Φ) (hP : cP D Φ σ H) (hS : va_S (cReg Φ) s.heap H locs) (hk5 : ∀ {x1 : Option Nat} {σ : cS} {H : Heap} {locs : List Loc} {ls : Array Slot}, cP D Φ σ H → va_S (cReg Φ) s.heap H locs → lv_has ls 4 [(0, cv Φ (some x0)), (1, cv Φ x1)] → k5 x1 σ = some q → cWw p l e 5 0 0 132 s m args below meth c D Φ q none H locs 0 0 (F0 m 5 ls [])) (hl : lv_has ls 4 [(0, cv Φ (some x0)), (1, cv Φ x1), (2, cv Φ x2)]) (h : f_X1_prepare_63 k5 x0 x1 x2 y0 y1 σ = some q) : cWw p l e 5 0 0 132 s m args below meth c D Φ q none H locs 0 0 (F0 m 63 ls [.int y1, cv Φ y0]) := by
  have hx := X.1
  have hb := X.2.1
  have hown := X.2.2.2.1
  have hts := X.2.2.2.2.1
  have h : ((pI σ y0 6 13 y1).bind (fun v1 => if x2 = none then (f_X1_prepare_78 k5 x0 (x1) (x1) v1) else ((gR v1 x2 8 2).bind (fun v2 => if v2 = none then (f_X1_prepare_78 k5 x0 (x1) (x1) v1) else ((gR v1 x2 8 2).bind (fun v3 => (gR v1 v3 3 18).bind (fun v4 => (gI v1 v4 6 12).bind (fun v5 => f_X1_prepare_94 k5 x0 (x1) (x1) ((v5 + (1:Int32))) v1)))))))) = some q := h
  obtain ⟨v1, hv1, h⟩ := ob h
  refine c_pI X hP hS hv1 (Nat.le_of_ble_eq_true rfl) (Nat.le_of_ble_eq_true rfl) rfl rfl (Or.inl rfl) w_189 dX1_prepare_63 (fun H locs hP hS => ?_)
  refine c_aload_n hx hb dX1_prepare_66 rfl (lv_at hl 1 rfl) ?_
  refine c_aload_n hx hb dX1_prepare_67 rfl (lv_at hl 2 rfl) ?_
  refine c_ifnull (Φ := Φ) (tgt := 78) hx hb dX1_prepare_68 rfl (fun hc => ?_) (fun hc => ?_)
  · have h := ip hc h
    exact N_X1_prepare_78 X hP hS hk5 (lv_sub hl [0, 1] rfl) h
  · have h := ine hc h
    refine c_aload_n hx hb dX1_prepare_71 rfl (lv_at hl 2 rfl) ?_
    obtain ⟨v2, hv2, h⟩ := ob h
    refine c_gR X hP hv2 (Nat.le_of_ble_eq_true rfl) (Nat.le_of_ble_eq_true rfl) rfl w_1263 dX1_prepare_72 ?_
    refine c_ifnonnull (Φ := Φ) (tgt := 82) hx hb dX1_prepare_75 rfl (fun hc => ?_) (fun hc => ?_)
    · have h := ine hc h
      refine c_aload_n hx hb dX1_prepare_82 rfl (lv_at hl 2 rfl) ?_
      obtain ⟨v3, hv3, h⟩ := ob h
      refine c_gR X hP hv3 (Nat.le_of_ble_eq_true rfl) (Nat.le_of_ble_eq_true rfl) rfl w_1263 dX1_prepare_83 ?_
      obtain ⟨v4, hv4, h⟩ := ob h
      refine c_gR X hP hv4 (Nat.le_of_ble_eq_true rfl) (Nat.le_of_ble_eq_true rfl) rfl w_278 dX1_prepare_86 ?_
      obtain ⟨v5, hv5, h⟩ := ob h
      refine c_gI X hP hv5 (Nat.le_of_ble_eq_true rfl) (Nat.le_of_ble_eq_true rfl) rfl w_187 dX1_prepare_89 ?_
      refine lv_iconst (v := (1:Int32)) hx hb dX1_prepare_92 (by decide) ?_
      refine lv_iadd hx hb dX1_prepare_93 ?_
      exact N_X1_prepare_94 X hP hS hk5 (lv_sub hl [0, 1] rfl) h
    · have h := ip hc h
      exact N_X1_prepare_78 X hP hS hk5 (lv_sub hl [0, 1] rfl) h
set_option maxRecDepth 20000 in
set_option maxHeartbeats 4000000 in
theorem N_X1_prepare_38 {p : Program} {l : Launch} {e : Env} {s : State} {m : MethodId} {args : Array Value} {below : List Frame} {meth : Method} {c : Code} {D : cD} {Φ : cG} {x0 : Nat} {k5 : Option Nat → cS → Option (cS)}  {x1 : Option Nat} {x2 : Option Nat} {y0 : Int32} {σ : cS} {H : Heap} {locs : List Loc} {ls : Array Slot} {q : cS} (X : cX p s m args meth c cX1_prepare 4 none RX1 D Φ) (hP : cP D Φ σ H) (hS : va_S (cReg Φ) s.heap H locs) (hk5 : ∀ {x1 : Option Nat} {σ : cS} {H : Heap} {locs : List Loc} {ls : Array Slot}, cP D Φ σ H → va_S (cReg Φ) s.heap H locs → lv_has ls 4 [(0, cv Φ (some x0)), (1, cv Φ x1)] → k5 x1 σ = some q → cWw p l e 5 0 0 132 s m args below meth c D Φ q none H locs 0 0 (F0 m 5 ls [])) (hl : lv_has ls 4 [(0, cv Φ (some x0)), (1, cv Φ x1), (2, cv Φ x2)]) (h : f_X1_prepare_38 k5 x0 x1 x2 y0 σ = some q) : cWw p l e 5 0 0 132 s m args below meth c D Φ q none H locs 0 0 (F0 m 38 ls [.int y0]) := by
  have hx := X.1
  have hb := X.2.1
  have hown := X.2.2.2.1
  have hts := X.2.2.2.2.1
  have h : (if y0 = (0:Int32) then (f_X1_prepare_63 k5 x0 (x1) (x2) (x1) ((0:Int32)) σ) else ((gR σ (some x0) 1 1).bind (fun v1 => (gR σ x1 6 2).bind (fun v2 => (gR σ x2 8 2).bind (fun v3 => (rc σ v1 5).bind (fun v4 => (f_X5_setOf v4 (v2) (v3) σ).bind (fun v5 => f_X1_prepare_63 k5 x0 (x1) (x2) (x1) (v5.1) v5.2))))))) = some q := h
  refine c_istore_n hx hb dX1_prepare_38 rfl hl (Nat.le_of_ble_eq_true rfl) (lvKa rfl (lvKa rfl (lvKr lvK0))) rfl (fun ls (hl : lv_has ls 4 [(3, .int y0), (0, cv Φ (some x0)), (1, cv Φ x1), (2, cv Φ x2)]) => ?_)
  refine c_aload_n hx hb dX1_prepare_39 rfl (lv_at hl 2 rfl) ?_
  refine lv_iload_n hx hb dX1_prepare_40 rfl (lv_at hl 0 rfl) ?_
  refine lv_if_eq (tgt := 62) hx hb dX1_prepare_41 rfl (fun hc => ?_) (fun hc => ?_)
  · have h := ip hc h
    refine lv_iconst (v := (0:Int32)) hx hb dX1_prepare_62 (by decide) ?_
    exact N_X1_prepare_63 X hP hS hk5 (lv_sub hl [1, 2, 3] rfl) h
  · have h := ine hc h
    refine c_aload_n hx hb dX1_prepare_44 rfl (lv_at hl 1 rfl) ?_
    obtain ⟨v1, hv1, h⟩ := ob h
    refine c_gR X hP hv1 (Nat.le_of_ble_eq_true rfl) (Nat.le_of_ble_eq_true rfl) rfl w_499 dX1_prepare_45 ?_
    refine c_aload_n hx hb dX1_prepare_48 rfl (lv_at hl 2 rfl) ?_
    obtain ⟨v2, hv2, h⟩ := ob h
    refine c_gR X hP hv2 (Nat.le_of_ble_eq_true rfl) (Nat.le_of_ble_eq_true rfl) rfl w_165 dX1_prepare_49 ?_
    refine c_aload_n hx hb dX1_prepare_52 rfl (lv_at hl 3 rfl) ?_
    obtain ⟨v3, hv3, h⟩ := ob h
    refine c_gR X hP hv3 (Nat.le_of_ble_eq_true rfl) (Nat.le_of_ble_eq_true rfl) rfl w_1263 dX1_prepare_53 ?_
    obtain ⟨v4, hv4, h⟩ := ob h
    obtain ⟨v5, hv5, h⟩ := ob h
    refine c_cw (c_runV X (K_X5_setOf l D Φ σ v4 (v2) (v3) hv5) hv4 ⟨Nat.le_of_ble_eq_true rfl, by decide⟩ ⟨w_918, ww_X5_setOf⟩ rfl hy_X5_setOf rfl ⟨(Nat.le_of_ble_eq_true rfl), (Nat.le_of_ble_eq_true rfl)⟩ hP hS hl.1 (Nat.le_of_ble_eq_true rfl) dX1_prepare_56 rfl ⟨(Nat.le_of_ble_eq_true rfl), (Nat.le_of_ble_eq_true rfl)⟩) hS (fun H locs hP hS => ?_)
    refine W.eq (g2 := F0 m 59 ls [.int v5.1, cv Φ x1]) rfl ?_
    refine lv_goto (tgt := 63) hx hb dX1_prepare_59 rfl ?_
    exact N_X1_prepare_63 X hP hS hk5 (lv_sub hl [1, 2, 3] rfl) h
set_option maxRecDepth 20000 in
set_option maxHeartbeats 4000000 in
theorem N_X1_prepare_37 {p : Program} {l : Launch} {e : Env} {s : State} {m : MethodId} {args : Array Value} {below : List Frame} {meth : Method} {c : Code} {D : cD} {Φ : cG} {x0 : Nat} {k5 : Option Nat → cS → Option (cS)}  {x1 : Option Nat} {x2 : Option Nat} {σ : cS} {H : Heap} {locs : List Loc} {ls : Array Slot} {q : cS} (X : cX p s m args meth c cX1_prepare 4 none RX1 D Φ) (hP : cP D Φ σ H) (hS : va_S (cReg Φ) s.heap H locs) (hk5 : ∀ {x1 : Option Nat} {σ : cS} {H : Heap} {locs : List Loc} {ls : Array Slot}, cP D Φ σ H → va_S (cReg Φ) s.heap H locs → lv_has ls 4 [(0, cv Φ (some x0)), (1, cv Φ x1)] → k5 x1 σ = some q → cWw p l e 5 0 0 132 s m args below meth c D Φ q none H locs 0 0 (F0 m 5 ls [])) (hl : lv_has ls 4 [(0, cv Φ (some x0)), (1, cv Φ x1), (2, cv Φ x2)]) (h : f_X1_prepare_37 k5 x0 x1 x2 σ = some q) : cWw p l e 5 0 0 132 s m args below meth c D Φ q none H locs 0 0 (F0 m 37 ls []) := by
  have hx := X.1
  have hb := X.2.1
  have hown := X.2.2.2.1
  have hts := X.2.2.2.2.1
  have h : (f_X1_prepare_38 k5 x0 (x1) (x2) ((0:Int32)) σ) = some q := h
  refine lv_iconst (v := (0:Int32)) hx hb dX1_prepare_37 (by decide) ?_
  exact N_X1_prepare_38 X hP hS hk5 (lv_sub hl [0, 1, 2] rfl) h
set_option maxRecDepth 20000 in
set_option maxHeartbeats 4000000 in
theorem N_X1_prepare_5 {p : Program} {l : Launch} {e : Env} {s : State} {m : MethodId} {args : Array Value} {below : List Frame} {meth : Method} {c : Code} {D : cD} {Φ : cG} {x0 : Nat}  {n : Nat} {x1 : Option Nat} {σ : cS} {H : Heap} {locs : List Loc} {ls : Array Slot} {q : cS} (X : cX p s m args meth c cX1_prepare 4 none RX1 D Φ) (hP : cP D Φ σ H) (hS : va_S (cReg Φ) s.heap H locs)  (hl : lv_has ls 4 [(0, cv Φ (some x0)), (1, cv Φ x1)]) (h : f_X1_prepare_5  x0 n x1 σ = some q) : cWw p l e 5 0 0 132 s m args below meth c D Φ q none H locs 0 0 (F0 m 5 ls []) := by
  have hx := X.1
  have hb := X.2.1
  have hown := X.2.2.2.1
  have hts := X.2.2.2.2.1
  induction n generalizing x1 σ H locs ls with
  | zero => exact absurd (show none = some q from h) (by simp)
  | succ n ih =>
    have h : (if x1 = none then (some σ) else ((gR σ x1 6 1).bind (fun v1 => if v1 = none then (f_X1_prepare_37 (f_X1_prepare_5 x0 n) x0 (x1) (v1) σ) else ((gI σ v1 8 4).bind (fun v2 => if v2 = (0:Int32) then (f_X1_prepare_37 (f_X1_prepare_5 x0 n) x0 (x1) (v1) σ) else ((rc σ (some x0) 1).bind (fun v3 => (f_X1_isThere v3 (v1) σ).bind (fun v4 => if v4 = (0:Int32) then (f_X1_prepare_37 (f_X1_prepare_5 x0 n) x0 (x1) (v1) σ) else (f_X1_prepare_38 (f_X1_prepare_5 x0 n) x0 (x1) (v1) ((1:Int32)) σ))))))))) = some q := h
    refine c_aload_n hx hb dX1_prepare_5 rfl (lv_at hl 1 rfl) ?_
    refine c_ifnull (Φ := Φ) (tgt := 105) hx hb dX1_prepare_6 rfl (fun hc => ?_) (fun hc => ?_)
    · have h := ip hc h
      obtain rfl := sj h
      exact c_wv X hP hS (Nat.le_of_ble_eq_true rfl) (Nat.le_of_ble_eq_true rfl) dX1_prepare_105
    · have h := ine hc h
      refine c_aload_n hx hb dX1_prepare_9 rfl (lv_at hl 1 rfl) ?_
      obtain ⟨v1, hv1, h⟩ := ob h
      refine c_gR X hP hv1 (Nat.le_of_ble_eq_true rfl) (Nat.le_of_ble_eq_true rfl) rfl w_163 dX1_prepare_10 ?_
      refine c_astore_n hx hb dX1_prepare_13 rfl hl (Nat.le_of_ble_eq_true rfl) (lvKa rfl (lvKr lvK0)) rfl (fun ls (hl : lv_has ls 4 [(2, cv Φ v1), (0, cv Φ (some x0)), (1, cv Φ x1)]) => ?_)
      refine c_aload_n hx hb dX1_prepare_14 rfl (lv_at hl 0 rfl) ?_
      refine c_ifnull (Φ := Φ) (tgt := 37) hx hb dX1_prepare_15 rfl (fun hc => ?_) (fun hc => ?_)
      · have h := ip hc h
        exact N_X1_prepare_37 X hP hS ih (lv_sub hl [1, 2, 0] rfl) h
      · have h := ine hc h
        refine c_aload_n hx hb dX1_prepare_18 rfl (lv_at hl 0 rfl) ?_
        obtain ⟨v2, hv2, h⟩ := ob h
        refine c_gI X hP hv2 (Nat.le_of_ble_eq_true rfl) (Nat.le_of_ble_eq_true rfl) rfl w_1267 dX1_prepare_19 ?_
        refine lv_if_eq (tgt := 37) hx hb dX1_prepare_22 rfl (fun hc => ?_) (fun hc => ?_)
        · have h := ip hc h
          exact N_X1_prepare_37 X hP hS ih (lv_sub hl [1, 2, 0] rfl) h
        · have h := ine hc h
          refine c_aload_n hx hb dX1_prepare_25 rfl (lv_at hl 1 rfl) ?_
          refine c_aload_n hx hb dX1_prepare_26 rfl (lv_at hl 0 rfl) ?_
          obtain ⟨v3, hv3, h⟩ := ob h
          obtain ⟨v4, hv4, h⟩ := ob h
          refine c_cr (c_runV X (K_X1_isThere l D Φ σ v3 (v1) hv4) hv3 ⟨Nat.le_of_ble_eq_true rfl, by decide⟩ ⟨w_913, ww_X1_isThere⟩ rfl hy_X1_isThere rfl ⟨(Nat.le_of_ble_eq_true rfl), (Nat.le_of_ble_eq_true rfl)⟩ hP hS hl.1 (Nat.le_of_ble_eq_true rfl) dX1_prepare_27 rfl ⟨(Nat.le_of_ble_eq_true rfl), (Nat.le_of_ble_eq_true rfl)⟩) ?_
          refine lv_if_eq (tgt := 37) hx hb dX1_prepare_30 rfl (fun hc => ?_) (fun hc => ?_)
          · have h := ip hc h
            exact N_X1_prepare_37 X hP hS ih (lv_sub hl [1, 2, 0] rfl) h
          · have h := ine hc h
            refine lv_iconst (v := (1:Int32)) hx hb dX1_prepare_33 (by decide) ?_
            refine lv_goto (tgt := 38) hx hb dX1_prepare_34 rfl ?_
            exact N_X1_prepare_38 X hP hS ih (lv_sub hl [1, 2, 0] rfl) h
set_option maxRecDepth 20000 in
set_option maxHeartbeats 4000000 in
theorem K_X1_prepare (l : Launch) (D : cD) (Φ : cG) (σ : cS) (x0 : Nat)  {q : cS} (h : f_X1_prepare x0  σ = some q) : Met l yX1_prepare (Cond.code yX1_prepare cX1_prepare 4 none :: BG) (rA 5 0 0 132) (cPc D Φ σ [cv Φ (some x0)]) (cQw D Φ q none) 0 0 (cReg Φ) := by
  refine Met.ofW (cc := cX1_prepare) (maxL := 4) (ret := none) (by decide) rfl ?_
  intro p e s m args below meth c s₁ B hml hv
  obtain ⟨rfl, hP, hK, hZ⟩ := hv
  have X : cX p s m [cv Φ (some x0)].toArray meth c cX1_prepare 4 none RX1 D Φ := cX_of B hml hK hZ
  have hx := X.1
  have hb := X.2.1
  have hown := X.2.2.2.1
  have hts := X.2.2.2.2.1
  have hl := lv_entry [cv Φ (some x0)] (n := 4) (by simp only [lgs_r, lgs_i, lgs_l, lgs_0, List.length]; exact Nat.le_of_ble_eq_true rfl)
  rw [lg_entry_eq]
  generalize (lg_sl [cv Φ (some x0)] ++ List.replicate (4 - (lg_sl [cv Φ (some x0)]).length) Slot.unset).toArray = ls at hl ⊢
  simp only [lv_args_r, lv_args_i, lv_args_l, lv_args_0] at hl
  have hl : lv_has ls 4 [(0, cv Φ (some x0))] := hl
  have hS : va_S (cReg Φ) s.heap s.heap [] := va_S.rf
  show cWw p l e 5 0 0 132 s m [cv Φ (some x0)].toArray below meth c D Φ q none s.heap [] 0 0 (F0 m 0 ls [])
  have h : ((gR σ (some x0) 1 6).bind (fun v1 => f_X1_prepare_5 x0 4000 (v1) σ)) = some q := h
  refine c_aload_n hx hb dX1_prepare_0 rfl (lv_at hl 0 rfl) ?_
  obtain ⟨v1, hv1, h⟩ := ob h
  refine c_gR X hP hv1 (Nat.le_of_ble_eq_true rfl) (Nat.le_of_ble_eq_true rfl) rfl w_506 dX1_prepare_1 ?_
  refine c_astore_n hx hb dX1_prepare_4 rfl hl (Nat.le_of_ble_eq_true rfl) (lvKr lvK0) rfl (fun ls (hl : lv_has ls 4 [(1, cv Φ v1), (0, cv Φ (some x0))]) => ?_)
  exact N_X1_prepare_5 X hP hS (lv_sub hl [1, 0] rfl) h
theorem ww_X1_prepare : Cond.instanceMethod yX1_prepare ∈ BG ∧ Cond.selects (yX1_prepare).cls yX1_prepare yX1_prepare ∈ BG ∧ Cond.initialized (yX1_prepare).cls ∈ BG ∧ Cond.code yX1_prepare cX1_prepare 4 none ∈ BG := ⟨w_910, w_911, w_64, w_912⟩
theorem hy_X1_prepare : (yX1_prepare).cls ≠ "java/lang/invoke/MethodHandle" ∧ (yX1_prepare).cls ≠ "java/lang/invoke/VarHandle" ∧ (parseMethodDescriptor (yX1_prepare).desc).map (fun d => d.parameters.length) = some 0 := ⟨by decide, by decide, by decide +kernel⟩
