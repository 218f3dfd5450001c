set_option maxRecDepth 100000 in
theorem w_1115 : Cond.code yX11_shownParent cX11_shownParent 3 (some .int) ∈ BG := bg_in 1115 (by rfl) (by decide +kernel)
set_option maxRecDepth 100000 in
theorem w_1113 : Cond.instanceMethod yX11_shownParent ∈ BG := bg_in 1113 (by decide +kernel) (by decide +kernel)
set_option maxRecDepth 100000 in
theorem w_1114 : Cond.selects "Cascadery" yX11_shownParent yX11_shownParent ∈ BG := bg_in 1114 (by decide +kernel) (by decide +kernel)
set_option maxRecDepth 100000 in
theorem w_897 : Cond.methodLink "Cascadery" 187 yX10_holdsElement ∈ BG := bg_in 897 (by decide +kernel) (by decide +kernel)
set_option maxRecDepth 100000 in
theorem w_1119 : Cond.code yX11_isIn cX11_isIn 2 (some .boolean) ∈ BG := bg_in 1119 (by rfl) (by decide +kernel)
set_option maxRecDepth 100000 in
theorem w_1117 : Cond.instanceMethod yX11_isIn ∈ BG := bg_in 1117 (by decide +kernel) (by decide +kernel)
set_option maxRecDepth 100000 in
theorem w_1118 : Cond.selects "Cascadery" yX11_isIn yX11_isIn ∈ BG := bg_in 1118 (by decide +kernel) (by decide +kernel)
set_option maxRecDepth 100000 in
theorem w_868 : Cond.methodLink "Cascadery" 221 yX7_addTest ∈ BG := bg_in 868 (by decide +kernel) (by decide +kernel)
set_option maxRecDepth 100000 in
theorem w_412 : Cond.fieldLink "Cascadery" 213 "Cascadery$Selector" "last" "LCascadery$Compound;" ∈ BG := bg_in 412 (by decide +kernel) (by decide +kernel)
set_option maxRecDepth 100000 in
theorem w_380 : Cond.fieldLink "Cascadery" 217 "Cascadery$Compound" "count" "I" ∈ BG := bg_in 380 (by decide +kernel) (by decide +kernel)
set_option maxRecDepth 100000 in
theorem w_572 : Cond.fieldLink "Cascadery" 52 "Cascadery" "matcher" "LCascadery$Matcher;" ∈ BG := bg_in 572 (by decide +kernel) (by decide +kernel)
set_option maxRecDepth 100000 in
theorem w_469 : Cond.fieldLink "Cascadery" 209 "Cascadery$Matcher" "draft" "LCascadery$Selector;" ∈ BG := bg_in 469 (by decide +kernel) (by decide +kernel)
set_option maxRecDepth 100000 in
theorem w_419 : Cond.fieldLink "Cascadery" 220 "Cascadery$Selector" "part" "I" ∈ BG := bg_in 419 (by decide +kernel) (by decide +kernel)
set_option maxRecDepth 100000 in
theorem w_860 : Cond.methodLink "Cascadery" 195 yX5_selectorAt ∈ BG := bg_in 860 (by decide +kernel) (by decide +kernel)
set_option maxRecDepth 100000 in
theorem w_864 : Cond.methodLink "Cascadery" 199 yX7_reachesOut ∈ BG := bg_in 864 (by decide +kernel) (by decide +kernel)
set_option maxRecDepth 100000 in
theorem w_857 : Cond.methodLink "Cascadery" 191 yX11_suitsTest ∈ BG := bg_in 857 (by decide +kernel) (by decide +kernel)
set_option maxRecDepth 100000 in
theorem w_856 : Cond.code yX11_test cX11_test 6 (some .int) ∈ BG := bg_in 856 (by rfl) (by decide +kernel)
set_option maxRecDepth 100000 in
theorem w_854 : Cond.instanceMethod yX11_test ∈ BG := bg_in 854 (by decide +kernel) (by decide +kernel)
set_option maxRecDepth 100000 in
theorem w_855 : Cond.selects "Cascadery" yX11_test yX11_test ∈ BG := bg_in 855 (by decide +kernel) (by decide +kernel)
set_option maxRecDepth 100000 in
theorem w_886 : Cond.methodLink "Cascadery" 228 yX7_addCompound ∈ BG := bg_in 886 (by decide +kernel) (by decide +kernel)
set_option maxRecDepth 100000 in
theorem w_414 : Cond.fieldLink "Cascadery" 225 "Cascadery$Selector" "compounds" "I" ∈ BG := bg_in 414 (by decide +kernel) (by decide +kernel)
set_option maxRecDepth 100000 in
theorem w_885 : Cond.code yX11_join cX11_join 3 (some .int) ∈ BG := bg_in 885 (by rfl) (by decide +kernel)
set_option maxRecDepth 100000 in
theorem w_883 : Cond.instanceMethod yX11_join ∈ BG := bg_in 883 (by decide +kernel) (by decide +kernel)
set_option maxRecDepth 100000 in
theorem w_884 : Cond.selects "Cascadery" yX11_join yX11_join ∈ BG := bg_in 884 (by decide +kernel) (by decide +kernel)
set_option maxRecDepth 100000 in
theorem w_1233 : Cond.methodLink "Cascadery" 232 yX5_keepDraft ∈ BG := bg_in 1233 (by decide +kernel) (by decide +kernel)
set_option maxRecDepth 100000 in
theorem w_467 : Cond.fieldLink "Cascadery" 231 "Cascadery$Matcher" "count" "I" ∈ BG := bg_in 467 (by decide +kernel) (by decide +kernel)
set_option maxRecDepth 100000 in
theorem w_1232 : Cond.code yX11_select cX11_select 1 (some .int) ∈ BG := bg_in 1232 (by rfl) (by decide +kernel)
set_option maxRecDepth 100000 in
theorem w_1230 : Cond.instanceMethod yX11_select ∈ BG := bg_in 1230 (by decide +kernel) (by decide +kernel)
set_option maxRecDepth 100000 in
theorem w_1231 : Cond.selects "Cascadery" yX11_select yX11_select ∈ BG := bg_in 1231 (by decide +kernel) (by decide +kernel)
set_option maxRecDepth 100000 in
theorem w_1135 : Cond.code yX11_selectorAt cX11_selectorAt 3 (some (.object "Cascadery$Selector")) ∈ BG := bg_in 1135 (by rfl) (by decide +kernel)
set_option maxRecDepth 100000 in
theorem w_1134 : Cond.instanceMethod yX11_selectorAt ∈ BG := bg_in 1134 (by decide +kernel) (by decide +kernel)
set_option maxRecDepth 100000 in
theorem w_49 : Cond.selects "Cascadery" yX11_selectorAt yX11_selectorAt ∈ BG := bg_in 49 (by decide +kernel) (by decide +kernel)
set_option maxRecDepth 100000 in
theorem w_1132 : Cond.methodLink "Cascadery" 236 yX11_selectorAt ∈ BG := bg_in 1132 (by decide +kernel) (by decide +kernel)
set_option maxRecDepth 100000 in
theorem w_423 : Cond.fieldLink "Cascadery" 237 "Cascadery$Selector" "weight" "I" ∈ BG := bg_in 423 (by decide +kernel) (by decide +kernel)
set_option maxRecDepth 100000 in
theorem w_1144 : Cond.code yX11_weight cX11_weight 2 (some .int) ∈ BG := bg_in 1144 (by rfl) (by decide +kernel)
set_option maxRecDepth 100000 in
theorem w_1142 : Cond.instanceMethod yX11_weight ∈ BG := bg_in 1142 (by decide +kernel) (by decide +kernel)
set_option maxRecDepth 100000 in
theorem w_1143 : Cond.selects "Cascadery" yX11_weight yX11_weight ∈ BG := bg_in 1143 (by decide +kernel) (by decide +kernel)
set_option maxRecDepth 100000 in
theorem w_1140 : Cond.methodLink "Cascadery" 247 yX5_setOf ∈ BG := bg_in 1140 (by decide +kernel) (by decide +kernel)
set_option maxRecDepth 100000 in
theorem w_1136 : Cond.methodLink "Cascadery" 240 yX10_hasTree ∈ BG := bg_in 1136 (by decide +kernel) (by decide +kernel)
set_option maxRecDepth 100000 in
theorem w_1131 : Cond.code yX11_allThat cX11_allThat 4 (some .int) ∈ BG := bg_in 1131 (by rfl) (by decide +kernel)
set_option maxRecDepth 100000 in
theorem w_1129 : Cond.instanceMethod yX11_allThat ∈ BG := bg_in 1129 (by decide +kernel) (by decide +kernel)
set_option maxRecDepth 100000 in
theorem w_1130 : Cond.selects "Cascadery" yX11_allThat yX11_allThat ∈ BG := bg_in 1130 (by decide +kernel) (by decide +kernel)
set_option maxRecDepth 100000 in
theorem w_1249 : Cond.methodLink "Cascadery" 254 yX1_addSheet ∈ BG := bg_in 1249 (by decide +kernel) (by decide +kernel)
set_option maxRecDepth 100000 in
theorem w_503 : Cond.fieldLink "Cascadery" 251 "Cascadery$Cascade" "sheetCount" "I" ∈ BG := bg_in 503 (by decide +kernel) (by decide +kernel)
set_option maxRecDepth 100000 in
theorem w_1248 : Cond.code yX11_sheet cX11_sheet 4 (some .int) ∈ BG := bg_in 1248 (by rfl) (by decide +kernel)
set_option maxRecDepth 100000 in
theorem w_1246 : Cond.instanceMethod yX11_sheet ∈ BG := bg_in 1246 (by decide +kernel) (by decide +kernel)
set_option maxRecDepth 100000 in
theorem w_1247 : Cond.selects "Cascadery" yX11_sheet yX11_sheet ∈ BG := bg_in 1247 (by decide +kernel) (by decide +kernel)
set_option maxRecDepth 100000 in
theorem w_1291 : Cond.methodLink "Cascadery" 407 yX1_sheetAt ∈ BG := bg_in 1291 (by decide +kernel) (by decide +kernel)
set_option maxRecDepth 100000 in
theorem w_1290 : Cond.code yX11_sheetAt cX11_sheetAt 3 (some (.object "Cascadery$Sheet")) ∈ BG := bg_in 1290 (by rfl) (by decide +kernel)
set_option maxRecDepth 100000 in
theorem w_1289 : Cond.instanceMethod yX11_sheetAt ∈ BG := bg_in 1289 (by decide +kernel) (by decide +kernel)
set_option maxRecDepth 100000 in
theorem w_52 : Cond.selects "Cascadery" yX11_sheetAt yX11_sheetAt ∈ BG := bg_in 52 (by decide +kernel) (by decide +kernel)
set_option maxRecDepth 100000 in
theorem w_1287 : Cond.methodLink "Cascadery" 258 yX11_sheetAt ∈ BG := bg_in 1287 (by decide +kernel) (by decide +kernel)
set_option maxRecDepth 100000 in
theorem w_1268 : Cond.fieldLink "Cascadery" 262 "Cascadery$Sheet" "isOn" "Z" ∈ BG := bg_in 1268 (by decide +kernel) (by decide +kernel)
set_option maxRecDepth 100000 in
theorem w_1364 : Cond.code yX11_turn cX11_turn 5 (some .boolean) ∈ BG := bg_in 1364 (by rfl) (by decide +kernel)
set_option maxRecDepth 100000 in
theorem w_1362 : Cond.instanceMethod yX11_turn ∈ BG := bg_in 1362 (by decide +kernel) (by decide +kernel)
set_option maxRecDepth 100000 in
theorem w_1363 : Cond.selects "Cascadery" yX11_turn yX11_turn ∈ BG := bg_in 1363 (by decide +kernel) (by decide +kernel)
set_option maxRecDepth 100000 in
theorem w_1295 : Cond.methodLink "Cascadery" 270 yX1_addRule ∈ BG := bg_in 1295 (by decide +kernel) (by decide +kernel)
set_option maxRecDepth 100000 in
theorem w_505 : Cond.fieldLink "Cascadery" 267 "Cascadery$Cascade" "ruleCount" "I" ∈ BG := bg_in 505 (by decide +kernel) (by decide +kernel)
set_option maxRecDepth 100000 in
theorem w_1286 : Cond.code yX11_rule cX11_rule 5 (some .int) ∈ BG := bg_in 1286 (by rfl) (by decide +kernel)
set_option maxRecDepth 100000 in
theorem w_1284 : Cond.instanceMethod yX11_rule ∈ BG := bg_in 1284 (by decide +kernel) (by decide +kernel)
set_option maxRecDepth 100000 in
theorem w_1285 : Cond.selects "Cascadery" yX11_rule yX11_rule ∈ BG := bg_in 1285 (by decide +kernel) (by decide +kernel)
theorem dX11_shownParent_0 : decode cX11_shownParent 0 = .ok (.aload_n 0, 1) := by decide +kernel
theorem dX11_shownParent_1 : decode cX11_shownParent 1 = .ok (.iload_n 1, 1) := by decide +kernel
theorem dX11_shownParent_2 : decode cX11_shownParent 2 = .ok (.invokevirtual 80, 3) := by decide +kernel
theorem dX11_shownParent_5 : decode cX11_shownParent 5 = .ok (.astore_n 2, 1) := by decide +kernel
theorem dX11_shownParent_6 : decode cX11_shownParent 6 = .ok (.aload_n 2, 1) := by decide +kernel
theorem dX11_shownParent_7 : decode cX11_shownParent 7 = .ok (.getfield 184, 3) := by decide +kernel
theorem dX11_shownParent_10 : decode cX11_shownParent 10 = .ok (.ifnonnull 7, 3) := by decide +kernel
theorem dX11_shownParent_13 : decode cX11_shownParent 13 = .ok (.iconst (-1), 1) := by decide +kernel
theorem dX11_shownParent_14 : decode cX11_shownParent 14 = .ok (.goto 10, 3) := by decide +kernel
theorem dX11_shownParent_17 : decode cX11_shownParent 17 = .ok (.aload_n 2, 1) := by decide +kernel
theorem dX11_shownParent_18 : decode cX11_shownParent 18 = .ok (.getfield 184, 3) := by decide +kernel
theorem dX11_shownParent_21 : decode cX11_shownParent 21 = .ok (.getfield 134, 3) := by decide +kernel
theorem dX11_shownParent_24 : decode cX11_shownParent 24 = .ok (.ireturn, 1) := by decide +kernel
theorem dX11_isIn_0 : decode cX11_isIn 0 = .ok (.aload_n 0, 1) := by decide +kernel
theorem dX11_isIn_1 : decode cX11_isIn 1 = .ok (.getfield 48, 3) := by decide +kernel
theorem dX11_isIn_4 : decode cX11_isIn 4 = .ok (.aload_n 0, 1) := by decide +kernel
theorem dX11_isIn_5 : decode cX11_isIn 5 = .ok (.iload_n 1, 1) := by decide +kernel
theorem dX11_isIn_6 : decode cX11_isIn 6 = .ok (.invokevirtual 80, 3) := by decide +kernel
theorem dX11_isIn_9 : decode cX11_isIn 9 = .ok (.invokevirtual 187, 3) := by decide +kernel
theorem dX11_isIn_12 : decode cX11_isIn 12 = .ok (.ireturn, 1) := by decide +kernel
theorem dX11_test_0 : decode cX11_test 0 = .ok (.iload_n 1, 1) := by decide +kernel
theorem dX11_test_1 : decode cX11_test 1 = .ok (.iload_n 2, 1) := by decide +kernel
theorem dX11_test_2 : decode cX11_test 2 = .ok (.iload_n 3, 1) := by decide +kernel
theorem dX11_test_3 : decode cX11_test 3 = .ok (.invokestatic 191, 3) := by decide +kernel
theorem dX11_test_6 : decode cX11_test 6 = .ok (.ifCond .ne 7, 3) := by decide +kernel
theorem dX11_test_9 : decode cX11_test 9 = .ok (.iconst 1, 1) := by decide +kernel
theorem dX11_test_10 : decode cX11_test 10 = .ok (.goto 4, 3) := by decide +kernel
theorem dX11_test_13 : decode cX11_test 13 = .ok (.iconst 0, 1) := by decide +kernel
theorem dX11_test_14 : decode cX11_test 14 = .ok (.invokestatic 65, 3) := by decide +kernel
theorem dX11_test_17 : decode cX11_test 17 = .ok (.aconst_null, 1) := by decide +kernel
theorem dX11_test_18 : decode cX11_test 18 = .ok (.astore 4, 2) := by decide +kernel
theorem dX11_test_20 : decode cX11_test 20 = .ok (.iload_n 1, 1) := by decide +kernel
theorem dX11_test_21 : decode cX11_test 21 = .ok (.iconst 5, 1) := by decide +kernel
theorem dX11_test_22 : decode cX11_test 22 = .ok (.if_icmp .eq 15, 3) := by decide +kernel
theorem dX11_test_25 : decode cX11_test 25 = .ok (.iload_n 1, 1) := by decide +kernel
theorem dX11_test_26 : decode cX11_test 26 = .ok (.bipush 6, 2) := by decide +kernel
theorem dX11_test_28 : decode cX11_test 28 = .ok (.if_icmp .eq 9, 3) := by decide +kernel
theorem dX11_test_31 : decode cX11_test 31 = .ok (.iload_n 1, 1) := by decide +kernel
theorem dX11_test_32 : decode cX11_test 32 = .ok (.bipush 7, 2) := by decide +kernel
theorem dX11_test_34 : decode cX11_test 34 = .ok (.if_icmp .ne 57, 3) := by decide +kernel
theorem dX11_test_37 : decode cX11_test 37 = .ok (.aload_n 0, 1) := by decide +kernel
theorem dX11_test_38 : decode cX11_test 38 = .ok (.getfield 52, 3) := by decide +kernel
theorem dX11_test_41 : decode cX11_test 41 = .ok (.iload_n 1, 1) := by decide +kernel
theorem dX11_test_42 : decode cX11_test 42 = .ok (.bipush 7, 2) := by decide +kernel
theorem dX11_test_44 : decode cX11_test 44 = .ok (.if_icmp .ne 7, 3) := by decide +kernel
theorem dX11_test_47 : decode cX11_test 47 = .ok (.iload_n 3, 1) := by decide +kernel
theorem dX11_test_48 : decode cX11_test 48 = .ok (.goto 4, 3) := by decide +kernel
theorem dX11_test_51 : decode cX11_test 51 = .ok (.iload_n 2, 1) := by decide +kernel
theorem dX11_test_52 : decode cX11_test 52 = .ok (.invokevirtual 195, 3) := by decide +kernel
theorem dX11_test_55 : decode cX11_test 55 = .ok (.astore 4, 2) := by decide +kernel
theorem dX11_test_57 : decode cX11_test 57 = .ok (.aload 4, 2) := by decide +kernel
theorem dX11_test_59 : decode cX11_test 59 = .ok (.ifnull 19, 3) := by decide +kernel
theorem dX11_test_62 : decode cX11_test 62 = .ok (.aload 4, 2) := by decide +kernel
theorem dX11_test_64 : decode cX11_test 64 = .ok (.invokevirtual 199, 3) := by decide +kernel
theorem dX11_test_67 : decode cX11_test 67 = .ok (.ifCond .eq 11, 3) := by decide +kernel
theorem dX11_test_70 : decode cX11_test 70 = .ok (.new 203, 3) := by decide +kernel
theorem dX11_test_73 : decode cX11_test 73 = .ok (.dup, 1) := by decide +kernel
theorem dX11_test_74 : decode cX11_test 74 = .ok (.invokespecial 205, 3) := by decide +kernel
theorem dX11_test_77 : decode cX11_test 77 = .ok (.athrow, 1) := by decide +kernel
theorem dX11_test_78 : decode cX11_test 78 = .ok (.aload 4, 2) := by decide +kernel
theorem dX11_test_80 : decode cX11_test 80 = .ok (.ifnonnull 11, 3) := by decide +kernel
theorem dX11_test_83 : decode cX11_test 83 = .ok (.new 206, 3) := by decide +kernel
theorem dX11_test_86 : decode cX11_test 86 = .ok (.dup, 1) := by decide +kernel
theorem dX11_test_87 : decode cX11_test 87 = .ok (.invokespecial 208, 3) := by decide +kernel
theorem dX11_test_90 : decode cX11_test 90 = .ok (.athrow, 1) := by decide +kernel
theorem dX11_test_91 : decode cX11_test 91 = .ok (.aload_n 0, 1) := by decide +kernel
theorem dX11_test_92 : decode cX11_test 92 = .ok (.getfield 52, 3) := by decide +kernel
theorem dX11_test_95 : decode cX11_test 95 = .ok (.getfield 209, 3) := by decide +kernel
theorem dX11_test_98 : decode cX11_test 98 = .ok (.astore 5, 2) := by decide +kernel
theorem dX11_test_100 : decode cX11_test 100 = .ok (.aload 5, 2) := by decide +kernel
theorem dX11_test_102 : decode cX11_test 102 = .ok (.getfield 213, 3) := by decide +kernel
theorem dX11_test_105 : decode cX11_test 105 = .ok (.getfield 217, 3) := by decide +kernel
theorem dX11_test_108 : decode cX11_test 108 = .ok (.iconst 4, 1) := by decide +kernel
theorem dX11_test_109 : decode cX11_test 109 = .ok (.if_icmp .ge 18, 3) := by decide +kernel
theorem dX11_test_112 : decode cX11_test 112 = .ok (.iload_n 1, 1) := by decide +kernel
theorem dX11_test_113 : decode cX11_test 113 = .ok (.bipush 9, 2) := by decide +kernel
theorem dX11_test_115 : decode cX11_test 115 = .ok (.if_icmp .ne 16, 3) := by decide +kernel
theorem dX11_test_118 : decode cX11_test 118 = .ok (.aload 5, 2) := by decide +kernel
theorem dX11_test_120 : decode cX11_test 120 = .ok (.getfield 220, 3) := by decide +kernel
theorem dX11_test_123 : decode cX11_test 123 = .ok (.iconst (-1), 1) := by decide +kernel
theorem dX11_test_124 : decode cX11_test 124 = .ok (.if_icmp .eq 7, 3) := by decide +kernel
theorem dX11_test_127 : decode cX11_test 127 = .ok (.iconst 1, 1) := by decide +kernel
theorem dX11_test_128 : decode cX11_test 128 = .ok (.goto 4, 3) := by decide +kernel
theorem dX11_test_131 : decode cX11_test 131 = .ok (.iconst 0, 1) := by decide +kernel
theorem dX11_test_132 : decode cX11_test 132 = .ok (.invokestatic 73, 3) := by decide +kernel
theorem dX11_test_135 : decode cX11_test 135 = .ok (.aload 5, 2) := by decide +kernel
theorem dX11_test_137 : decode cX11_test 137 = .ok (.iload_n 1, 1) := by decide +kernel
theorem dX11_test_138 : decode cX11_test 138 = .ok (.iload_n 2, 1) := by decide +kernel
theorem dX11_test_139 : decode cX11_test 139 = .ok (.iload_n 3, 1) := by decide +kernel
theorem dX11_test_140 : decode cX11_test 140 = .ok (.aload 4, 2) := by decide +kernel
theorem dX11_test_142 : decode cX11_test 142 = .ok (.invokevirtual 221, 3) := by decide +kernel
theorem dX11_test_145 : decode cX11_test 145 = .ok (.aload 5, 2) := by decide +kernel
theorem dX11_test_147 : decode cX11_test 147 = .ok (.getfield 213, 3) := by decide +kernel
theorem dX11_test_150 : decode cX11_test 150 = .ok (.getfield 217, 3) := by decide +kernel
theorem dX11_test_153 : decode cX11_test 153 = .ok (.ireturn, 1) := by decide +kernel
theorem dX11_join_0 : decode cX11_join 0 = .ok (.iload_n 1, 1) := by decide +kernel
theorem dX11_join_1 : decode cX11_join 1 = .ok (.iconst 4, 1) := by decide +kernel
theorem dX11_join_2 : decode cX11_join 2 = .ok (.invokestatic 61, 3) := by decide +kernel
theorem dX11_join_5 : decode cX11_join 5 = .ok (.ifCond .ne 7, 3) := by decide +kernel
theorem dX11_join_8 : decode cX11_join 8 = .ok (.iconst 1, 1) := by decide +kernel
theorem dX11_join_9 : decode cX11_join 9 = .ok (.goto 4, 3) := by decide +kernel
theorem dX11_join_12 : decode cX11_join 12 = .ok (.iconst 0, 1) := by decide +kernel
theorem dX11_join_13 : decode cX11_join 13 = .ok (.invokestatic 65, 3) := by decide +kernel
theorem dX11_join_16 : decode cX11_join 16 = .ok (.aload_n 0, 1) := by decide +kernel
theorem dX11_join_17 : decode cX11_join 17 = .ok (.getfield 52, 3) := by decide +kernel
theorem dX11_join_20 : decode cX11_join 20 = .ok (.getfield 209, 3) := by decide +kernel
theorem dX11_join_23 : decode cX11_join 23 = .ok (.astore_n 2, 1) := by decide +kernel
theorem dX11_join_24 : decode cX11_join 24 = .ok (.aload_n 2, 1) := by decide +kernel
theorem dX11_join_25 : decode cX11_join 25 = .ok (.getfield 225, 3) := by decide +kernel
theorem dX11_join_28 : decode cX11_join 28 = .ok (.iconst 4, 1) := by decide +kernel
theorem dX11_join_29 : decode cX11_join 29 = .ok (.if_icmp .ge 11, 3) := by decide +kernel
theorem dX11_join_32 : decode cX11_join 32 = .ok (.aload_n 2, 1) := by decide +kernel
theorem dX11_join_33 : decode cX11_join 33 = .ok (.getfield 220, 3) := by decide +kernel
theorem dX11_join_36 : decode cX11_join 36 = .ok (.iconst (-1), 1) := by decide +kernel
theorem dX11_join_37 : decode cX11_join 37 = .ok (.if_icmp .eq 7, 3) := by decide +kernel
theorem dX11_join_40 : decode cX11_join 40 = .ok (.iconst 1, 1) := by decide +kernel
theorem dX11_join_41 : decode cX11_join 41 = .ok (.goto 4, 3) := by decide +kernel
theorem dX11_join_44 : decode cX11_join 44 = .ok (.iconst 0, 1) := by decide +kernel
theorem dX11_join_45 : decode cX11_join 45 = .ok (.invokestatic 73, 3) := by decide +kernel
theorem dX11_join_48 : decode cX11_join 48 = .ok (.aload_n 2, 1) := by decide +kernel
theorem dX11_join_49 : decode cX11_join 49 = .ok (.iload_n 1, 1) := by decide +kernel
theorem dX11_join_50 : decode cX11_join 50 = .ok (.invokevirtual 228, 3) := by decide +kernel
theorem dX11_join_53 : decode cX11_join 53 = .ok (.aload_n 2, 1) := by decide +kernel
theorem dX11_join_54 : decode cX11_join 54 = .ok (.getfield 225, 3) := by decide +kernel
theorem dX11_join_57 : decode cX11_join 57 = .ok (.ireturn, 1) := by decide +kernel
theorem dX11_select_0 : decode cX11_select 0 = .ok (.aload_n 0, 1) := by decide +kernel
theorem dX11_select_1 : decode cX11_select 1 = .ok (.getfield 52, 3) := by decide +kernel
theorem dX11_select_4 : decode cX11_select 4 = .ok (.getfield 231, 3) := by decide +kernel
theorem dX11_select_7 : decode cX11_select 7 = .ok (.bipush 30, 2) := by decide +kernel
theorem dX11_select_9 : decode cX11_select 9 = .ok (.if_icmp .lt 7, 3) := by decide +kernel
theorem dX11_select_12 : decode cX11_select 12 = .ok (.iconst 1, 1) := by decide +kernel
theorem dX11_select_13 : decode cX11_select 13 = .ok (.goto 4, 3) := by decide +kernel
theorem dX11_select_16 : decode cX11_select 16 = .ok (.iconst 0, 1) := by decide +kernel
theorem dX11_select_17 : decode cX11_select 17 = .ok (.invokestatic 73, 3) := by decide +kernel
theorem dX11_select_20 : decode cX11_select 20 = .ok (.aload_n 0, 1) := by decide +kernel
theorem dX11_select_21 : decode cX11_select 21 = .ok (.getfield 52, 3) := by decide +kernel
theorem dX11_select_24 : decode cX11_select 24 = .ok (.invokevirtual 232, 3) := by decide +kernel
theorem dX11_select_27 : decode cX11_select 27 = .ok (.ireturn, 1) := by decide +kernel
theorem dX11_selectorAt_0 : decode cX11_selectorAt 0 = .ok (.aload_n 0, 1) := by decide +kernel
theorem dX11_selectorAt_1 : decode cX11_selectorAt 1 = .ok (.getfield 52, 3) := by decide +kernel
theorem dX11_selectorAt_4 : decode cX11_selectorAt 4 = .ok (.iload_n 1, 1) := by decide +kernel
theorem dX11_selectorAt_5 : decode cX11_selectorAt 5 = .ok (.invokevirtual 195, 3) := by decide +kernel
theorem dX11_selectorAt_8 : decode cX11_selectorAt 8 = .ok (.astore_n 2, 1) := by decide +kernel
theorem dX11_selectorAt_9 : decode cX11_selectorAt 9 = .ok (.aload_n 2, 1) := by decide +kernel
theorem dX11_selectorAt_10 : decode cX11_selectorAt 10 = .ok (.ifnonnull 11, 3) := by decide +kernel
theorem dX11_selectorAt_13 : decode cX11_selectorAt 13 = .ok (.new 206, 3) := by decide +kernel
theorem dX11_selectorAt_16 : decode cX11_selectorAt 16 = .ok (.dup, 1) := by decide +kernel
theorem dX11_selectorAt_17 : decode cX11_selectorAt 17 = .ok (.invokespecial 208, 3) := by decide +kernel
theorem dX11_selectorAt_20 : decode cX11_selectorAt 20 = .ok (.athrow, 1) := by decide +kernel
theorem dX11_selectorAt_21 : decode cX11_selectorAt 21 = .ok (.aload_n 2, 1) := by decide +kernel
theorem dX11_selectorAt_22 : decode cX11_selectorAt 22 = .ok (.areturn, 1) := by decide +kernel
theorem dX11_weight_0 : decode cX11_weight 0 = .ok (.aload_n 0, 1) := by decide +kernel
theorem dX11_weight_1 : decode cX11_weight 1 = .ok (.iload_n 1, 1) := by decide +kernel
theorem dX11_weight_2 : decode cX11_weight 2 = .ok (.invokevirtual 236, 3) := by decide +kernel
theorem dX11_weight_5 : decode cX11_weight 5 = .ok (.getfield 237, 3) := by decide +kernel
theorem dX11_weight_8 : decode cX11_weight 8 = .ok (.ireturn, 1) := by decide +kernel
theorem dX11_allThat_0 : decode cX11_allThat 0 = .ok (.aload_n 0, 1) := by decide +kernel
theorem dX11_allThat_1 : decode cX11_allThat 1 = .ok (.iload_n 1, 1) := by decide +kernel
theorem dX11_allThat_2 : decode cX11_allThat 2 = .ok (.invokevirtual 236, 3) := by decide +kernel
theorem dX11_allThat_5 : decode cX11_allThat 5 = .ok (.astore_n 3, 1) := by decide +kernel
theorem dX11_allThat_6 : decode cX11_allThat 6 = .ok (.aload_n 0, 1) := by decide +kernel
theorem dX11_allThat_7 : decode cX11_allThat 7 = .ok (.getfield 48, 3) := by decide +kernel
theorem dX11_allThat_10 : decode cX11_allThat 10 = .ok (.iload_n 2, 1) := by decide +kernel
theorem dX11_allThat_11 : decode cX11_allThat 11 = .ok (.invokevirtual 240, 3) := by decide +kernel
theorem dX11_allThat_14 : decode cX11_allThat 14 = .ok (.ifCond .ne 7, 3) := by decide +kernel
theorem dX11_allThat_17 : decode cX11_allThat 17 = .ok (.iconst 1, 1) := by decide +kernel
theorem dX11_allThat_18 : decode cX11_allThat 18 = .ok (.goto 4, 3) := by decide +kernel
theorem dX11_allThat_21 : decode cX11_allThat 21 = .ok (.iconst 0, 1) := by decide +kernel
theorem dX11_allThat_22 : decode cX11_allThat 22 = .ok (.invokestatic 104, 3) := by decide +kernel
theorem dX11_allThat_25 : decode cX11_allThat 25 = .ok (.aload_n 0, 1) := by decide +kernel
theorem dX11_allThat_26 : decode cX11_allThat 26 = .ok (.getfield 52, 3) := by decide +kernel
theorem dX11_allThat_29 : decode cX11_allThat 29 = .ok (.aload_n 3, 1) := by decide +kernel
theorem dX11_allThat_30 : decode cX11_allThat 30 = .ok (.aload_n 0, 1) := by decide +kernel
theorem dX11_allThat_31 : decode cX11_allThat 31 = .ok (.getfield 48, 3) := by decide +kernel
theorem dX11_allThat_34 : decode cX11_allThat 34 = .ok (.iload_n 2, 1) := by decide +kernel
theorem dX11_allThat_35 : decode cX11_allThat 35 = .ok (.invokevirtual 244, 3) := by decide +kernel
theorem dX11_allThat_38 : decode cX11_allThat 38 = .ok (.invokevirtual 247, 3) := by decide +kernel
theorem dX11_allThat_41 : decode cX11_allThat 41 = .ok (.ireturn, 1) := by decide +kernel
theorem dX11_sheet_0 : decode cX11_sheet 0 = .ok (.iload_n 1, 1) := by decide +kernel
theorem dX11_sheet_1 : decode cX11_sheet 1 = .ok (.iconst 3, 1) := by decide +kernel
theorem dX11_sheet_2 : decode cX11_sheet 2 = .ok (.invokestatic 61, 3) := by decide +kernel
theorem dX11_sheet_5 : decode cX11_sheet 5 = .ok (.ifCond .eq 16, 3) := by decide +kernel
theorem dX11_sheet_8 : decode cX11_sheet 8 = .ok (.iload_n 3, 1) := by decide +kernel
theorem dX11_sheet_9 : decode cX11_sheet 9 = .ok (.iconst (-1), 1) := by decide +kernel
theorem dX11_sheet_10 : decode cX11_sheet 10 = .ok (.if_icmp .eq 15, 3) := by decide +kernel
theorem dX11_sheet_13 : decode cX11_sheet 13 = .ok (.iload_n 3, 1) := by decide +kernel
theorem dX11_sheet_14 : decode cX11_sheet 14 = .ok (.iconst 4, 1) := by decide +kernel
theorem dX11_sheet_15 : decode cX11_sheet 15 = .ok (.invokestatic 61, 3) := by decide +kernel
theorem dX11_sheet_18 : decode cX11_sheet 18 = .ok (.ifCond .ne 7, 3) := by decide +kernel
theorem dX11_sheet_21 : decode cX11_sheet 21 = .ok (.iconst 1, 1) := by decide +kernel
theorem dX11_sheet_22 : decode cX11_sheet 22 = .ok (.goto 4, 3) := by decide +kernel
theorem dX11_sheet_25 : decode cX11_sheet 25 = .ok (.iconst 0, 1) := by decide +kernel
theorem dX11_sheet_26 : decode cX11_sheet 26 = .ok (.invokestatic 65, 3) := by decide +kernel
theorem dX11_sheet_29 : decode cX11_sheet 29 = .ok (.aload_n 0, 1) := by decide +kernel
theorem dX11_sheet_30 : decode cX11_sheet 30 = .ok (.getfield 48, 3) := by decide +kernel
theorem dX11_sheet_33 : decode cX11_sheet 33 = .ok (.iload_n 2, 1) := by decide +kernel
theorem dX11_sheet_34 : decode cX11_sheet 34 = .ok (.invokevirtual 240, 3) := by decide +kernel
theorem dX11_sheet_37 : decode cX11_sheet 37 = .ok (.ifCond .ne 7, 3) := by decide +kernel
theorem dX11_sheet_40 : decode cX11_sheet 40 = .ok (.iconst 1, 1) := by decide +kernel
theorem dX11_sheet_41 : decode cX11_sheet 41 = .ok (.goto 4, 3) := by decide +kernel
theorem dX11_sheet_44 : decode cX11_sheet 44 = .ok (.iconst 0, 1) := by decide +kernel
theorem dX11_sheet_45 : decode cX11_sheet 45 = .ok (.invokestatic 104, 3) := by decide +kernel
theorem dX11_sheet_48 : decode cX11_sheet 48 = .ok (.aload_n 0, 1) := by decide +kernel
theorem dX11_sheet_49 : decode cX11_sheet 49 = .ok (.getfield 56, 3) := by decide +kernel
theorem dX11_sheet_52 : decode cX11_sheet 52 = .ok (.getfield 251, 3) := by decide +kernel
theorem dX11_sheet_55 : decode cX11_sheet 55 = .ok (.bipush 8, 2) := by decide +kernel
theorem dX11_sheet_57 : decode cX11_sheet 57 = .ok (.if_icmp .lt 7, 3) := by decide +kernel
theorem dX11_sheet_60 : decode cX11_sheet 60 = .ok (.iconst 1, 1) := by decide +kernel
theorem dX11_sheet_61 : decode cX11_sheet 61 = .ok (.goto 4, 3) := by decide +kernel
theorem dX11_sheet_64 : decode cX11_sheet 64 = .ok (.iconst 0, 1) := by decide +kernel
theorem dX11_sheet_65 : decode cX11_sheet 65 = .ok (.invokestatic 73, 3) := by decide +kernel
theorem dX11_sheet_68 : decode cX11_sheet 68 = .ok (.aload_n 0, 1) := by decide +kernel
theorem dX11_sheet_69 : decode cX11_sheet 69 = .ok (.invokevirtual 93, 3) := by decide +kernel
theorem dX11_sheet_72 : decode cX11_sheet 72 = .ok (.aload_n 0, 1) := by decide +kernel
theorem dX11_sheet_73 : decode cX11_sheet 73 = .ok (.getfield 56, 3) := by decide +kernel
theorem dX11_sheet_76 : decode cX11_sheet 76 = .ok (.iload_n 1, 1) := by decide +kernel
theorem dX11_sheet_77 : decode cX11_sheet 77 = .ok (.aload_n 0, 1) := by decide +kernel
theorem dX11_sheet_78 : decode cX11_sheet 78 = .ok (.getfield 48, 3) := by decide +kernel
theorem dX11_sheet_81 : decode cX11_sheet 81 = .ok (.iload_n 2, 1) := by decide +kernel
theorem dX11_sheet_82 : decode cX11_sheet 82 = .ok (.invokevirtual 244, 3) := by decide +kernel
theorem dX11_sheet_85 : decode cX11_sheet 85 = .ok (.iload_n 3, 1) := by decide +kernel
theorem dX11_sheet_86 : decode cX11_sheet 86 = .ok (.invokevirtual 254, 3) := by decide +kernel
theorem dX11_sheet_89 : decode cX11_sheet 89 = .ok (.ireturn, 1) := by decide +kernel
theorem dX11_sheetAt_0 : decode cX11_sheetAt 0 = .ok (.aload_n 0, 1) := by decide +kernel
theorem dX11_sheetAt_1 : decode cX11_sheetAt 1 = .ok (.getfield 56, 3) := by decide +kernel
theorem dX11_sheetAt_4 : decode cX11_sheetAt 4 = .ok (.iload_n 1, 1) := by decide +kernel
theorem dX11_sheetAt_5 : decode cX11_sheetAt 5 = .ok (.invokevirtual 407, 3) := by decide +kernel
theorem dX11_sheetAt_8 : decode cX11_sheetAt 8 = .ok (.astore_n 2, 1) := by decide +kernel
theorem dX11_sheetAt_9 : decode cX11_sheetAt 9 = .ok (.aload_n 2, 1) := by decide +kernel
theorem dX11_sheetAt_10 : decode cX11_sheetAt 10 = .ok (.ifnonnull 11, 3) := by decide +kernel
theorem dX11_sheetAt_13 : decode cX11_sheetAt 13 = .ok (.new 206, 3) := by decide +kernel
theorem dX11_sheetAt_16 : decode cX11_sheetAt 16 = .ok (.dup, 1) := by decide +kernel
theorem dX11_sheetAt_17 : decode cX11_sheetAt 17 = .ok (.invokespecial 208, 3) := by decide +kernel
theorem dX11_sheetAt_20 : decode cX11_sheetAt 20 = .ok (.athrow, 1) := by decide +kernel
theorem dX11_sheetAt_21 : decode cX11_sheetAt 21 = .ok (.aload_n 2, 1) := by decide +kernel
theorem dX11_sheetAt_22 : decode cX11_sheetAt 22 = .ok (.areturn, 1) := by decide +kernel
theorem dX11_turn_0 : decode cX11_turn 0 = .ok (.aload_n 0, 1) := by decide +kernel
theorem dX11_turn_1 : decode cX11_turn 1 = .ok (.iload_n 1, 1) := by decide +kernel
theorem dX11_turn_2 : decode cX11_turn 2 = .ok (.invokevirtual 258, 3) := by decide +kernel
theorem dX11_turn_5 : decode cX11_turn 5 = .ok (.astore_n 3, 1) := by decide +kernel
theorem dX11_turn_6 : decode cX11_turn 6 = .ok (.aload_n 3, 1) := by decide +kernel
theorem dX11_turn_7 : decode cX11_turn 7 = .ok (.getfield 262, 3) := by decide +kernel
theorem dX11_turn_10 : decode cX11_turn 10 = .ok (.istore 4, 2) := by decide +kernel
theorem dX11_turn_12 : decode cX11_turn 12 = .ok (.aload_n 3, 1) := by decide +kernel
theorem dX11_turn_13 : decode cX11_turn 13 = .ok (.iload_n 2, 1) := by decide +kernel
theorem dX11_turn_14 : decode cX11_turn 14 = .ok (.putfield 262, 3) := by decide +kernel
theorem dX11_turn_17 : decode cX11_turn 17 = .ok (.aload_n 0, 1) := by decide +kernel
theorem dX11_turn_18 : decode cX11_turn 18 = .ok (.invokevirtual 93, 3) := by decide +kernel
theorem dX11_turn_21 : decode cX11_turn 21 = .ok (.iload 4, 2) := by decide +kernel
theorem dX11_turn_23 : decode cX11_turn 23 = .ok (.ireturn, 1) := by decide +kernel
theorem dX11_rule_0 : decode cX11_rule 0 = .ok (.aload_n 0, 1) := by decide +kernel
theorem dX11_rule_1 : decode cX11_rule 1 = .ok (.iload_n 1, 1) := by decide +kernel
theorem dX11_rule_2 : decode cX11_rule 2 = .ok (.invokevirtual 258, 3) := by decide +kernel
theorem dX11_rule_5 : decode cX11_rule 5 = .ok (.astore_n 3, 1) := by decide +kernel
theorem dX11_rule_6 : decode cX11_rule 6 = .ok (.aload_n 0, 1) := by decide +kernel
theorem dX11_rule_7 : decode cX11_rule 7 = .ok (.iload_n 2, 1) := by decide +kernel
theorem dX11_rule_8 : decode cX11_rule 8 = .ok (.invokevirtual 236, 3) := by decide +kernel
theorem dX11_rule_11 : decode cX11_rule 11 = .ok (.astore 4, 2) := by decide +kernel
theorem dX11_rule_13 : decode cX11_rule 13 = .ok (.aload_n 0, 1) := by decide +kernel
theorem dX11_rule_14 : decode cX11_rule 14 = .ok (.getfield 56, 3) := by decide +kernel
theorem dX11_rule_17 : decode cX11_rule 17 = .ok (.getfield 267, 3) := by decide +kernel
theorem dX11_rule_20 : decode cX11_rule 20 = .ok (.bipush 40, 2) := by decide +kernel
theorem dX11_rule_22 : decode cX11_rule 22 = .ok (.if_icmp .lt 7, 3) := by decide +kernel
theorem dX11_rule_25 : decode cX11_rule 25 = .ok (.iconst 1, 1) := by decide +kernel
theorem dX11_rule_26 : decode cX11_rule 26 = .ok (.goto 4, 3) := by decide +kernel
theorem dX11_rule_29 : decode cX11_rule 29 = .ok (.iconst 0, 1) := by decide +kernel
theorem dX11_rule_30 : decode cX11_rule 30 = .ok (.invokestatic 73, 3) := by decide +kernel
theorem dX11_rule_33 : decode cX11_rule 33 = .ok (.aload_n 0, 1) := by decide +kernel
theorem dX11_rule_34 : decode cX11_rule 34 = .ok (.invokevirtual 93, 3) := by decide +kernel
theorem dX11_rule_37 : decode cX11_rule 37 = .ok (.aload_n 0, 1) := by decide +kernel
theorem dX11_rule_38 : decode cX11_rule 38 = .ok (.getfield 56, 3) := by decide +kernel
theorem dX11_rule_41 : decode cX11_rule 41 = .ok (.aload_n 3, 1) := by decide +kernel
theorem dX11_rule_42 : decode cX11_rule 42 = .ok (.aload 4, 2) := by decide +kernel
theorem dX11_rule_44 : decode cX11_rule 44 = .ok (.invokevirtual 270, 3) := by decide +kernel
theorem dX11_rule_47 : decode cX11_rule 47 = .ok (.ireturn, 1) := by decide +kernel
def f_X11_shownParent_24  (x0 : Nat) (y0 : Int32) (σ : cS) : Option ((Nat ⊕ Int32) × cS) := some (.inr y0, σ)
def f_X11_shownParent (x0 : Nat) (x1 : Int32) (σ : cS) : Option ((Nat ⊕ Int32) × cS) := (rc σ (some x0) 11).bind (fun v1 => (f_X11_elementAt v1 (x1) σ).bind (fun v2 => v2.1.elim (fun k => some (.inl k, v2.2)) (fun w3 => (gR v2.2 w3 3 16).bind (fun v4 => if v4 = none then (f_X11_shownParent_24 x0 (((-1):Int32)) v2.2) else ((gR v2.2 w3 3 16).bind (fun v5 => (gI v2.2 v5 3 0).bind (fun v6 => f_X11_shownParent_24 x0 (v6) v2.2)))))))
set_option maxRecDepth 20000 in
set_option maxHeartbeats 4000000 in
theorem N_X11_shownParent_24 {p : Program} {l : Launch} {e : Env} {s : State} {m : MethodId} {args : Array Value} {below : List Frame} {meth : Method} {c : Code} {D : cD} {Φ : cG} {x0 : Nat}   {y0 : Int32} {σ : cS} {H : Heap} {locs : List Loc} {ls : Array Slot} {q : (Nat ⊕ Int32) × cS} (X : cX p s m args meth c cX11_shownParent 3 (some .int) RX11 D Φ) (hl9 : l.stackTraces = false) (hnt : ∀ x ∈ c.exceptionTable.toList, False) (hP : cP D Φ σ H) (hS : va_S (cReg Φ) s.heap H locs)  (hl : lv_has ls 3 []) (h : f_X11_shownParent_24  x0 y0 σ = some q) : cWt p l e 7 1 6 112 s m args below meth c D Φ vlI q H locs 1 6 (F0 m 24 ls [.int y0]) := by
  have hx := X.1
  have hb := X.2.1
  have hown := X.2.2.2.1
  have hts := X.2.2.2.2.1
  have h : (some (.inr y0, σ)) = some q := h
  exact c_ti X hP hS (sj h).symm (Nat.le_of_ble_eq_true rfl) (Nat.le_of_ble_eq_true rfl) dX11_shownParent_24
set_option maxRecDepth 20000 in
set_option maxHeartbeats 4000000 in
theorem K_X11_shownParent (l : Launch) (hl9 : l.stackTraces = false) (D : cD) (Φ : cG) (σ : cS) (x0 : Nat) (x1 : Int32) {q : (Nat ⊕ Int32) × cS} (h : f_X11_shownParent x0 x1 σ = some q) : vx_Met l yX11_shownParent (Cond.code yX11_shownParent cX11_shownParent 3 (some .int) :: BG) (rA 7 1 6 112) (cPc D Φ σ [cv Φ (some x0), .int x1]) (cQt vlI D Φ q) (cXC D Φ q) 1 6 (cReg Φ) := by
  refine vx_ofW (cc := cX11_shownParent) (maxL := 3) (ret := (some .int)) (by decide) rfl ?_
  intro p e s m args below meth c s₁ B hml hnt hv
  obtain ⟨rfl, hP, hK, hZ⟩ := hv
  have X : cX p s m [cv Φ (some x0), .int x1].toArray meth c cX11_shownParent 3 (some .int) RX11 D Φ := cX_of B hml hK hZ
  have hx := X.1
  have hb := X.2.1
  have hown := X.2.2.2.1
  have hts := X.2.2.2.2.1
  have hl := lv_entry [cv Φ (some x0), .int x1] (n := 3) (by simp only [lgs_r, lgs_i, lgs_l, lgs_0, List.length]; exact Nat.le_of_ble_eq_true rfl)
  rw [lg_entry_eq]
  generalize (lg_sl [cv Φ (some x0), .int x1] ++ List.replicate (3 - (lg_sl [cv Φ (some x0), .int x1]).length) Slot.unset).toArray = ls at hl ⊢
  simp only [lv_args_r, lv_args_i, lv_args_l, lv_args_0] at hl
  have hl : lv_has ls 3 [(0, cv Φ (some x0)), (1, .int x1)] := hl
  have hS : va_S (cReg Φ) s.heap s.heap [] := va_S.rf
  show cWt p l e 7 1 6 112 s m [cv Φ (some x0), .int x1].toArray below meth c D Φ vlI q s.heap [] 0 0 (F0 m 0 ls [])
  have h : ((rc σ (some x0) 11).bind (fun v1 => (f_X11_elementAt v1 (x1) σ).bind (fun v2 => v2.1.elim (fun k => some (.inl k, v2.2)) (fun w3 => (gR v2.2 w3 3 16).bind (fun v4 => if v4 = none then (f_X11_shownParent_24 x0 (((-1):Int32)) v2.2) else ((gR v2.2 w3 3 16).bind (fun v5 => (gI v2.2 v5 3 0).bind (fun v6 => f_X11_shownParent_24 x0 (v6) v2.2)))))))) = some q := h
  refine c_aload_n hx hb dX11_shownParent_0 rfl (lv_at hl 0 rfl) ?_
  refine lv_iload_n hx hb dX11_shownParent_1 rfl (lv_at hl 1 rfl) ?_
  obtain ⟨v1, hv1, h⟩ := ob h
  obtain ⟨v2, hv2, h⟩ := ob h
  refine c_ct (c_tV X (K_X11_elementAt l hl9 D Φ σ v1 (x1) hv2) hv1 ⟨Nat.le_of_ble_eq_true rfl, by decide⟩ ⟨w_735, ww_X11_elementAt⟩ rfl hy_X11_elementAt rfl ⟨(Nat.le_of_ble_eq_true rfl), (Nat.le_of_ble_eq_true rfl)⟩ hP hS hl.1 (Nat.le_of_ble_eq_true rfl) dX11_shownParent_2 rfl ⟨(Nat.le_of_ble_eq_true rfl), (Nat.le_of_ble_eq_true rfl)⟩) X hnt hS ⟨(Nat.le_of_ble_eq_true rfl), (Nat.le_of_ble_eq_true rfl)⟩ (fun k e => by have h9 := el_l e h; exact (sj h9).symm) (fun w3 H locs e hP hS => ?_)
  have h := el_r e h
  refine W.eq (g2 := F0 m 5 ls [cv Φ w3]) rfl ?_
  refine c_astore_n hx hb dX11_shownParent_5 rfl hl (Nat.le_of_ble_eq_true rfl) (lvKa rfl (lvKi lvK0)) rfl (fun ls (hl : lv_has ls 3 [(2, cv Φ w3), (0, cv Φ (some x0)), (1, .int x1)]) => ?_)
  refine c_aload_n hx hb dX11_shownParent_6 rfl (lv_at hl 0 rfl) ?_
  obtain ⟨v4, hv4, h⟩ := ob h
  refine c_gR X hP hv4 (Nat.le_of_ble_eq_true rfl) (Nat.le_of_ble_eq_true rfl) rfl w_273 dX11_shownParent_7 ?_
  refine c_ifnonnull (Φ := Φ) (tgt := 17) hx hb dX11_shownParent_10 rfl (fun hc => ?_) (fun hc => ?_)
  · have h := ine hc h
    refine c_aload_n hx hb dX11_shownParent_17 rfl (lv_at hl 0 rfl) ?_
    obtain ⟨v5, hv5, h⟩ := ob h
    refine c_gR X hP hv5 (Nat.le_of_ble_eq_true rfl) (Nat.le_of_ble_eq_true rfl) rfl w_273 dX11_shownParent_18 ?_
    obtain ⟨v6, hv6, h⟩ := ob h
    refine c_gI X hP hv6 (Nat.le_of_ble_eq_true rfl) (Nat.le_of_ble_eq_true rfl) rfl w_227 dX11_shownParent_21 ?_
    exact N_X11_shownParent_24 X hl9 hnt hP hS (lv_sub hl [] rfl) h
  · have h := ip hc h
    refine lv_iconst (v := ((-1):Int32)) hx hb dX11_shownParent_13 (by decide) ?_
    refine lv_goto (tgt := 24) hx hb dX11_shownParent_14 rfl ?_
    exact N_X11_shownParent_24 X hl9 hnt hP hS (lv_sub hl [] rfl) h
theorem ww_X11_shownParent : Cond.instanceMethod yX11_shownParent ∈ BG ∧ Cond.selects (yX11_shownParent).cls yX11_shownParent yX11_shownParent ∈ BG ∧ Cond.initialized (yX11_shownParent).cls ∈ BG ∧ Cond.code yX11_shownParent cX11_shownParent 3 (some .int) ∈ BG := ⟨w_1113, w_1114, w_56, w_1115⟩
theorem hy_X11_shownParent : (yX11_shownParent).cls ≠ "java/lang/invoke/MethodHandle" ∧ (yX11_shownParent).cls ≠ "java/lang/invoke/VarHandle" ∧ (parseMethodDescriptor (yX11_shownParent).desc).map (fun d => d.parameters.length) = some 1 := ⟨by decide, by decide, by decide +kernel⟩
def f_X11_isIn (x0 : Nat) (x1 : Int32) (σ : cS) : Option ((Nat ⊕ Int32) × cS) := (gR σ (some x0) 11 0).bind (fun v1 => (rc σ (some x0) 11).bind (fun v2 => (f_X11_elementAt v2 (x1) σ).bind (fun v3 => v3.1.elim (fun k => some (.inl k, v3.2)) (fun w4 => (rc v3.2 v1 10).bind (fun v5 => (f_X10_holdsElement v5 (w4) v3.2).bind (fun v6 => lrzt v6 v3.2))))))
set_option maxRecDepth 20000 in
set_option maxHeartbeats 4000000 in
theorem K_X11_isIn (l : Launch) (hl9 : l.stackTraces = false) (D : cD) (Φ : cG) (σ : cS) (x0 : Nat) (x1 : Int32) {q : (Nat ⊕ Int32) × cS} (h : f_X11_isIn x0 x1 σ = some q) : vx_Met l yX11_isIn (Cond.code yX11_isIn cX11_isIn 2 (some .boolean) :: BG) (rA 7 1 6 112) (cPc D Φ σ [cv Φ (some x0), .int x1]) (cQt vlI D Φ q) (cXC D Φ q) 1 6 (cReg Φ) := by
  refine vx_ofW (cc := cX11_isIn) (maxL := 2) (ret := (some .boolean)) (by decide) rfl ?_
  intro p e s m args below meth c s₁ B hml hnt hv
  obtain ⟨rfl, hP, hK, hZ⟩ := hv
  have X : cX p s m [cv Φ (some x0), .int x1].toArray meth c cX11_isIn 2 (some .boolean) RX11 D Φ := cX_of B hml hK hZ
  have hx := X.1
  have hb := X.2.1
  have hown := X.2.2.2.1
  have hts := X.2.2.2.2.1
  have hl := lv_entry [cv Φ (some x0), .int x1] (n := 2) (by simp only [lgs_r, lgs_i, lgs_l, lgs_0, List.length]; exact Nat.le_of_ble_eq_true rfl)
  rw [lg_entry_eq]
  generalize (lg_sl [cv Φ (some x0), .int x1] ++ List.replicate (2 - (lg_sl [cv Φ (some x0), .int x1]).length) Slot.unset).toArray = ls at hl ⊢
  simp only [lv_args_r, lv_args_i, lv_args_l, lv_args_0] at hl
  have hl : lv_has ls 2 [(0, cv Φ (some x0)), (1, .int x1)] := hl
  have hS : va_S (cReg Φ) s.heap s.heap [] := va_S.rf
  show cWt p l e 7 1 6 112 s m [cv Φ (some x0), .int x1].toArray below meth c D Φ vlI q s.heap [] 0 0 (F0 m 0 ls [])
  have h : ((gR σ (some x0) 11 0).bind (fun v1 => (rc σ (some x0) 11).bind (fun v2 => (f_X11_elementAt v2 (x1) σ).bind (fun v3 => v3.1.elim (fun k => some (.inl k, v3.2)) (fun w4 => (rc v3.2 v1 10).bind (fun v5 => (f_X10_holdsElement v5 (w4) v3.2).bind (fun v6 => lrzt v6 v3.2))))))) = some q := h
  refine c_aload_n hx hb dX11_isIn_0 rfl (lv_at hl 0 rfl) ?_
  obtain ⟨v1, hv1, h⟩ := ob h
  refine c_gR X hP hv1 (Nat.le_of_ble_eq_true rfl) (Nat.le_of_ble_eq_true rfl) rfl w_571 dX11_isIn_1 ?_
  refine c_aload_n hx hb dX11_isIn_4 rfl (lv_at hl 0 rfl) ?_
  refine lv_iload_n hx hb dX11_isIn_5 rfl (lv_at hl 1 rfl) ?_
  obtain ⟨v2, hv2, h⟩ := ob h
  obtain ⟨v3, hv3, h⟩ := ob h
  refine c_ct (c_tV X (K_X11_elementAt l hl9 D Φ σ v2 (x1) hv3) hv2 ⟨Nat.le_of_ble_eq_true rfl, by decide⟩ ⟨w_735, ww_X11_elementAt⟩ rfl hy_X11_elementAt rfl ⟨(Nat.le_of_ble_eq_true rfl), (Nat.le_of_ble_eq_true rfl)⟩ hP hS hl.1 (Nat.le_of_ble_eq_true rfl) dX11_isIn_6 rfl ⟨(Nat.le_of_ble_eq_true rfl), (Nat.le_of_ble_eq_true rfl)⟩) X hnt hS ⟨(Nat.le_of_ble_eq_true rfl), (Nat.le_of_ble_eq_true rfl)⟩ (fun k e => by have h9 := el_l e h; exact (sj h9).symm) (fun w4 H locs e hP hS => ?_)
  have h := el_r e h
  refine W.eq (g2 := F0 m 9 ls [cv Φ w4, cv Φ v1]) rfl ?_
  obtain ⟨v5, hv5, h⟩ := ob h
  obtain ⟨v6, hv6, h⟩ := ob h
  refine c_cr (c_runV X (K_X10_holdsElement l D Φ v3.2 v5 (w4) hv6) hv5 ⟨Nat.le_of_ble_eq_true rfl, by decide⟩ ⟨w_897, ww_X10_holdsElement⟩ rfl hy_X10_holdsElement rfl ⟨(Nat.le_of_ble_eq_true rfl), (Nat.le_of_ble_eq_true rfl)⟩ hP hS hl.1 (Nat.le_of_ble_eq_true rfl) dX11_isIn_9 rfl ⟨(Nat.le_of_ble_eq_true rfl), (Nat.le_of_ble_eq_true rfl)⟩) ?_
  obtain ⟨hz, hq⟩ := lrzt_spec h
  exact c_tz X hz hP hS hq (Nat.le_of_ble_eq_true rfl) (Nat.le_of_ble_eq_true rfl) dX11_isIn_12
theorem ww_X11_isIn : Cond.instanceMethod yX11_isIn ∈ BG ∧ Cond.selects (yX11_isIn).cls yX11_isIn yX11_isIn ∈ BG ∧ Cond.initialized (yX11_isIn).cls ∈ BG ∧ Cond.code yX11_isIn cX11_isIn 2 (some .boolean) ∈ BG := ⟨w_1117, w_1118, w_56, w_1119⟩
theorem hy_X11_isIn : (yX11_isIn).cls ≠ "java/lang/invoke/MethodHandle" ∧ (yX11_isIn).cls ≠ "java/lang/invoke/VarHandle" ∧ (parseMethodDescriptor (yX11_isIn).desc).map (fun d => d.parameters.length) = some 1 := ⟨by decide, by decide, by decide +kernel⟩
def f_X11_test_132  (x0 : Nat) (x1 : Int32) (x2 : Int32) (x3 : Int32) (x4 : Option Nat) (x5 : Option Nat) (y0 : Int32) (σ : cS) : Option ((Nat ⊕ Int32) × cS) := (f_X11_refuseState (y0) σ).bind (fun v1 => v1.1.elim (fun k => some (.inl k, v1.2)) (fun w2 => (rc v1.2 x5 7).bind (fun v3 => (f_X7_addTest v3 (x1) (x2) (x3) (x4) v1.2).bind (fun v4 => (gR v4 x5 7 1).bind (fun v5 => (gI v4 v5 2 4).bind (fun v6 => some (.inr v6, v4)))))))
def f_X11_test_127  (x0 : Nat) (x1 : Int32) (x2 : Int32) (x3 : Int32) (x4 : Option Nat) (x5 : Option Nat) (σ : cS) : Option ((Nat ⊕ Int32) × cS) := f_X11_test_132 x0 (x1) (x2) (x3) (x4) (x5) ((1:Int32)) σ
def f_X11_test_131  (x0 : Nat) (x1 : Int32) (x2 : Int32) (x3 : Int32) (x4 : Option Nat) (x5 : Option Nat) (σ : cS) : Option ((Nat ⊕ Int32) × cS) := f_X11_test_132 x0 (x1) (x2) (x3) (x4) (x5) ((0:Int32)) σ
def f_X11_test_91  (x0 : Nat) (x1 : Int32) (x2 : Int32) (x3 : Int32) (x4 : Option Nat) (σ : cS) : Option ((Nat ⊕ Int32) × cS) := (gR σ (some x0) 11 1).bind (fun v1 => (gR σ v1 5 3).bind (fun v2 => (gR σ v2 7 1).bind (fun v3 => (gI σ v3 2 4).bind (fun v4 => if (4:Int32) ≤ v4 then (f_X11_test_127 x0 (x1) (x2) (x3) (x4) (v2) σ) else (if x1 = (9:Int32) then ((gI σ v2 7 4).bind (fun v5 => if v5 = ((-1):Int32) then (f_X11_test_131 x0 (x1) (x2) (x3) (x4) (v2) σ) else (f_X11_test_127 x0 (x1) (x2) (x3) (x4) (v2) σ))) else (f_X11_test_131 x0 (x1) (x2) (x3) (x4) (v2) σ))))))
def f_X11_test_78  (x0 : Nat) (x1 : Int32) (x2 : Int32) (x3 : Int32) (x4 : Option Nat) (σ : cS) : Option ((Nat ⊕ Int32) × cS) := if x4 = none then (some (.inl 2, σ)) else (f_X11_test_91 x0 (x1) (x2) (x3) (x4) σ)
def f_X11_test_52  (x0 : Nat) (x1 : Int32) (x2 : Int32) (x3 : Int32) (y0 : Option Nat) (y1 : Int32) (σ : cS) : Option ((Nat ⊕ Int32) × cS) := (rc σ y0 5).bind (fun v1 => (f_X5_selectorAt v1 (y1) σ).bind (fun v2 => if v2 = none then (f_X11_test_78 x0 (x1) (x2) (x3) (v2) σ) else ((rc σ v2 7).bind (fun v3 => (f_X7_reachesOut v3  σ).bind (fun v4 => if v4 = (0:Int32) then (f_X11_test_78 x0 (x1) (x2) (x3) (v2) σ) else (some (.inl 0, σ)))))))
def f_X11_test_37  (x0 : Nat) (x1 : Int32) (x2 : Int32) (x3 : Int32) (σ : cS) : Option ((Nat ⊕ Int32) × cS) := (gR σ (some x0) 11 1).bind (fun v1 => if x1 = (7:Int32) then (f_X11_test_52 x0 (x1) (x2) (x3) (v1) (x3) σ) else (f_X11_test_52 x0 (x1) (x2) (x3) (v1) (x2) σ))
def f_X11_test_14  (x0 : Nat) (x1 : Int32) (x2 : Int32) (x3 : Int32) (y0 : Int32) (σ : cS) : Option ((Nat ⊕ Int32) × cS) := (f_X11_refuseArgument (y0) σ).bind (fun v1 => v1.1.elim (fun k => some (.inl k, v1.2)) (fun w2 => if x1 = (5:Int32) then (f_X11_test_37 x0 (x1) (x2) (x3) v1.2) else (if x1 = (6:Int32) then (f_X11_test_37 x0 (x1) (x2) (x3) v1.2) else (if x1 = (7:Int32) then (f_X11_test_37 x0 (x1) (x2) (x3) v1.2) else (f_X11_test_91 x0 (x1) (x2) (x3) (none) v1.2)))))
def f_X11_test (x0 : Nat) (x1 : Int32) (x2 : Int32) (x3 : Int32) (σ : cS) : Option ((Nat ⊕ Int32) × cS) := (f_X11_suitsTest (x1) (x2) (x3)).bind (fun v1 => if v1 = (0:Int32) then (f_X11_test_14 x0 (x1) (x2) (x3) ((1:Int32)) σ) else (f_X11_test_14 x0 (x1) (x2) (x3) ((0:Int32)) σ))
set_option maxRecDepth 20000 in
set_option maxHeartbeats 4000000 in
theorem N_X11_test_132 {p : Program} {l : Launch} {e : Env} {s : State} {m : MethodId} {args : Array Value} {below : List Frame} {meth : Method} {c : Code} {D : cD} {Φ : cG} {x0 : Nat}   {x1 : Int32} {x2 : Int32} {x3 : Int32} {x4 : Option Nat} {x5 : Option Nat} {y0 : Int32} {σ : cS} {H : Heap} {locs : List Loc} {ls : Array Slot} {q : (Nat ⊕ Int32) × cS} (X : cX p s m args meth c cX11_test 6 (some .int) RX11 D Φ) (hl9 : l.stackTraces = false) (hnt : ∀ x ∈ c.exceptionTable.toList, False) (hP : cP D Φ σ H) (hS : va_S (cReg Φ) s.heap H locs)  (hl : lv_has ls 6 [(1, .int x1), (2, .int x2), (3, .int x3), (4, cv Φ x4), (5, cv Φ x5)]) (h : f_X11_test_132  x0 x1 x2 x3 x4 x5 y0 σ = some q) : cWt p l e 7 2 12 110 s m args below meth c D Φ vlI q H locs 1 6 (F0 m 132 ls [.int y0]) := by
  have hx := X.1
  have hb := X.2.1
  have hown := X.2.2.2.1
  have hts := X.2.2.2.2.1
  have h : ((f_X11_refuseState (y0) σ).bind (fun v1 => v1.1.elim (fun k => some (.inl k, v1.2)) (fun w2 => (rc v1.2 x5 7).bind (fun v3 => (f_X7_addTest v3 (x1) (x2) (x3) (x4) v1.2).bind (fun v4 => (gR v4 x5 7 1).bind (fun v5 => (gI v4 v5 2 4).bind (fun v6 => some (.inr v6, v4)))))))) = some q := h
  obtain ⟨v1, hv1, h⟩ := ob h
  refine c_ct (c_tS X (K_X11_refuseState l hl9 D Φ σ (y0) hv1) ⟨w_704, ww_X11_refuseState⟩ hy_X11_refuseState rfl ⟨(Nat.le_of_ble_eq_true rfl), (Nat.le_of_ble_eq_true rfl)⟩ hP hS hl.1 (Nat.le_of_ble_eq_true rfl) dX11_test_132 rfl ⟨(Nat.le_of_ble_eq_true rfl), (Nat.le_of_ble_eq_true rfl)⟩) X hnt hS ⟨(Nat.le_of_ble_eq_true rfl), (Nat.le_of_ble_eq_true rfl)⟩ (fun k e => by have h9 := el_l e h; exact (sj h9).symm) (fun w2 H locs e hP hS => ?_)
  have h := el_r e h
  refine W.eq (g2 := F0 m 135 ls []) rfl ?_
  refine c_aload hx hb dX11_test_135 (lv_at hl 4 rfl) ?_
  refine lv_iload_n hx hb dX11_test_137 rfl (lv_at hl 0 rfl) ?_
  refine lv_iload_n hx hb dX11_test_138 rfl (lv_at hl 1 rfl) ?_
  refine lv_iload_n hx hb dX11_test_139 rfl (lv_at hl 2 rfl) ?_
  refine c_aload hx hb dX11_test_140 (lv_at hl 3 rfl) ?_
  obtain ⟨v3, hv3, h⟩ := ob h
  obtain ⟨v4, hv4, h⟩ := ob h
  refine c_cw (c_runV X (K_X7_addTest l D Φ v1.2 v3 (x1) (x2) (x3) (x4) hv4) hv3 ⟨Nat.le_of_ble_eq_true rfl, by decide⟩ ⟨w_868, ww_X7_addTest⟩ rfl hy_X7_addTest rfl ⟨(Nat.le_of_ble_eq_true rfl), (Nat.le_of_ble_eq_true rfl)⟩ hP hS hl.1 (Nat.le_of_ble_eq_true rfl) dX11_test_142 rfl ⟨(Nat.le_of_ble_eq_true rfl), (Nat.le_of_ble_eq_true rfl)⟩) hS (fun H locs hP hS => ?_)
  refine W.eq (g2 := F0 m 145 ls []) rfl ?_
  refine c_aload hx hb dX11_test_145 (lv_at hl 4 rfl) ?_
  obtain ⟨v5, hv5, h⟩ := ob h
  refine c_gR X hP hv5 (Nat.le_of_ble_eq_true rfl) (Nat.le_of_ble_eq_true rfl) rfl w_412 dX11_test_147 ?_
  obtain ⟨v6, hv6, h⟩ := ob h
  refine c_gI X hP hv6 (Nat.le_of_ble_eq_true rfl) (Nat.le_of_ble_eq_true rfl) rfl w_380 dX11_test_150 ?_
  exact c_ti X hP hS (sj h).symm (Nat.le_of_ble_eq_true rfl) (Nat.le_of_ble_eq_true rfl) dX11_test_153
set_option maxRecDepth 20000 in
set_option maxHeartbeats 4000000 in
theorem N_X11_test_127 {p : Program} {l : Launch} {e : Env} {s : State} {m : MethodId} {args : Array Value} {below : List Frame} {meth : Method} {c : Code} {D : cD} {Φ : cG} {x0 : Nat}   {x1 : Int32} {x2 : Int32} {x3 : Int32} {x4 : Option Nat} {x5 : Option Nat} {σ : cS} {H : Heap} {locs : List Loc} {ls : Array Slot} {q : (Nat ⊕ Int32) × cS} (X : cX p s m args meth c cX11_test 6 (some .int) RX11 D Φ) (hl9 : l.stackTraces = false) (hnt : ∀ x ∈ c.exceptionTable.toList, False) (hP : cP D Φ σ H) (hS : va_S (cReg Φ) s.heap H locs)  (hl : lv_has ls 6 [(1, .int x1), (2, .int x2), (3, .int x3), (4, cv Φ x4), (5, cv Φ x5)]) (h : f_X11_test_127  x0 x1 x2 x3 x4 x5 σ = some q) : cWt p l e 7 2 12 110 s m args below meth c D Φ vlI q H locs 1 6 (F0 m 127 ls []) := by
  have hx := X.1
  have hb := X.2.1
  have hown := X.2.2.2.1
  have hts := X.2.2.2.2.1
  have h : (f_X11_test_132 x0 (x1) (x2) (x3) (x4) (x5) ((1:Int32)) σ) = some q := h
  refine lv_iconst (v := (1:Int32)) hx hb dX11_test_127 (by decide) ?_
  refine lv_goto (tgt := 132) hx hb dX11_test_128 rfl ?_
  exact N_X11_test_132 X hl9 hnt hP hS (lv_sub hl [0, 1, 2, 3, 4] rfl) h
set_option maxRecDepth 20000 in
set_option maxHeartbeats 4000000 in
theorem N_X11_test_131 {p : Program} {l : Launch} {e : Env} {s : State} {m : MethodId} {args : Array Value} {below : List Frame} {meth : Method} {c : Code} {D : cD} {Φ : cG} {x0 : Nat}   {x1 : Int32} {x2 : Int32} {x3 : Int32} {x4 : Option Nat} {x5 : Option Nat} {σ : cS} {H : Heap} {locs : List Loc} {ls : Array Slot} {q : (Nat ⊕ Int32) × cS} (X : cX p s m args meth c cX11_test 6 (some .int) RX11 D Φ) (hl9 : l.stackTraces = false) (hnt : ∀ x ∈ c.exceptionTable.toList, False) (hP : cP D Φ σ H) (hS : va_S (cReg Φ) s.heap H locs)  (hl : lv_has ls 6 [(1, .int x1), (2, .int x2), (3, .int x3), (4, cv Φ x4), (5, cv Φ x5)]) (h : f_X11_test_131  x0 x1 x2 x3 x4 x5 σ = some q) : cWt p l e 7 2 12 110 s m args below meth c D Φ vlI q H locs 1 6 (F0 m 131 ls []) := by
  have hx := X.1
  have hb := X.2.1
  have hown := X.2.2.2.1
  have hts := X.2.2.2.2.1
  have h : (f_X11_test_132 x0 (x1) (x2) (x3) (x4) (x5) ((0:Int32)) σ) = some q := h
  refine lv_iconst (v := (0:Int32)) hx hb dX11_test_131 (by decide) ?_
  exact N_X11_test_132 X hl9 hnt hP hS (lv_sub hl [0, 1, 2, 3, 4] rfl) h
set_option maxRecDepth 20000 in
set_option maxHeartbeats 4000000 in
theorem N_X11_test_91 {p : Program} {l : Launch} {e : Env} {s : State} {m : MethodId} {args : Array Value} {below : List Frame} {meth : Method} {c : Code} {D : cD} {Φ : cG} {x0 : Nat}   {x1 : Int32} {x2 : Int32} {x3 : Int32} {x4 : Option Nat} {σ : cS} {H : Heap} {locs : List Loc} {ls : Array Slot} {q : (Nat ⊕ Int32) × cS} (X : cX p s m args meth c cX11_test 6 (some .int) RX11 D Φ) (hl9 : l.stackTraces = false) (hnt : ∀ x ∈ c.exceptionTable.toList, False) (hP : cP D Φ σ H) (hS : va_S (cReg Φ) s.heap H locs)  (hl : lv_has ls 6 [(0, cv Φ (some x0)), (1, .int x1), (2, .int x2), (3, .int x3), (4, cv Φ x4)]) (h : f_X11_test_91  x0 x1 x2 x3 x4 σ = some q) : cWt p l e 7 2 12 110 s m args below meth c D Φ vlI q H locs 1 6 (F0 m 91 ls []) := by
  have hx := X.1
  have hb := X.2.1
  have hown := X.2.2.2.1
  have hts := X.2.2.2.2.1
  have h : ((gR σ (some x0) 11 1).bind (fun v1 => (gR σ v1 5 3).bind (fun v2 => (gR σ v2 7 1).bind (fun v3 => (gI σ v3 2 4).bind (fun v4 => if (4:Int32) ≤ v4 then (f_X11_test_127 x0 (x1) (x2) (x3) (x4) (v2) σ) else (if x1 = (9:Int32) then ((gI σ v2 7 4).bind (fun v5 => if v5 = ((-1):Int32) then (f_X11_test_131 x0 (x1) (x2) (x3) (x4) (v2) σ) else (f_X11_test_127 x0 (x1) (x2) (x3) (x4) (v2) σ))) else (f_X11_test_131 x0 (x1) (x2) (x3) (x4) (v2) σ))))))) = some q := h
  refine c_aload_n hx hb dX11_test_91 rfl (lv_at hl 0 rfl) ?_
  obtain ⟨v1, hv1, h⟩ := ob h
  refine c_gR X hP hv1 (Nat.le_of_ble_eq_true rfl) (Nat.le_of_ble_eq_true rfl) rfl w_572 dX11_test_92 ?_
  obtain ⟨v2, hv2, h⟩ := ob h
  refine c_gR X hP hv2 (Nat.le_of_ble_eq_true rfl) (Nat.le_of_ble_eq_true rfl) rfl w_469 dX11_test_95 ?_
  refine c_astore hx hb dX11_test_98 hl (Nat.le_of_ble_eq_true rfl) (lvKa rfl (lvKa rfl (lvKa rfl (lvKa rfl (lvKr lvK0))))) rfl (fun ls (hl : lv_has ls 6 [(5, cv Φ v2), (0, cv Φ (some x0)), (1, .int x1), (2, .int x2), (3, .int x3), (4, cv Φ x4)]) => ?_)
  refine c_aload hx hb dX11_test_100 (lv_at hl 0 rfl) ?_
  obtain ⟨v3, hv3, h⟩ := ob h
  refine c_gR X hP hv3 (Nat.le_of_ble_eq_true rfl) (Nat.le_of_ble_eq_true rfl) rfl w_412 dX11_test_102 ?_
  obtain ⟨v4, hv4, h⟩ := ob h
  refine c_gI X hP hv4 (Nat.le_of_ble_eq_true rfl) (Nat.le_of_ble_eq_true rfl) rfl w_380 dX11_test_105 ?_
  refine lv_iconst (v := (4:Int32)) hx hb dX11_test_108 (by decide) ?_
  refine lv_icmp_ge (tgt := 127) hx hb dX11_test_109 rfl (fun hc => ?_) (fun hc => ?_)
  · have h := ip hc h
    exact N_X11_test_127 X hl9 hnt hP hS (lv_sub hl [2, 3, 4, 5, 0] rfl) h
  · have h := ine hc h
    refine lv_iload_n hx hb dX11_test_112 rfl (lv_at hl 2 rfl) ?_
    refine lv_bipush (v := (9:Int32)) hx hb dX11_test_113 (by decide) ?_
    refine lv_icmp_ne (tgt := 131) hx hb dX11_test_115 rfl (fun hc => ?_) (fun hc => ?_)
    · have h := ine hc h
      exact N_X11_test_131 X hl9 hnt hP hS (lv_sub hl [2, 3, 4, 5, 0] rfl) h
    · have h := ip hc h
      refine c_aload hx hb dX11_test_118 (lv_at hl 0 rfl) ?_
      obtain ⟨v5, hv5, h⟩ := ob h
      refine c_gI X hP hv5 (Nat.le_of_ble_eq_true rfl) (Nat.le_of_ble_eq_true rfl) rfl w_419 dX11_test_120 ?_
      refine lv_iconst (v := ((-1):Int32)) hx hb dX11_test_123 (by decide) ?_
      refine lv_icmp_eq (tgt := 131) hx hb dX11_test_124 rfl (fun hc => ?_) (fun hc => ?_)
      · have h := ip hc h
        exact N_X11_test_131 X hl9 hnt hP hS (lv_sub hl [2, 3, 4, 5, 0] rfl) h
      · have h := ine hc h
        exact N_X11_test_127 X hl9 hnt hP hS (lv_sub hl [2, 3, 4, 5, 0] rfl) h
set_option maxRecDepth 20000 in
set_option maxHeartbeats 4000000 in
theorem N_X11_test_78 {p : Program} {l : Launch} {e : Env} {s : State} {m : MethodId} {args : Array Value} {below : List Frame} {meth : Method} {c : Code} {D : cD} {Φ : cG} {x0 : Nat}   {x1 : Int32} {x2 : Int32} {x3 : Int32} {x4 : Option Nat} {σ : cS} {H : Heap} {locs : List Loc} {ls : Array Slot} {q : (Nat ⊕ Int32) × cS} (X : cX p s m args meth c cX11_test 6 (some .int) RX11 D Φ) (hl9 : l.stackTraces = false) (hnt : ∀ x ∈ c.exceptionTable.toList, False) (hP : cP D Φ σ H) (hS : va_S (cReg Φ) s.heap H locs)  (hl : lv_has ls 6 [(0, cv Φ (some x0)), (1, .int x1), (2, .int x2), (3, .int x3), (4, cv Φ x4)]) (h : f_X11_test_78  x0 x1 x2 x3 x4 σ = some q) : cWt p l e 7 2 12 110 s m args below meth c D Φ vlI q H locs 1 6 (F0 m 78 ls []) := by
  have hx := X.1
  have hb := X.2.1
  have hown := X.2.2.2.1
  have hts := X.2.2.2.2.1
  have h : (if x4 = none then (some (.inl 2, σ)) else (f_X11_test_91 x0 (x1) (x2) (x3) (x4) σ)) = some q := h
  refine c_aload hx hb dX11_test_78 (lv_at hl 4 rfl) ?_
  refine c_ifnonnull (Φ := Φ) (tgt := 91) hx hb dX11_test_80 rfl (fun hc => ?_) (fun hc => ?_)
  · have h := ine hc h
    exact N_X11_test_91 X hl9 hnt hP hS (lv_sub hl [0, 1, 2, 3, 4] rfl) h
  · have h := ip hc h
    exact c_thr2 hl9 X hnt hP hS hl.1 dX11_test_83 dX11_test_86 dX11_test_87 dX11_test_90 (sj h).symm (Nat.le_of_ble_eq_true rfl) (Nat.le_of_ble_eq_true rfl) (Nat.le_of_ble_eq_true rfl) (Nat.le_of_ble_eq_true rfl) (Nat.le_of_ble_eq_true rfl)
set_option maxRecDepth 20000 in
set_option maxHeartbeats 4000000 in
theorem N_X11_test_52 {p : Program} {l : Launch} {e : Env} {s : State} {m : MethodId} {args : Array Value} {below : List Frame} {meth : Method} {c : Code} {D : cD} {Φ : cG} {x0 : Nat}   {x1 : Int32} {x2 : Int32} {x3 : Int32} {y0 : Option Nat} {y1 : Int32} {σ : cS} {H : Heap} {locs : List Loc} {ls : Array Slot} {q : (Nat ⊕ Int32) × cS} (X : cX p s m args meth c cX11_test 6 (some .int) RX11 D Φ) (hl9 : l.stackTraces = false) (hnt : ∀ x ∈ c.exceptionTable.toList, False) (hP : cP D Φ σ H) (hS : va_S (cReg Φ) s.heap H locs)  (hl : lv_has ls 6 [(0, cv Φ (some x0)), (1, .int x1), (2, .int x2), (3, .int x3)]) (h : f_X11_test_52  x0 x1 x2 x3 y0 y1 σ = some q) : cWt p l e 7 2 12 110 s m args below meth c D Φ vlI q H locs 1 6 (F0 m 52 ls [.int y1, cv Φ y0]) := by
  have hx := X.1
  have hb := X.2.1
  have hown := X.2.2.2.1
  have hts := X.2.2.2.2.1
  have h : ((rc σ y0 5).bind (fun v1 => (f_X5_selectorAt v1 (y1) σ).bind (fun v2 => if v2 = none then (f_X11_test_78 x0 (x1) (x2) (x3) (v2) σ) else ((rc σ v2 7).bind (fun v3 => (f_X7_reachesOut v3  σ).bind (fun v4 => if v4 = (0:Int32) then (f_X11_test_78 x0 (x1) (x2) (x3) (v2) σ) else (some (.inl 0, σ)))))))) = some q := h
  obtain ⟨v1, hv1, h⟩ := ob h
  obtain ⟨v2, hv2, h⟩ := ob h
  refine c_cr (c_runV X (K_X5_selectorAt l D Φ σ v1 (y1) hv2) hv1 ⟨Nat.le_of_ble_eq_true rfl, by decide⟩ ⟨w_860, ww_X5_selectorAt⟩ rfl hy_X5_selectorAt rfl ⟨(Nat.le_of_ble_eq_true rfl), (Nat.le_of_ble_eq_true rfl)⟩ hP hS hl.1 (Nat.le_of_ble_eq_true rfl) dX11_test_52 rfl ⟨(Nat.le_of_ble_eq_true rfl), (Nat.le_of_ble_eq_true rfl)⟩) ?_
  refine c_astore hx hb dX11_test_55 hl (Nat.le_of_ble_eq_true rfl) (lvKa rfl (lvKa rfl (lvKa rfl (lvKi lvK0)))) rfl (fun ls (hl : lv_has ls 6 [(4, cv Φ v2), (0, cv Φ (some x0)), (1, .int x1), (2, .int x2), (3, .int x3)]) => ?_)
  refine c_aload hx hb dX11_test_57 (lv_at hl 0 rfl) ?_
  refine c_ifnull (Φ := Φ) (tgt := 78) hx hb dX11_test_59 rfl (fun hc => ?_) (fun hc => ?_)
  · have h := ip hc h
    exact N_X11_test_78 X hl9 hnt hP hS (lv_sub hl [1, 2, 3, 4, 0] rfl) h
  · have h := ine hc h
    refine c_aload hx hb dX11_test_62 (lv_at hl 0 rfl) ?_
    obtain ⟨v3, hv3, h⟩ := ob h
    obtain ⟨v4, hv4, h⟩ := ob h
    refine c_cr (c_runV X (K_X7_reachesOut l D Φ σ v3  hv4) hv3 ⟨Nat.le_of_ble_eq_true rfl, by decide⟩ ⟨w_864, ww_X7_reachesOut⟩ rfl hy_X7_reachesOut rfl ⟨(Nat.le_of_ble_eq_true rfl), (Nat.le_of_ble_eq_true rfl)⟩ hP hS hl.1 (Nat.le_of_ble_eq_true rfl) dX11_test_64 rfl ⟨(Nat.le_of_ble_eq_true rfl), (Nat.le_of_ble_eq_true rfl)⟩) ?_
    refine lv_if_eq (tgt := 78) hx hb dX11_test_67 rfl (fun hc => ?_) (fun hc => ?_)
    · have h := ip hc h
      exact N_X11_test_78 X hl9 hnt hP hS (lv_sub hl [1, 2, 3, 4, 0] rfl) h
    · have h := ine hc h
      exact c_thr0 hl9 X hnt hP hS hl.1 dX11_test_70 dX11_test_73 dX11_test_74 dX11_test_77 (sj h).symm (Nat.le_of_ble_eq_true rfl) (Nat.le_of_ble_eq_true rfl) (Nat.le_of_ble_eq_true rfl) (Nat.le_of_ble_eq_true rfl) (Nat.le_of_ble_eq_true rfl)
set_option maxRecDepth 20000 in
set_option maxHeartbeats 4000000 in
theorem N_X11_test_37 {p : Program} {l : Launch} {e : Env} {s : State} {m : MethodId} {args : Array Value} {below : List Frame} {meth : Method} {c : Code} {D : cD} {Φ : cG} {x0 : Nat}   {x1 : Int32} {x2 : Int32} {x3 : Int32} {σ : cS} {H : Heap} {locs : List Loc} {ls : Array Slot} {q : (Nat ⊕ Int32) × cS} (X : cX p s m args meth c cX11_test 6 (some .int) RX11 D Φ) (hl9 : l.stackTraces = false) (hnt : ∀ x ∈ c.exceptionTable.toList, False) (hP : cP D Φ σ H) (hS : va_S (cReg Φ) s.heap H locs)  (hl : lv_has ls 6 [(0, cv Φ (some x0)), (1, .int x1), (2, .int x2), (3, .int x3)]) (h : f_X11_test_37  x0 x1 x2 x3 σ = some q) : cWt p l e 7 2 12 110 s m args below meth c D Φ vlI q H locs 1 6 (F0 m 37 ls []) := by
  have hx := X.1
  have hb := X.2.1
  have hown := X.2.2.2.1
  have hts := X.2.2.2.2.1
  have h : ((gR σ (some x0) 11 1).bind (fun v1 => if x1 = (7:Int32) then (f_X11_test_52 x0 (x1) (x2) (x3) (v1) (x3) σ) else (f_X11_test_52 x0 (x1) (x2) (x3) (v1) (x2) σ))) = some q := h
  refine c_aload_n hx hb dX11_test_37 rfl (lv_at hl 0 rfl) ?_
  obtain ⟨v1, hv1, h⟩ := ob h
  refine c_gR X hP hv1 (Nat.le_of_ble_eq_true rfl) (Nat.le_of_ble_eq_true rfl) rfl w_572 dX11_test_38 ?_
  refine lv_iload_n hx hb dX11_test_41 rfl (lv_at hl 1 rfl) ?_
  refine lv_bipush (v := (7:Int32)) hx hb dX11_test_42 (by decide) ?_
  refine lv_icmp_ne (tgt := 51) hx hb dX11_test_44 rfl (fun hc => ?_) (fun hc => ?_)
  · have h := ine hc h
    refine lv_iload_n hx hb dX11_test_51 rfl (lv_at hl 2 rfl) ?_
    exact N_X11_test_52 X hl9 hnt hP hS (lv_sub hl [0, 1, 2, 3] rfl) h
  · have h := ip hc h
    refine lv_iload_n hx hb dX11_test_47 rfl (lv_at hl 3 rfl) ?_
    refine lv_goto (tgt := 52) hx hb dX11_test_48 rfl ?_
    exact N_X11_test_52 X hl9 hnt hP hS (lv_sub hl [0, 1, 2, 3] rfl) h
set_option maxRecDepth 20000 in
set_option maxHeartbeats 4000000 in
theorem N_X11_test_14 {p : Program} {l : Launch} {e : Env} {s : State} {m : MethodId} {args : Array Value} {below : List Frame} {meth : Method} {c : Code} {D : cD} {Φ : cG} {x0 : Nat}   {x1 : Int32} {x2 : Int32} {x3 : Int32} {y0 : Int32} {σ : cS} {H : Heap} {locs : List Loc} {ls : Array Slot} {q : (Nat ⊕ Int32) × cS} (X : cX p s m args meth c cX11_test 6 (some .int) RX11 D Φ) (hl9 : l.stackTraces = false) (hnt : ∀ x ∈ c.exceptionTable.toList, False) (hP : cP D Φ σ H) (hS : va_S (cReg Φ) s.heap H locs)  (hl : lv_has ls 6 [(0, cv Φ (some x0)), (1, .int x1), (2, .int x2), (3, .int x3)]) (h : f_X11_test_14  x0 x1 x2 x3 y0 σ = some q) : cWt p l e 7 2 12 110 s m args below meth c D Φ vlI q H locs 0 0 (F0 m 14 ls [.int y0]) := by
  have hx := X.1
  have hb := X.2.1
  have hown := X.2.2.2.1
  have hts := X.2.2.2.2.1
  have h : ((f_X11_refuseArgument (y0) σ).bind (fun v1 => v1.1.elim (fun k => some (.inl k, v1.2)) (fun w2 => if x1 = (5:Int32) then (f_X11_test_37 x0 (x1) (x2) (x3) v1.2) else (if x1 = (6:Int32) then (f_X11_test_37 x0 (x1) (x2) (x3) v1.2) else (if x1 = (7:Int32) then (f_X11_test_37 x0 (x1) (x2) (x3) v1.2) else (f_X11_test_91 x0 (x1) (x2) (x3) (none) v1.2)))))) = some q := h
  obtain ⟨v1, hv1, h⟩ := ob h
  refine c_ct (c_tS X (K_X11_refuseArgument l hl9 D Φ σ (y0) hv1) ⟨w_638, ww_X11_refuseArgument⟩ hy_X11_refuseArgument rfl ⟨(Nat.le_of_ble_eq_true rfl), (Nat.le_of_ble_eq_true rfl)⟩ hP hS hl.1 (Nat.le_of_ble_eq_true rfl) dX11_test_14 rfl ⟨(Nat.le_of_ble_eq_true rfl), (Nat.le_of_ble_eq_true rfl)⟩) X hnt hS ⟨(Nat.le_of_ble_eq_true rfl), (Nat.le_of_ble_eq_true rfl)⟩ (fun k e => by have h9 := el_l e h; exact (sj h9).symm) (fun w2 H locs e hP hS => ?_)
  have h := el_r e h
  refine W.eq (g2 := F0 m 17 ls []) rfl ?_
  refine c_null (Φ := Φ) hx hb dX11_test_17 ?_
  refine c_astore hx hb dX11_test_18 hl (Nat.le_of_ble_eq_true rfl) (lvKa rfl (lvKa rfl (lvKa rfl (lvKi lvK0)))) rfl (fun ls (hl : lv_has ls 6 [(4, cv Φ none), (0, cv Φ (some x0)), (1, .int x1), (2, .int x2), (3, .int x3)]) => ?_)
  refine lv_iload_n hx hb dX11_test_20 rfl (lv_at hl 2 rfl) ?_
  refine lv_iconst (v := (5:Int32)) hx hb dX11_test_21 (by decide) ?_
  refine lv_icmp_eq (tgt := 37) hx hb dX11_test_22 rfl (fun hc => ?_) (fun hc => ?_)
  · have h := ip hc h
    exact N_X11_test_37 X hl9 hnt hP hS (lv_sub hl [1, 2, 3, 4] rfl) h
  · have h := ine hc h
    refine lv_iload_n hx hb dX11_test_25 rfl (lv_at hl 2 rfl) ?_
    refine lv_bipush (v := (6:Int32)) hx hb dX11_test_26 (by decide) ?_
    refine lv_icmp_eq (tgt := 37) hx hb dX11_test_28 rfl (fun hc => ?_) (fun hc => ?_)
    · have h := ip hc h
      exact N_X11_test_37 X hl9 hnt hP hS (lv_sub hl [1, 2, 3, 4] rfl) h
    · have h := ine hc h
      refine lv_iload_n hx hb dX11_test_31 rfl (lv_at hl 2 rfl) ?_
      refine lv_bipush (v := (7:Int32)) hx hb dX11_test_32 (by decide) ?_
      refine lv_icmp_ne (tgt := 91) hx hb dX11_test_34 rfl (fun hc => ?_) (fun hc => ?_)
      · have h := ine hc h
        exact N_X11_test_91 X hl9 hnt hP hS (lv_sub hl [1, 2, 3, 4, 0] rfl) h
      · have h := ip hc h
        exact N_X11_test_37 X hl9 hnt hP hS (lv_sub hl [1, 2, 3, 4] rfl) h
set_option maxRecDepth 20000 in
set_option maxHeartbeats 4000000 in
theorem K_X11_test (l : Launch) (hl9 : l.stackTraces = false) (D : cD) (Φ : cG) (σ : cS) (x0 : Nat) (x1 : Int32) (x2 : Int32) (x3 : Int32) {q : (Nat ⊕ Int32) × cS} (h : f_X11_test x0 x1 x2 x3 σ = some q) : vx_Met l yX11_test (Cond.code yX11_test cX11_test 6 (some .int) :: BG) (rA 7 2 12 110) (cPc D Φ σ [cv Φ (some x0), .int x1, .int x2, .int x3]) (cQt vlI D Φ q) (cXC D Φ q) 2 12 (cReg Φ) := by
  refine vx_ofW (cc := cX11_test) (maxL := 6) (ret := (some .int)) (by decide) rfl ?_
  intro p e s m args below meth c s₁ B hml hnt hv
  obtain ⟨rfl, hP, hK, hZ⟩ := hv
  have X : cX p s m [cv Φ (some x0), .int x1, .int x2, .int x3].toArray meth c cX11_test 6 (some .int) RX11 D Φ := cX_of B hml hK hZ
  have hx := X.1
  have hb := X.2.1
  have hown := X.2.2.2.1
  have hts := X.2.2.2.2.1
  have hl := lv_entry [cv Φ (some x0), .int x1, .int x2, .int x3] (n := 6) (by simp only [lgs_r, lgs_i, lgs_l, lgs_0, List.length]; exact Nat.le_of_ble_eq_true rfl)
  rw [lg_entry_eq]
  generalize (lg_sl [cv Φ (some x0), .int x1, .int x2, .int x3] ++ List.replicate (6 - (lg_sl [cv Φ (some x0), .int x1, .int x2, .int x3]).length) Slot.unset).toArray = ls at hl ⊢
  simp only [lv_args_r, lv_args_i, lv_args_l, lv_args_0] at hl
  have hl : lv_has ls 6 [(0, cv Φ (some x0)), (1, .int x1), (2, .int x2), (3, .int x3)] := hl
  have hS : va_S (cReg Φ) s.heap s.heap [] := va_S.rf
  show cWt p l e 7 2 12 110 s m [cv Φ (some x0), .int x1, .int x2, .int x3].toArray below meth c D Φ vlI q s.heap [] 0 0 (F0 m 0 ls [])
  have h : ((f_X11_suitsTest (x1) (x2) (x3)).bind (fun v1 => if v1 = (0:Int32) then (f_X11_test_14 x0 (x1) (x2) (x3) ((1:Int32)) σ) else (f_X11_test_14 x0 (x1) (x2) (x3) ((0:Int32)) σ))) = some q := h
  refine lv_iload_n hx hb dX11_test_0 rfl (lv_at hl 1 rfl) ?_
  refine lv_iload_n hx hb dX11_test_1 rfl (lv_at hl 2 rfl) ?_
  refine lv_iload_n hx hb dX11_test_2 rfl (lv_at hl 3 rfl) ?_
  obtain ⟨v1, hv1, h⟩ := ob h
  refine c_cr (c_runS X (K_X11_suitsTest l D Φ σ (x1) (x2) (x3) hv1) ⟨w_857, ww_X11_suitsTest⟩ hy_X11_suitsTest rfl ⟨(Nat.le_of_ble_eq_true rfl), (Nat.le_of_ble_eq_true rfl)⟩ hP hS hl.1 (Nat.le_of_ble_eq_true rfl) dX11_test_3 rfl ⟨(Nat.le_of_ble_eq_true rfl), (Nat.le_of_ble_eq_true rfl)⟩) ?_
  refine lv_if_ne (tgt := 13) hx hb dX11_test_6 rfl (fun hc => ?_) (fun hc => ?_)
  · have h := ine hc h
    refine lv_iconst (v := (0:Int32)) hx hb dX11_test_13 (by decide) ?_
    exact N_X11_test_14 X hl9 hnt hP hS (lv_sub hl [0, 1, 2, 3] rfl) h
  · have h := ip hc h
    refine lv_iconst (v := (1:Int32)) hx hb dX11_test_9 (by decide) ?_
    refine lv_goto (tgt := 14) hx hb dX11_test_10 rfl ?_
    exact N_X11_test_14 X hl9 hnt hP hS (lv_sub hl [0, 1, 2, 3] rfl) h
theorem ww_X11_test : Cond.instanceMethod yX11_test ∈ BG ∧ Cond.selects (yX11_test).cls yX11_test yX11_test ∈ BG ∧ Cond.initialized (yX11_test).cls ∈ BG ∧ Cond.code yX11_test cX11_test 6 (some .int) ∈ BG := ⟨w_854, w_855, w_56, w_856⟩
theorem hy_X11_test : (yX11_test).cls ≠ "java/lang/invoke/MethodHandle" ∧ (yX11_test).cls ≠ "java/lang/invoke/VarHandle" ∧ (parseMethodDescriptor (yX11_test).desc).map (fun d => d.parameters.length) = some 3 := ⟨by decide, by decide, by decide +kernel⟩
def f_X11_join_45  (x0 : Nat) (x1 : Int32) (x2 : Option Nat) (y0 : Int32) (σ : cS) : Option ((Nat ⊕ Int32) × cS) := (f_X11_refuseState (y0) σ).bind (fun v1 => v1.1.elim (fun k => some (.inl k, v1.2)) (fun w2 => (rc v1.2 x2 7).bind (fun v3 => (f_X7_addCompound v3 (x1) v1.2).bind (fun v4 => (gI v4 x2 7 2).bind (fun v5 => some (.inr v5, v4))))))
def f_X11_join_40  (x0 : Nat) (x1 : Int32) (x2 : Option Nat) (σ : cS) : Option ((Nat ⊕ Int32) × cS) := f_X11_join_45 x0 (x1) (x2) ((1:Int32)) σ
def f_X11_join_13  (x0 : Nat) (x1 : Int32) (y0 : Int32) (σ : cS) : Option ((Nat ⊕ Int32) × cS) := (f_X11_refuseArgument (y0) σ).bind (fun v1 => v1.1.elim (fun k => some (.inl k, v1.2)) (fun w2 => (gR v1.2 (some x0) 11 1).bind (fun v3 => (gR v1.2 v3 5 3).bind (fun v4 => (gI v1.2 v4 7 2).bind (fun v5 => if (4:Int32) ≤ v5 then (f_X11_join_40 x0 (x1) (v4) v1.2) else ((gI v1.2 v4 7 4).bind (fun v6 => if v6 = ((-1):Int32) then (f_X11_join_45 x0 (x1) (v4) ((0:Int32)) v1.2) else (f_X11_join_40 x0 (x1) (v4) v1.2))))))))
def f_X11_join (x0 : Nat) (x1 : Int32) (σ : cS) : Option ((Nat ⊕ Int32) × cS) := (f_X11_isBelow (x1) ((4:Int32))).bind (fun v1 => if v1 = (0:Int32) then (f_X11_join_13 x0 (x1) ((1:Int32)) σ) else (f_X11_join_13 x0 (x1) ((0:Int32)) σ))
set_option maxRecDepth 20000 in
set_option maxHeartbeats 4000000 in
theorem N_X11_join_45 {p : Program} {l : Launch} {e : Env} {s : State} {m : MethodId} {args : Array Value} {below : List Frame} {meth : Method} {c : Code} {D : cD} {Φ : cG} {x0 : Nat}   {x1 : Int32} {x2 : Option Nat} {y0 : Int32} {σ : cS} {H : Heap} {locs : List Loc} {ls : Array Slot} {q : (Nat ⊕ Int32) × cS} (X : cX p s m args meth c cX11_join 3 (some .int) RX11 D Φ) (hl9 : l.stackTraces = false) (hnt : ∀ x ∈ c.exceptionTable.toList, False) (hP : cP D Φ σ H) (hS : va_S (cReg Φ) s.heap H locs)  (hl : lv_has ls 3 [(1, .int x1), (2, cv Φ x2)]) (h : f_X11_join_45  x0 x1 x2 y0 σ = some q) : cWt p l e 7 6 34 110 s m args below meth c D Φ vlI q H locs 1 6 (F0 m 45 ls [.int y0]) := by
  have hx := X.1
  have hb := X.2.1
  have hown := X.2.2.2.1
  have hts := X.2.2.2.2.1
  have h : ((f_X11_refuseState (y0) σ).bind (fun v1 => v1.1.elim (fun k => some (.inl k, v1.2)) (fun w2 => (rc v1.2 x2 7).bind (fun v3 => (f_X7_addCompound v3 (x1) v1.2).bind (fun v4 => (gI v4 x2 7 2).bind (fun v5 => some (.inr v5, v4))))))) = some q := h
  obtain ⟨v1, hv1, h⟩ := ob h
  refine c_ct (c_tS X (K_X11_refuseState l hl9 D Φ σ (y0) hv1) ⟨w_704, ww_X11_refuseState⟩ hy_X11_refuseState rfl ⟨(Nat.le_of_ble_eq_true rfl), (Nat.le_of_ble_eq_true rfl)⟩ hP hS hl.1 (Nat.le_of_ble_eq_true rfl) dX11_join_45 rfl ⟨(Nat.le_of_ble_eq_true rfl), (Nat.le_of_ble_eq_true rfl)⟩) X hnt hS ⟨(Nat.le_of_ble_eq_true rfl), (Nat.le_of_ble_eq_true rfl)⟩ (fun k e => by have h9 := el_l e h; exact (sj h9).symm) (fun w2 H locs e hP hS => ?_)
  have h := el_r e h
  refine W.eq (g2 := F0 m 48 ls []) rfl ?_
  refine c_aload_n hx hb dX11_join_48 rfl (lv_at hl 1 rfl) ?_
  refine lv_iload_n hx hb dX11_join_49 rfl (lv_at hl 0 rfl) ?_
  obtain ⟨v3, hv3, h⟩ := ob h
  obtain ⟨v4, hv4, h⟩ := ob h
  refine c_cw (c_runV X (K_X7_addCompound l D Φ v1.2 v3 (x1) hv4) hv3 ⟨Nat.le_of_ble_eq_true rfl, by decide⟩ ⟨w_886, ww_X7_addCompound⟩ rfl hy_X7_addCompound rfl ⟨(Nat.le_of_ble_eq_true rfl), (Nat.le_of_ble_eq_true rfl)⟩ hP hS hl.1 (Nat.le_of_ble_eq_true rfl) dX11_join_50 rfl ⟨(Nat.le_of_ble_eq_true rfl), (Nat.le_of_ble_eq_true rfl)⟩) hS (fun H locs hP hS => ?_)
  refine W.eq (g2 := F0 m 53 ls []) rfl ?_
  refine c_aload_n hx hb dX11_join_53 rfl (lv_at hl 1 rfl) ?_
  obtain ⟨v5, hv5, h⟩ := ob h
  refine c_gI X hP hv5 (Nat.le_of_ble_eq_true rfl) (Nat.le_of_ble_eq_true rfl) rfl w_414 dX11_join_54 ?_
  exact c_ti X hP hS (sj h).symm (Nat.le_of_ble_eq_true rfl) (Nat.le_of_ble_eq_true rfl) dX11_join_57
set_option maxRecDepth 20000 in
set_option maxHeartbeats 4000000 in
theorem N_X11_join_40 {p : Program} {l : Launch} {e : Env} {s : State} {m : MethodId} {args : Array Value} {below : List Frame} {meth : Method} {c : Code} {D : cD} {Φ : cG} {x0 : Nat}   {x1 : Int32} {x2 : Option Nat} {σ : cS} {H : Heap} {locs : List Loc} {ls : Array Slot} {q : (Nat ⊕ Int32) × cS} (X : cX p s m args meth c cX11_join 3 (some .int) RX11 D Φ) (hl9 : l.stackTraces = false) (hnt : ∀ x ∈ c.exceptionTable.toList, False) (hP : cP D Φ σ H) (hS : va_S (cReg Φ) s.heap H locs)  (hl : lv_has ls 3 [(1, .int x1), (2, cv Φ x2)]) (h : f_X11_join_40  x0 x1 x2 σ = some q) : cWt p l e 7 6 34 110 s m args below meth c D Φ vlI q H locs 1 6 (F0 m 40 ls []) := by
  have hx := X.1
  have hb := X.2.1
  have hown := X.2.2.2.1
  have hts := X.2.2.2.2.1
  have h : (f_X11_join_45 x0 (x1) (x2) ((1:Int32)) σ) = some q := h
  refine lv_iconst (v := (1:Int32)) hx hb dX11_join_40 (by decide) ?_
  refine lv_goto (tgt := 45) hx hb dX11_join_41 rfl ?_
  exact N_X11_join_45 X hl9 hnt hP hS (lv_sub hl [0, 1] rfl) h
set_option maxRecDepth 20000 in
set_option maxHeartbeats 4000000 in
theorem N_X11_join_13 {p : Program} {l : Launch} {e : Env} {s : State} {m : MethodId} {args : Array Value} {below : List Frame} {meth : Method} {c : Code} {D : cD} {Φ : cG} {x0 : Nat}   {x1 : Int32} {y0 : Int32} {σ : cS} {H : Heap} {locs : List Loc} {ls : Array Slot} {q : (Nat ⊕ Int32) × cS} (X : cX p s m args meth c cX11_join 3 (some .int) RX11 D Φ) (hl9 : l.stackTraces = false) (hnt : ∀ x ∈ c.exceptionTable.toList, False) (hP : cP D Φ σ H) (hS : va_S (cReg Φ) s.heap H locs)  (hl : lv_has ls 3 [(0, cv Φ (some x0)), (1, .int x1)]) (h : f_X11_join_13  x0 x1 y0 σ = some q) : cWt p l e 7 6 34 110 s m args below meth c D Φ vlI q H locs 0 0 (F0 m 13 ls [.int y0]) := by
  have hx := X.1
  have hb := X.2.1
  have hown := X.2.2.2.1
  have hts := X.2.2.2.2.1
  have h : ((f_X11_refuseArgument (y0) σ).bind (fun v1 => v1.1.elim (fun k => some (.inl k, v1.2)) (fun w2 => (gR v1.2 (some x0) 11 1).bind (fun v3 => (gR v1.2 v3 5 3).bind (fun v4 => (gI v1.2 v4 7 2).bind (fun v5 => if (4:Int32) ≤ v5 then (f_X11_join_40 x0 (x1) (v4) v1.2) else ((gI v1.2 v4 7 4).bind (fun v6 => if v6 = ((-1):Int32) then (f_X11_join_45 x0 (x1) (v4) ((0:Int32)) v1.2) else (f_X11_join_40 x0 (x1) (v4) v1.2))))))))) = some q := h
  obtain ⟨v1, hv1, h⟩ := ob h
  refine c_ct (c_tS X (K_X11_refuseArgument l hl9 D Φ σ (y0) hv1) ⟨w_638, ww_X11_refuseArgument⟩ hy_X11_refuseArgument rfl ⟨(Nat.le_of_ble_eq_true rfl), (Nat.le_of_ble_eq_true rfl)⟩ hP hS hl.1 (Nat.le_of_ble_eq_true rfl) dX11_join_13 rfl ⟨(Nat.le_of_ble_eq_true rfl), (Nat.le_of_ble_eq_true rfl)⟩) X hnt hS ⟨(Nat.le_of_ble_eq_true rfl), (Nat.le_of_ble_eq_true rfl)⟩ (fun k e => by have h9 := el_l e h; exact (sj h9).symm) (fun w2 H locs e hP hS => ?_)
  have h := el_r e h
  refine W.eq (g2 := F0 m 16 ls []) rfl ?_
  refine c_aload_n hx hb dX11_join_16 rfl (lv_at hl 0 rfl) ?_
  obtain ⟨v3, hv3, h⟩ := ob h
  refine c_gR X hP hv3 (Nat.le_of_ble_eq_true rfl) (Nat.le_of_ble_eq_true rfl) rfl w_572 dX11_join_17 ?_
  obtain ⟨v4, hv4, h⟩ := ob h
  refine c_gR X hP hv4 (Nat.le_of_ble_eq_true rfl) (Nat.le_of_ble_eq_true rfl) rfl w_469 dX11_join_20 ?_
  refine c_astore_n hx hb dX11_join_23 rfl hl (Nat.le_of_ble_eq_true rfl) (lvKa rfl (lvKi lvK0)) rfl (fun ls (hl : lv_has ls 3 [(2, cv Φ v4), (0, cv Φ (some x0)), (1, .int x1)]) => ?_)
  refine c_aload_n hx hb dX11_join_24 rfl (lv_at hl 0 rfl) ?_
  obtain ⟨v5, hv5, h⟩ := ob h
  refine c_gI X hP hv5 (Nat.le_of_ble_eq_true rfl) (Nat.le_of_ble_eq_true rfl) rfl w_414 dX11_join_25 ?_
  refine lv_iconst (v := (4:Int32)) hx hb dX11_join_28 (by decide) ?_
  refine lv_icmp_ge (tgt := 40) hx hb dX11_join_29 rfl (fun hc => ?_) (fun hc => ?_)
  · have h := ip hc h
    exact N_X11_join_40 X hl9 hnt hP hS (lv_sub hl [2, 0] rfl) h
  · have h := ine hc h
    refine c_aload_n hx hb dX11_join_32 rfl (lv_at hl 0 rfl) ?_
    obtain ⟨v6, hv6, h⟩ := ob h
    refine c_gI X hP hv6 (Nat.le_of_ble_eq_true rfl) (Nat.le_of_ble_eq_true rfl) rfl w_419 dX11_join_33 ?_
    refine lv_iconst (v := ((-1):Int32)) hx hb dX11_join_36 (by decide) ?_
    refine lv_icmp_eq (tgt := 44) hx hb dX11_join_37 rfl (fun hc => ?_) (fun hc => ?_)
    · have h := ip hc h
      refine lv_iconst (v := (0:Int32)) hx hb dX11_join_44 (by decide) ?_
      exact N_X11_join_45 X hl9 hnt hP hS (lv_sub hl [2, 0] rfl) h
    · have h := ine hc h
      exact N_X11_join_40 X hl9 hnt hP hS (lv_sub hl [2, 0] rfl) h
set_option maxRecDepth 20000 in
set_option maxHeartbeats 4000000 in
theorem K_X11_join (l : Launch) (hl9 : l.stackTraces = false) (D : cD) (Φ : cG) (σ : cS) (x0 : Nat) (x1 : Int32) {q : (Nat ⊕ Int32) × cS} (h : f_X11_join x0 x1 σ = some q) : vx_Met l yX11_join (Cond.code yX11_join cX11_join 3 (some .int) :: BG) (rA 7 6 34 110) (cPc D Φ σ [cv Φ (some x0), .int x1]) (cQt vlI D Φ q) (cXC D Φ q) 6 34 (cReg Φ) := by
  refine vx_ofW (cc := cX11_join) (maxL := 3) (ret := (some .int)) (by decide) rfl ?_
  intro p e s m args below meth c s₁ B hml hnt hv
  obtain ⟨rfl, hP, hK, hZ⟩ := hv
  have X : cX p s m [cv Φ (some x0), .int x1].toArray meth c cX11_join 3 (some .int) RX11 D Φ := cX_of B hml hK hZ
  have hx := X.1
  have hb := X.2.1
  have hown := X.2.2.2.1
  have hts := X.2.2.2.2.1
  have hl := lv_entry [cv Φ (some x0), .int x1] (n := 3) (by simp only [lgs_r, lgs_i, lgs_l, lgs_0, List.length]; exact Nat.le_of_ble_eq_true rfl)
  rw [lg_entry_eq]
  generalize (lg_sl [cv Φ (some x0), .int x1] ++ List.replicate (3 - (lg_sl [cv Φ (some x0), .int x1]).length) Slot.unset).toArray = ls at hl ⊢
  simp only [lv_args_r, lv_args_i, lv_args_l, lv_args_0] at hl
  have hl : lv_has ls 3 [(0, cv Φ (some x0)), (1, .int x1)] := hl
  have hS : va_S (cReg Φ) s.heap s.heap [] := va_S.rf
  show cWt p l e 7 6 34 110 s m [cv Φ (some x0), .int x1].toArray below meth c D Φ vlI q s.heap [] 0 0 (F0 m 0 ls [])
  have h : ((f_X11_isBelow (x1) ((4:Int32))).bind (fun v1 => if v1 = (0:Int32) then (f_X11_join_13 x0 (x1) ((1:Int32)) σ) else (f_X11_join_13 x0 (x1) ((0:Int32)) σ))) = some q := h
  refine lv_iload_n hx hb dX11_join_0 rfl (lv_at hl 1 rfl) ?_
  refine lv_iconst (v := (4:Int32)) hx hb dX11_join_1 (by decide) ?_
  obtain ⟨v1, hv1, h⟩ := ob h
  refine c_cr (c_runS X (K_X11_isBelow l D Φ σ (x1) ((4:Int32)) hv1) ⟨w_635, ww_X11_isBelow⟩ hy_X11_isBelow rfl ⟨(Nat.le_of_ble_eq_true rfl), (Nat.le_of_ble_eq_true rfl)⟩ hP hS hl.1 (Nat.le_of_ble_eq_true rfl) dX11_join_2 rfl ⟨(Nat.le_of_ble_eq_true rfl), (Nat.le_of_ble_eq_true rfl)⟩) ?_
  refine lv_if_ne (tgt := 12) hx hb dX11_join_5 rfl (fun hc => ?_) (fun hc => ?_)
  · have h := ine hc h
    refine lv_iconst (v := (0:Int32)) hx hb dX11_join_12 (by decide) ?_
    exact N_X11_join_13 X hl9 hnt hP hS (lv_sub hl [0, 1] rfl) h
  · have h := ip hc h
    refine lv_iconst (v := (1:Int32)) hx hb dX11_join_8 (by decide) ?_
    refine lv_goto (tgt := 13) hx hb dX11_join_9 rfl ?_
    exact N_X11_join_13 X hl9 hnt hP hS (lv_sub hl [0, 1] rfl) h
theorem ww_X11_join : Cond.instanceMethod yX11_join ∈ BG ∧ Cond.selects (yX11_join).cls yX11_join yX11_join ∈ BG ∧ Cond.initialized (yX11_join).cls ∈ BG ∧ Cond.code yX11_join cX11_join 3 (some .int) ∈ BG := ⟨w_883, w_884, w_56, w_885⟩
theorem hy_X11_join : (yX11_join).cls ≠ "java/lang/invoke/MethodHandle" ∧ (yX11_join).cls ≠ "java/lang/invoke/VarHandle" ∧ (parseMethodDescriptor (yX11_join).desc).map (fun d => d.parameters.length) = some 1 := ⟨by decide, by decide, by decide +kernel⟩
def f_X11_select_17  (x0 : Nat) (y0 : Int32) (σ : cS) : Option ((Nat ⊕ Int32) × cS) := (f_X11_refuseState (y0) σ).bind (fun v1 => v1.1.elim (fun k => some (.inl k, v1.2)) (fun w2 => (gR v1.2 (some x0) 11 1).bind (fun v3 => (rc v1.2 v3 5).bind (fun v4 => (f_X5_keepDraft v4  v1.2).bind (fun v5 => some (.inr v5.1, v5.2))))))
def f_X11_select (x0 : Nat)  (σ : cS) : Option ((Nat ⊕ Int32) × cS) := (gR σ (some x0) 11 1).bind (fun v1 => (gI σ v1 5 2).bind (fun v2 => if v2 < (30:Int32) then (f_X11_select_17 x0 ((0:Int32)) σ) else (f_X11_select_17 x0 ((1:Int32)) σ)))
set_option maxRecDepth 20000 in
set_option maxHeartbeats 4000000 in
theorem N_X11_select_17 {p : Program} {l : Launch} {e : Env} {s : State} {m : MethodId} {args : Array Value} {below : List Frame} {meth : Method} {c : Code} {D : cD} {Φ : cG} {x0 : Nat}   {y0 : Int32} {σ : cS} {H : Heap} {locs : List Loc} {ls : Array Slot} {q : (Nat ⊕ Int32) × cS} (X : cX p s m args meth c cX11_select 1 (some .int) RX11 D Φ) (hl9 : l.stackTraces = false) (hnt : ∀ x ∈ c.exceptionTable.toList, False) (hP : cP D Φ σ H) (hS : va_S (cReg Φ) s.heap H locs)  (hl : lv_has ls 1 [(0, cv Φ (some x0))]) (h : f_X11_select_17  x0 y0 σ = some q) : cWt p l e 7 6 41 110 s m args below meth c D Φ vlI q H locs 0 0 (F0 m 17 ls [.int y0]) := by
  have hx := X.1
  have hb := X.2.1
  have hown := X.2.2.2.1
  have hts := X.2.2.2.2.1
  have h : ((f_X11_refuseState (y0) σ).bind (fun v1 => v1.1.elim (fun k => some (.inl k, v1.2)) (fun w2 => (gR v1.2 (some x0) 11 1).bind (fun v3 => (rc v1.2 v3 5).bind (fun v4 => (f_X5_keepDraft v4  v1.2).bind (fun v5 => some (.inr v5.1, v5.2))))))) = some q := h
  obtain ⟨v1, hv1, h⟩ := ob h
  refine c_ct (c_tS X (K_X11_refuseState l hl9 D Φ σ (y0) hv1) ⟨w_704, ww_X11_refuseState⟩ hy_X11_refuseState rfl ⟨(Nat.le_of_ble_eq_true rfl), (Nat.le_of_ble_eq_true rfl)⟩ hP hS hl.1 (Nat.le_of_ble_eq_true rfl) dX11_select_17 rfl ⟨(Nat.le_of_ble_eq_true rfl), (Nat.le_of_ble_eq_true rfl)⟩) X hnt hS ⟨(Nat.le_of_ble_eq_true rfl), (Nat.le_of_ble_eq_true rfl)⟩ (fun k e => by have h9 := el_l e h; exact (sj h9).symm) (fun w2 H locs e hP hS => ?_)
  have h := el_r e h
  refine W.eq (g2 := F0 m 20 ls []) rfl ?_
  refine c_aload_n hx hb dX11_select_20 rfl (lv_at hl 0 rfl) ?_
  obtain ⟨v3, hv3, h⟩ := ob h
  refine c_gR X hP hv3 (Nat.le_of_ble_eq_true rfl) (Nat.le_of_ble_eq_true rfl) rfl w_572 dX11_select_21 ?_
  obtain ⟨v4, hv4, h⟩ := ob h
  obtain ⟨v5, hv5, h⟩ := ob h
  refine c_cw (c_runV X (K_X5_keepDraft l D Φ v1.2 v4  hv5) hv4 ⟨Nat.le_of_ble_eq_true rfl, by decide⟩ ⟨w_1233, ww_X5_keepDraft⟩ rfl hy_X5_keepDraft rfl ⟨(Nat.le_of_ble_eq_true rfl), (Nat.le_of_ble_eq_true rfl)⟩ hP hS hl.1 (Nat.le_of_ble_eq_true rfl) dX11_select_24 rfl ⟨(Nat.le_of_ble_eq_true rfl), (Nat.le_of_ble_eq_true rfl)⟩) hS (fun H locs hP hS => ?_)
  refine W.eq (g2 := F0 m 27 ls [.int v5.1]) rfl ?_
  exact c_ti X hP hS (sj h).symm (Nat.le_of_ble_eq_true rfl) (Nat.le_of_ble_eq_true rfl) dX11_select_27
set_option maxRecDepth 20000 in
set_option maxHeartbeats 4000000 in
theorem K_X11_select (l : Launch) (hl9 : l.stackTraces = false) (D : cD) (Φ : cG) (σ : cS) (x0 : Nat)  {q : (Nat ⊕ Int32) × cS} (h : f_X11_select x0  σ = some q) : vx_Met l yX11_select (Cond.code yX11_select cX11_select 1 (some .int) :: BG) (rA 7 6 41 110) (cPc D Φ σ [cv Φ (some x0)]) (cQt vlI D Φ q) (cXC D Φ q) 6 41 (cReg Φ) := by
  refine vx_ofW (cc := cX11_select) (maxL := 1) (ret := (some .int)) (by decide) rfl ?_
  intro p e s m args below meth c s₁ B hml hnt hv
  obtain ⟨rfl, hP, hK, hZ⟩ := hv
  have X : cX p s m [cv Φ (some x0)].toArray meth c cX11_select 1 (some .int) RX11 D Φ := cX_of B hml hK hZ
  have hx := X.1
  have hb := X.2.1
  have hown := X.2.2.2.1
  have hts := X.2.2.2.2.1
  have hl := lv_entry [cv Φ (some x0)] (n := 1) (by simp only [lgs_r, lgs_i, lgs_l, lgs_0, List.length]; exact Nat.le_of_ble_eq_true rfl)
  rw [lg_entry_eq]
  generalize (lg_sl [cv Φ (some x0)] ++ List.replicate (1 - (lg_sl [cv Φ (some x0)]).length) Slot.unset).toArray = ls at hl ⊢
  simp only [lv_args_r, lv_args_i, lv_args_l, lv_args_0] at hl
  have hl : lv_has ls 1 [(0, cv Φ (some x0))] := hl
  have hS : va_S (cReg Φ) s.heap s.heap [] := va_S.rf
  show cWt p l e 7 6 41 110 s m [cv Φ (some x0)].toArray below meth c D Φ vlI q s.heap [] 0 0 (F0 m 0 ls [])
  have h : ((gR σ (some x0) 11 1).bind (fun v1 => (gI σ v1 5 2).bind (fun v2 => if v2 < (30:Int32) then (f_X11_select_17 x0 ((0:Int32)) σ) else (f_X11_select_17 x0 ((1:Int32)) σ)))) = some q := h
  refine c_aload_n hx hb dX11_select_0 rfl (lv_at hl 0 rfl) ?_
  obtain ⟨v1, hv1, h⟩ := ob h
  refine c_gR X hP hv1 (Nat.le_of_ble_eq_true rfl) (Nat.le_of_ble_eq_true rfl) rfl w_572 dX11_select_1 ?_
  obtain ⟨v2, hv2, h⟩ := ob h
  refine c_gI X hP hv2 (Nat.le_of_ble_eq_true rfl) (Nat.le_of_ble_eq_true rfl) rfl w_467 dX11_select_4 ?_
  refine lv_bipush (v := (30:Int32)) hx hb dX11_select_7 (by decide) ?_
  refine lv_icmp_lt (tgt := 16) hx hb dX11_select_9 rfl (fun hc => ?_) (fun hc => ?_)
  · have h := ip hc h
    refine lv_iconst (v := (0:Int32)) hx hb dX11_select_16 (by decide) ?_
    exact N_X11_select_17 X hl9 hnt hP hS (lv_sub hl [0] rfl) h
  · have h := ine hc h
    refine lv_iconst (v := (1:Int32)) hx hb dX11_select_12 (by decide) ?_
    refine lv_goto (tgt := 17) hx hb dX11_select_13 rfl ?_
    exact N_X11_select_17 X hl9 hnt hP hS (lv_sub hl [0] rfl) h
theorem ww_X11_select : Cond.instanceMethod yX11_select ∈ BG ∧ Cond.selects (yX11_select).cls yX11_select yX11_select ∈ BG ∧ Cond.initialized (yX11_select).cls ∈ BG ∧ Cond.code yX11_select cX11_select 1 (some .int) ∈ BG := ⟨w_1230, w_1231, w_56, w_1232⟩
theorem hy_X11_select : (yX11_select).cls ≠ "java/lang/invoke/MethodHandle" ∧ (yX11_select).cls ≠ "java/lang/invoke/VarHandle" ∧ (parseMethodDescriptor (yX11_select).desc).map (fun d => d.parameters.length) = some 0 := ⟨by decide, by decide, by decide +kernel⟩
def f_X11_selectorAt (x0 : Nat) (x1 : Int32) (σ : cS) : Option ((Nat ⊕ Option Nat) × cS) := (gR σ (some x0) 11 1).bind (fun v1 => (rc σ v1 5).bind (fun v2 => (f_X5_selectorAt v2 (x1) σ).bind (fun v3 => if v3 = none then (some (.inl 2, σ)) else (some (.inr v3, σ)))))
set_option maxRecDepth 20000 in
set_option maxHeartbeats 4000000 in
theorem K_X11_selectorAt (l : Launch) (hl9 : l.stackTraces = false) (D : cD) (Φ : cG) (σ : cS) (x0 : Nat) (x1 : Int32) {q : (Nat ⊕ Option Nat) × cS} (h : f_X11_selectorAt x0 x1 σ = some q) : vx_Met l yX11_selectorAt (Cond.code yX11_selectorAt cX11_selectorAt 3 (some (.object "Cascadery$Selector")) :: BG) (rA 6 1 6 90) (cPc D Φ σ [cv Φ (some x0), .int x1]) (cQt (vlR Φ) D Φ q) (cXC D Φ q) 1 6 (cReg Φ) := by
  refine vx_ofW (cc := cX11_selectorAt) (maxL := 3) (ret := (some (.object "Cascadery$Selector"))) (by decide) rfl ?_
  intro p e s m args below meth c s₁ B hml hnt hv
  obtain ⟨rfl, hP, hK, hZ⟩ := hv
  have X : cX p s m [cv Φ (some x0), .int x1].toArray meth c cX11_selectorAt 3 (some (.object "Cascadery$Selector")) RX11 D Φ := cX_of B hml hK hZ
  have hx := X.1
  have hb := X.2.1
  have hown := X.2.2.2.1
  have hts := X.2.2.2.2.1
  have hl := lv_entry [cv Φ (some x0), .int x1] (n := 3) (by simp only [lgs_r, lgs_i, lgs_l, lgs_0, List.length]; exact Nat.le_of_ble_eq_true rfl)
  rw [lg_entry_eq]
  generalize (lg_sl [cv Φ (some x0), .int x1] ++ List.replicate (3 - (lg_sl [cv Φ (some x0), .int x1]).length) Slot.unset).toArray = ls at hl ⊢
  simp only [lv_args_r, lv_args_i, lv_args_l, lv_args_0] at hl
  have hl : lv_has ls 3 [(0, cv Φ (some x0)), (1, .int x1)] := hl
  have hS : va_S (cReg Φ) s.heap s.heap [] := va_S.rf
  show cWt p l e 6 1 6 90 s m [cv Φ (some x0), .int x1].toArray below meth c D Φ (vlR Φ) q s.heap [] 0 0 (F0 m 0 ls [])
  have h : ((gR σ (some x0) 11 1).bind (fun v1 => (rc σ v1 5).bind (fun v2 => (f_X5_selectorAt v2 (x1) σ).bind (fun v3 => if v3 = none then (some (.inl 2, σ)) else (some (.inr v3, σ)))))) = some q := h
  refine c_aload_n hx hb dX11_selectorAt_0 rfl (lv_at hl 0 rfl) ?_
  obtain ⟨v1, hv1, h⟩ := ob h
  refine c_gR X hP hv1 (Nat.le_of_ble_eq_true rfl) (Nat.le_of_ble_eq_true rfl) rfl w_572 dX11_selectorAt_1 ?_
  refine lv_iload_n hx hb dX11_selectorAt_4 rfl (lv_at hl 1 rfl) ?_
  obtain ⟨v2, hv2, h⟩ := ob h
  obtain ⟨v3, hv3, h⟩ := ob h
  refine c_cr (c_runV X (K_X5_selectorAt l D Φ σ v2 (x1) hv3) hv2 ⟨Nat.le_of_ble_eq_true rfl, by decide⟩ ⟨w_860, ww_X5_selectorAt⟩ rfl hy_X5_selectorAt rfl ⟨(Nat.le_of_ble_eq_true rfl), (Nat.le_of_ble_eq_true rfl)⟩ hP hS hl.1 (Nat.le_of_ble_eq_true rfl) dX11_selectorAt_5 rfl ⟨(Nat.le_of_ble_eq_true rfl), (Nat.le_of_ble_eq_true rfl)⟩) ?_
  refine c_astore_n hx hb dX11_selectorAt_8 rfl hl (Nat.le_of_ble_eq_true rfl) (lvKa rfl (lvKi lvK0)) rfl (fun ls (hl : lv_has ls 3 [(2, cv Φ v3), (0, cv Φ (some x0)), (1, .int x1)]) => ?_)
  refine c_aload_n hx hb dX11_selectorAt_9 rfl (lv_at hl 0 rfl) ?_
  refine c_ifnonnull (Φ := Φ) (tgt := 21) hx hb dX11_selectorAt_10 rfl (fun hc => ?_) (fun hc => ?_)
  · have h := ine hc h
    refine c_aload_n hx hb dX11_selectorAt_21 rfl (lv_at hl 0 rfl) ?_
    exact c_ta X hP hS (sj h).symm (Nat.le_of_ble_eq_true rfl) (Nat.le_of_ble_eq_true rfl) dX11_selectorAt_22
  · have h := ip hc h
    exact c_thr2 hl9 X hnt hP hS hl.1 dX11_selectorAt_13 dX11_selectorAt_16 dX11_selectorAt_17 dX11_selectorAt_20 (sj h).symm (Nat.le_of_ble_eq_true rfl) (Nat.le_of_ble_eq_true rfl) (Nat.le_of_ble_eq_true rfl) (Nat.le_of_ble_eq_true rfl) (Nat.le_of_ble_eq_true rfl)
theorem ww_X11_selectorAt : Cond.instanceMethod yX11_selectorAt ∈ BG ∧ Cond.selects (yX11_selectorAt).cls yX11_selectorAt yX11_selectorAt ∈ BG ∧ Cond.initialized (yX11_selectorAt).cls ∈ BG ∧ Cond.code yX11_selectorAt cX11_selectorAt 3 (some (.object "Cascadery$Selector")) ∈ BG := ⟨w_1134, w_49, w_56, w_1135⟩
theorem hy_X11_selectorAt : (yX11_selectorAt).cls ≠ "java/lang/invoke/MethodHandle" ∧ (yX11_selectorAt).cls ≠ "java/lang/invoke/VarHandle" ∧ (parseMethodDescriptor (yX11_selectorAt).desc).map (fun d => d.parameters.length) = some 1 := ⟨by decide, by decide, by decide +kernel⟩
def f_X11_weight (x0 : Nat) (x1 : Int32) (σ : cS) : Option ((Nat ⊕ Int32) × cS) := (rc σ (some x0) 11).bind (fun v1 => (f_X11_selectorAt v1 (x1) σ).bind (fun v2 => v2.1.elim (fun k => some (.inl k, v2.2)) (fun w3 => (gI v2.2 w3 7 6).bind (fun v4 => some (.inr v4, v2.2)))))
set_option maxRecDepth 20000 in
set_option maxHeartbeats 4000000 in
theorem K_X11_weight (l : Launch) (hl9 : l.stackTraces = false) (D : cD) (Φ : cG) (σ : cS) (x0 : Nat) (x1 : Int32) {q : (Nat ⊕ Int32) × cS} (h : f_X11_weight x0 x1 σ = some q) : vx_Met l yX11_weight (Cond.code yX11_weight cX11_weight 2 (some .int) :: BG) (rA 7 1 6 112) (cPc D Φ σ [cv Φ (some x0), .int x1]) (cQt vlI D Φ q) (cXC D Φ q) 1 6 (cReg Φ) := by
  refine vx_ofW (cc := cX11_weight) (maxL := 2) (ret := (some .int)) (by decide) rfl ?_
  intro p e s m args below meth c s₁ B hml hnt hv
  obtain ⟨rfl, hP, hK, hZ⟩ := hv
  have X : cX p s m [cv Φ (some x0), .int x1].toArray meth c cX11_weight 2 (some .int) RX11 D Φ := cX_of B hml hK hZ
  have hx := X.1
  have hb := X.2.1
  have hown := X.2.2.2.1
  have hts := X.2.2.2.2.1
  have hl := lv_entry [cv Φ (some x0), .int x1] (n := 2) (by simp only [lgs_r, lgs_i, lgs_l, lgs_0, List.length]; exact Nat.le_of_ble_eq_true rfl)
  rw [lg_entry_eq]
  generalize (lg_sl [cv Φ (some x0), .int x1] ++ List.replicate (2 - (lg_sl [cv Φ (some x0), .int x1]).length) Slot.unset).toArray = ls at hl ⊢
  simp only [lv_args_r, lv_args_i, lv_args_l, lv_args_0] at hl
  have hl : lv_has ls 2 [(0, cv Φ (some x0)), (1, .int x1)] := hl
  have hS : va_S (cReg Φ) s.heap s.heap [] := va_S.rf
  show cWt p l e 7 1 6 112 s m [cv Φ (some x0), .int x1].toArray below meth c D Φ vlI q s.heap [] 0 0 (F0 m 0 ls [])
  have h : ((rc σ (some x0) 11).bind (fun v1 => (f_X11_selectorAt v1 (x1) σ).bind (fun v2 => v2.1.elim (fun k => some (.inl k, v2.2)) (fun w3 => (gI v2.2 w3 7 6).bind (fun v4 => some (.inr v4, v2.2)))))) = some q := h
  refine c_aload_n hx hb dX11_weight_0 rfl (lv_at hl 0 rfl) ?_
  refine lv_iload_n hx hb dX11_weight_1 rfl (lv_at hl 1 rfl) ?_
  obtain ⟨v1, hv1, h⟩ := ob h
  obtain ⟨v2, hv2, h⟩ := ob h
  refine c_ct (c_tV X (K_X11_selectorAt l hl9 D Φ σ v1 (x1) hv2) hv1 ⟨Nat.le_of_ble_eq_true rfl, by decide⟩ ⟨w_1132, ww_X11_selectorAt⟩ rfl hy_X11_selectorAt rfl ⟨(Nat.le_of_ble_eq_true rfl), (Nat.le_of_ble_eq_true rfl)⟩ hP hS hl.1 (Nat.le_of_ble_eq_true rfl) dX11_weight_2 rfl ⟨(Nat.le_of_ble_eq_true rfl), (Nat.le_of_ble_eq_true rfl)⟩) X hnt hS ⟨(Nat.le_of_ble_eq_true rfl), (Nat.le_of_ble_eq_true rfl)⟩ (fun k e => by have h9 := el_l e h; exact (sj h9).symm) (fun w3 H locs e hP hS => ?_)
  have h := el_r e h
  refine W.eq (g2 := F0 m 5 ls [cv Φ w3]) rfl ?_
  obtain ⟨v4, hv4, h⟩ := ob h
  refine c_gI X hP hv4 (Nat.le_of_ble_eq_true rfl) (Nat.le_of_ble_eq_true rfl) rfl w_423 dX11_weight_5 ?_
  exact c_ti X hP hS (sj h).symm (Nat.le_of_ble_eq_true rfl) (Nat.le_of_ble_eq_true rfl) dX11_weight_8
theorem ww_X11_weight : Cond.instanceMethod yX11_weight ∈ BG ∧ Cond.selects (yX11_weight).cls yX11_weight yX11_weight ∈ BG ∧ Cond.initialized (yX11_weight).cls ∈ BG ∧ Cond.code yX11_weight cX11_weight 2 (some .int) ∈ BG := ⟨w_1142, w_1143, w_56, w_1144⟩
theorem hy_X11_weight : (yX11_weight).cls ≠ "java/lang/invoke/MethodHandle" ∧ (yX11_weight).cls ≠ "java/lang/invoke/VarHandle" ∧ (parseMethodDescriptor (yX11_weight).desc).map (fun d => d.parameters.length) = some 1 := ⟨by decide, by decide, by decide +kernel⟩
def f_X11_allThat_22  (x0 : Nat) (x2 : Int32) (x3 : Option Nat) (y0 : Int32) (σ : cS) : Option ((Nat ⊕ Int32) × cS) := (f_X11_refuseBounds (y0) σ).bind (fun v1 => v1.1.elim (fun k => some (.inl k, v1.2)) (fun w2 => (gR v1.2 (some x0) 11 1).bind (fun v3 => (gR v1.2 (some x0) 11 0).bind (fun v4 => (rc v1.2 v4 10).bind (fun v5 => (f_X10_at v5 (x2) v1.2).bind (fun v6 => (rc v1.2 v3 5).bind (fun v7 => (f_X5_setOf v7 (x3) (v6) v1.2).bind (fun v8 => some (.inr v8.1, v8.2)))))))))
def f_X11_allThat (x0 : Nat) (x1 : Int32) (x2 : Int32) (σ : cS) : Option ((Nat ⊕ Int32) × cS) := (rc σ (some x0) 11).bind (fun v1 => (f_X11_selectorAt v1 (x1) σ).bind (fun v2 => v2.1.elim (fun k => some (.inl k, v2.2)) (fun w3 => (gR v2.2 (some x0) 11 0).bind (fun v4 => (rc v2.2 v4 10).bind (fun v5 => (f_X10_hasTree v5 (x2) v2.2).bind (fun v6 => if v6 = (0:Int32) then (f_X11_allThat_22 x0 (x2) (w3) ((1:Int32)) v2.2) else (f_X11_allThat_22 x0 (x2) (w3) ((0:Int32)) v2.2)))))))
set_option maxRecDepth 20000 in
set_option maxHeartbeats 4000000 in
theorem N_X11_allThat_22 {p : Program} {l : Launch} {e : Env} {s : State} {m : MethodId} {args : Array Value} {below : List Frame} {meth : Method} {c : Code} {D : cD} {Φ : cG} {x0 : Nat}   {x2 : Int32} {x3 : Option Nat} {y0 : Int32} {σ : cS} {H : Heap} {locs : List Loc} {ls : Array Slot} {q : (Nat ⊕ Int32) × cS} (X : cX p s m args meth c cX11_allThat 4 (some .int) RX11 D Φ) (hl9 : l.stackTraces = false) (hnt : ∀ x ∈ c.exceptionTable.toList, False) (hP : cP D Φ σ H) (hS : va_S (cReg Φ) s.heap H locs)  (hl : lv_has ls 4 [(0, cv Φ (some x0)), (2, .int x2), (3, cv Φ x3)]) (h : f_X11_allThat_22  x0 x2 x3 y0 σ = some q) : cWt p l e 7 2 12 132 s m args below meth c D Φ vlI q H locs 1 6 (F0 m 22 ls [.int y0]) := by
  have hx := X.1
  have hb := X.2.1
  have hown := X.2.2.2.1
  have hts := X.2.2.2.2.1
  have h : ((f_X11_refuseBounds (y0) σ).bind (fun v1 => v1.1.elim (fun k => some (.inl k, v1.2)) (fun w2 => (gR v1.2 (some x0) 11 1).bind (fun v3 => (gR v1.2 (some x0) 11 0).bind (fun v4 => (rc v1.2 v4 10).bind (fun v5 => (f_X10_at v5 (x2) v1.2).bind (fun v6 => (rc v1.2 v3 5).bind (fun v7 => (f_X5_setOf v7 (x3) (v6) v1.2).bind (fun v8 => some (.inr v8.1, v8.2)))))))))) = some q := h
  obtain ⟨v1, hv1, h⟩ := ob h
  refine c_ct (c_tS X (K_X11_refuseBounds l hl9 D Φ σ (y0) hv1) ⟨w_762, ww_X11_refuseBounds⟩ hy_X11_refuseBounds rfl ⟨(Nat.le_of_ble_eq_true rfl), (Nat.le_of_ble_eq_true rfl)⟩ hP hS hl.1 (Nat.le_of_ble_eq_true rfl) dX11_allThat_22 rfl ⟨(Nat.le_of_ble_eq_true rfl), (Nat.le_of_ble_eq_true rfl)⟩) X hnt hS ⟨(Nat.le_of_ble_eq_true rfl), (Nat.le_of_ble_eq_true rfl)⟩ (fun k e => by have h9 := el_l e h; exact (sj h9).symm) (fun w2 H locs e hP hS => ?_)
  have h := el_r e h
  refine W.eq (g2 := F0 m 25 ls []) rfl ?_
  refine c_aload_n hx hb dX11_allThat_25 rfl (lv_at hl 0 rfl) ?_
  obtain ⟨v3, hv3, h⟩ := ob h
  refine c_gR X hP hv3 (Nat.le_of_ble_eq_true rfl) (Nat.le_of_ble_eq_true rfl) rfl w_572 dX11_allThat_26 ?_
  refine c_aload_n hx hb dX11_allThat_29 rfl (lv_at hl 2 rfl) ?_
  refine c_aload_n hx hb dX11_allThat_30 rfl (lv_at hl 0 rfl) ?_
  obtain ⟨v4, hv4, h⟩ := ob h
  refine c_gR X hP hv4 (Nat.le_of_ble_eq_true rfl) (Nat.le_of_ble_eq_true rfl) rfl w_571 dX11_allThat_31 ?_
  refine lv_iload_n hx hb dX11_allThat_34 rfl (lv_at hl 1 rfl) ?_
  obtain ⟨v5, hv5, h⟩ := ob h
  obtain ⟨v6, hv6, h⟩ := ob h
  refine c_cr (c_runV X (K_X10_at l D Φ v1.2 v5 (x2) hv6) hv5 ⟨Nat.le_of_ble_eq_true rfl, by decide⟩ ⟨w_739, ww_X10_at⟩ rfl hy_X10_at rfl ⟨(Nat.le_of_ble_eq_true rfl), (Nat.le_of_ble_eq_true rfl)⟩ hP hS hl.1 (Nat.le_of_ble_eq_true rfl) dX11_allThat_35 rfl ⟨(Nat.le_of_ble_eq_true rfl), (Nat.le_of_ble_eq_true rfl)⟩) ?_
  obtain ⟨v7, hv7, h⟩ := ob h
  obtain ⟨v8, hv8, h⟩ := ob h
  refine c_cw (c_runV X (K_X5_setOf l D Φ v1.2 v7 (x3) (v6) hv8) hv7 ⟨Nat.le_of_ble_eq_true rfl, by decide⟩ ⟨w_1140, ww_X5_setOf⟩ rfl hy_X5_setOf rfl ⟨(Nat.le_of_ble_eq_true rfl), (Nat.le_of_ble_eq_true rfl)⟩ hP hS hl.1 (Nat.le_of_ble_eq_true rfl) dX11_allThat_38 rfl ⟨(Nat.le_of_ble_eq_true rfl), (Nat.le_of_ble_eq_true rfl)⟩) hS (fun H locs hP hS => ?_)
  refine W.eq (g2 := F0 m 41 ls [.int v8.1]) rfl ?_
  exact c_ti X hP hS (sj h).symm (Nat.le_of_ble_eq_true rfl) (Nat.le_of_ble_eq_true rfl) dX11_allThat_41
set_option maxRecDepth 20000 in
set_option maxHeartbeats 4000000 in
theorem K_X11_allThat (l : Launch) (hl9 : l.stackTraces = false) (D : cD) (Φ : cG) (σ : cS) (x0 : Nat) (x1 : Int32) (x2 : Int32) {q : (Nat ⊕ Int32) × cS} (h : f_X11_allThat x0 x1 x2 σ = some q) : vx_Met l yX11_allThat (Cond.code yX11_allThat cX11_allThat 4 (some .int) :: BG) (rA 7 2 12 132) (cPc D Φ σ [cv Φ (some x0), .int x1, .int x2]) (cQt vlI D Φ q) (cXC D Φ q) 2 12 (cReg Φ) := by
  refine vx_ofW (cc := cX11_allThat) (maxL := 4) (ret := (some .int)) (by decide) rfl ?_
  intro p e s m args below meth c s₁ B hml hnt hv
  obtain ⟨rfl, hP, hK, hZ⟩ := hv
  have X : cX p s m [cv Φ (some x0), .int x1, .int x2].toArray meth c cX11_allThat 4 (some .int) RX11 D Φ := cX_of B hml hK hZ
  have hx := X.1
  have hb := X.2.1
  have hown := X.2.2.2.1
  have hts := X.2.2.2.2.1
  have hl := lv_entry [cv Φ (some x0), .int x1, .int x2] (n := 4) (by simp only [lgs_r, lgs_i, lgs_l, lgs_0, List.length]; exact Nat.le_of_ble_eq_true rfl)
  rw [lg_entry_eq]
  generalize (lg_sl [cv Φ (some x0), .int x1, .int x2] ++ List.replicate (4 - (lg_sl [cv Φ (some x0), .int x1, .int x2]).length) Slot.unset).toArray = ls at hl ⊢
  simp only [lv_args_r, lv_args_i, lv_args_l, lv_args_0] at hl
  have hl : lv_has ls 4 [(0, cv Φ (some x0)), (1, .int x1), (2, .int x2)] := hl
  have hS : va_S (cReg Φ) s.heap s.heap [] := va_S.rf
  show cWt p l e 7 2 12 132 s m [cv Φ (some x0), .int x1, .int x2].toArray below meth c D Φ vlI q s.heap [] 0 0 (F0 m 0 ls [])
  have h : ((rc σ (some x0) 11).bind (fun v1 => (f_X11_selectorAt v1 (x1) σ).bind (fun v2 => v2.1.elim (fun k => some (.inl k, v2.2)) (fun w3 => (gR v2.2 (some x0) 11 0).bind (fun v4 => (rc v2.2 v4 10).bind (fun v5 => (f_X10_hasTree v5 (x2) v2.2).bind (fun v6 => if v6 = (0:Int32) then (f_X11_allThat_22 x0 (x2) (w3) ((1:Int32)) v2.2) else (f_X11_allThat_22 x0 (x2) (w3) ((0:Int32)) v2.2)))))))) = some q := h
  refine c_aload_n hx hb dX11_allThat_0 rfl (lv_at hl 0 rfl) ?_
  refine lv_iload_n hx hb dX11_allThat_1 rfl (lv_at hl 1 rfl) ?_
  obtain ⟨v1, hv1, h⟩ := ob h
  obtain ⟨v2, hv2, h⟩ := ob h
  refine c_ct (c_tV X (K_X11_selectorAt l hl9 D Φ σ v1 (x1) hv2) hv1 ⟨Nat.le_of_ble_eq_true rfl, by decide⟩ ⟨w_1132, ww_X11_selectorAt⟩ rfl hy_X11_selectorAt rfl ⟨(Nat.le_of_ble_eq_true rfl), (Nat.le_of_ble_eq_true rfl)⟩ hP hS hl.1 (Nat.le_of_ble_eq_true rfl) dX11_allThat_2 rfl ⟨(Nat.le_of_ble_eq_true rfl), (Nat.le_of_ble_eq_true rfl)⟩) X hnt hS ⟨(Nat.le_of_ble_eq_true rfl), (Nat.le_of_ble_eq_true rfl)⟩ (fun k e => by have h9 := el_l e h; exact (sj h9).symm) (fun w3 H locs e hP hS => ?_)
  have h := el_r e h
  refine W.eq (g2 := F0 m 5 ls [cv Φ w3]) rfl ?_
  refine c_astore_n hx hb dX11_allThat_5 rfl hl (Nat.le_of_ble_eq_true rfl) (lvKa rfl (lvKa rfl (lvKi lvK0))) rfl (fun ls (hl : lv_has ls 4 [(3, cv Φ w3), (0, cv Φ (some x0)), (1, .int x1), (2, .int x2)]) => ?_)
  refine c_aload_n hx hb dX11_allThat_6 rfl (lv_at hl 1 rfl) ?_
  obtain ⟨v4, hv4, h⟩ := ob h
  refine c_gR X hP hv4 (Nat.le_of_ble_eq_true rfl) (Nat.le_of_ble_eq_true rfl) rfl w_571 dX11_allThat_7 ?_
  refine lv_iload_n hx hb dX11_allThat_10 rfl (lv_at hl 3 rfl) ?_
  obtain ⟨v5, hv5, h⟩ := ob h
  obtain ⟨v6, hv6, h⟩ := ob h
  refine c_cr (c_runV X (K_X10_hasTree l D Φ v2.2 v5 (x2) hv6) hv5 ⟨Nat.le_of_ble_eq_true rfl, by decide⟩ ⟨w_1136, ww_X10_hasTree⟩ rfl hy_X10_hasTree rfl ⟨(Nat.le_of_ble_eq_true rfl), (Nat.le_of_ble_eq_true rfl)⟩ hP hS hl.1 (Nat.le_of_ble_eq_true rfl) dX11_allThat_11 rfl ⟨(Nat.le_of_ble_eq_true rfl), (Nat.le_of_ble_eq_true rfl)⟩) ?_
  refine lv_if_ne (tgt := 21) hx hb dX11_allThat_14 rfl (fun hc => ?_) (fun hc => ?_)
  · have h := ine hc h
    refine lv_iconst (v := (0:Int32)) hx hb dX11_allThat_21 (by decide) ?_
    exact N_X11_allThat_22 X hl9 hnt hP hS (lv_sub hl [1, 3, 0] rfl) h
  · have h := ip hc h
    refine lv_iconst (v := (1:Int32)) hx hb dX11_allThat_17 (by decide) ?_
    refine lv_goto (tgt := 22) hx hb dX11_allThat_18 rfl ?_
    exact N_X11_allThat_22 X hl9 hnt hP hS (lv_sub hl [1, 3, 0] rfl) h
theorem ww_X11_allThat : Cond.instanceMethod yX11_allThat ∈ BG ∧ Cond.selects (yX11_allThat).cls yX11_allThat yX11_allThat ∈ BG ∧ Cond.initialized (yX11_allThat).cls ∈ BG ∧ Cond.code yX11_allThat cX11_allThat 4 (some .int) ∈ BG := ⟨w_1129, w_1130, w_56, w_1131⟩
theorem hy_X11_allThat : (yX11_allThat).cls ≠ "java/lang/invoke/MethodHandle" ∧ (yX11_allThat).cls ≠ "java/lang/invoke/VarHandle" ∧ (parseMethodDescriptor (yX11_allThat).desc).map (fun d => d.parameters.length) = some 2 := ⟨by decide, by decide, by decide +kernel⟩
def f_X11_sheet_65  (x0 : Nat) (x1 : Int32) (x2 : Int32) (x3 : Int32) (y0 : Int32) (σ : cS) : Option ((Nat ⊕ Int32) × cS) := (f_X11_refuseState (y0) σ).bind (fun v1 => v1.1.elim (fun k => some (.inl k, v1.2)) (fun w2 => (rc v1.2 (some x0) 11).bind (fun v3 => (f_X11_markAll v3  v1.2).bind (fun v4 => (gR v4 (some x0) 11 2).bind (fun v5 => (gR v4 (some x0) 11 0).bind (fun v6 => (rc v4 v6 10).bind (fun v7 => (f_X10_at v7 (x2) v4).bind (fun v8 => (rc v4 v5 1).bind (fun v9 => (f_X1_addSheet v9 (x1) (v8) (x3) v4).bind (fun v10 => some (.inr v10.1, v10.2)))))))))))
def f_X11_sheet_45  (x0 : Nat) (x1 : Int32) (x2 : Int32) (x3 : Int32) (y0 : Int32) (σ : cS) : Option ((Nat ⊕ Int32) × cS) := (f_X11_refuseBounds (y0) σ).bind (fun v1 => v1.1.elim (fun k => some (.inl k, v1.2)) (fun w2 => (gR v1.2 (some x0) 11 2).bind (fun v3 => (gI v1.2 v3 1 4).bind (fun v4 => if v4 < (8:Int32) then (f_X11_sheet_65 x0 (x1) (x2) (x3) ((0:Int32)) v1.2) else (f_X11_sheet_65 x0 (x1) (x2) (x3) ((1:Int32)) v1.2)))))
def f_X11_sheet_26  (x0 : Nat) (x1 : Int32) (x2 : Int32) (x3 : Int32) (y0 : Int32) (σ : cS) : Option ((Nat ⊕ Int32) × cS) := (f_X11_refuseArgument (y0) σ).bind (fun v1 => v1.1.elim (fun k => some (.inl k, v1.2)) (fun w2 => (gR v1.2 (some x0) 11 0).bind (fun v3 => (rc v1.2 v3 10).bind (fun v4 => (f_X10_hasTree v4 (x2) v1.2).bind (fun v5 => if v5 = (0:Int32) then (f_X11_sheet_45 x0 (x1) (x2) (x3) ((1:Int32)) v1.2) else (f_X11_sheet_45 x0 (x1) (x2) (x3) ((0:Int32)) v1.2))))))
def f_X11_sheet_21  (x0 : Nat) (x1 : Int32) (x2 : Int32) (x3 : Int32) (σ : cS) : Option ((Nat ⊕ Int32) × cS) := f_X11_sheet_26 x0 (x1) (x2) (x3) ((1:Int32)) σ
def f_X11_sheet_25  (x0 : Nat) (x1 : Int32) (x2 : Int32) (x3 : Int32) (σ : cS) : Option ((Nat ⊕ Int32) × cS) := f_X11_sheet_26 x0 (x1) (x2) (x3) ((0:Int32)) σ
def f_X11_sheet (x0 : Nat) (x1 : Int32) (x2 : Int32) (x3 : Int32) (σ : cS) : Option ((Nat ⊕ Int32) × cS) := (f_X11_isBelow (x1) ((3:Int32))).bind (fun v1 => if v1 = (0:Int32) then (f_X11_sheet_21 x0 (x1) (x2) (x3) σ) else (if x3 = ((-1):Int32) then (f_X11_sheet_25 x0 (x1) (x2) (x3) σ) else ((f_X11_isBelow (x3) ((4:Int32))).bind (fun v2 => if v2 = (0:Int32) then (f_X11_sheet_21 x0 (x1) (x2) (x3) σ) else (f_X11_sheet_25 x0 (x1) (x2) (x3) σ)))))
set_option maxRecDepth 20000 in
set_option maxHeartbeats 4000000 in
theorem N_X11_sheet_65 {p : Program} {l : Launch} {e : Env} {s : State} {m : MethodId} {args : Array Value} {below : List Frame} {meth : Method} {c : Code} {D : cD} {Φ : cG} {x0 : Nat}   {x1 : Int32} {x2 : Int32} {x3 : Int32} {y0 : Int32} {σ : cS} {H : Heap} {locs : List Loc} {ls : Array Slot} {q : (Nat ⊕ Int32) × cS} (X : cX p s m args meth c cX11_sheet 4 (some .int) RX11 D Φ) (hl9 : l.stackTraces = false) (hnt : ∀ x ∈ c.exceptionTable.toList, False) (hP : cP D Φ σ H) (hS : va_S (cReg Φ) s.heap H locs)  (hl : lv_has ls 4 [(0, cv Φ (some x0)), (1, .int x1), (2, .int x2), (3, .int x3)]) (h : f_X11_sheet_65  x0 x1 x2 x3 y0 σ = some q) : cWt p l e 7 4 23 110 s m args below meth c D Φ vlI q H locs 2 12 (F0 m 65 ls [.int y0]) := by
  have hx := X.1
  have hb := X.2.1
  have hown := X.2.2.2.1
  have hts := X.2.2.2.2.1
  have h : ((f_X11_refuseState (y0) σ).bind (fun v1 => v1.1.elim (fun k => some (.inl k, v1.2)) (fun w2 => (rc v1.2 (some x0) 11).bind (fun v3 => (f_X11_markAll v3  v1.2).bind (fun v4 => (gR v4 (some x0) 11 2).bind (fun v5 => (gR v4 (some x0) 11 0).bind (fun v6 => (rc v4 v6 10).bind (fun v7 => (f_X10_at v7 (x2) v4).bind (fun v8 => (rc v4 v5 1).bind (fun v9 => (f_X1_addSheet v9 (x1) (v8) (x3) v4).bind (fun v10 => some (.inr v10.1, v10.2)))))))))))) = some q := h
  obtain ⟨v1, hv1, h⟩ := ob h
  refine c_ct (c_tS X (K_X11_refuseState l hl9 D Φ σ (y0) hv1) ⟨w_704, ww_X11_refuseState⟩ hy_X11_refuseState rfl ⟨(Nat.le_of_ble_eq_true rfl), (Nat.le_of_ble_eq_true rfl)⟩ hP hS hl.1 (Nat.le_of_ble_eq_true rfl) dX11_sheet_65 rfl ⟨(Nat.le_of_ble_eq_true rfl), (Nat.le_of_ble_eq_true rfl)⟩) X hnt hS ⟨(Nat.le_of_ble_eq_true rfl), (Nat.le_of_ble_eq_true rfl)⟩ (fun k e => by have h9 := el_l e h; exact (sj h9).symm) (fun w2 H locs e hP hS => ?_)
  have h := el_r e h
  refine W.eq (g2 := F0 m 68 ls []) rfl ?_
  refine c_aload_n hx hb dX11_sheet_68 rfl (lv_at hl 0 rfl) ?_
  obtain ⟨v3, hv3, h⟩ := ob h
  obtain ⟨v4, hv4, h⟩ := ob h
  refine c_cw (c_runV X (K_X11_markAll l D Φ v1.2 v3  hv4) hv3 ⟨Nat.le_of_ble_eq_true rfl, by decide⟩ ⟨w_830, ww_X11_markAll⟩ rfl hy_X11_markAll rfl ⟨(Nat.le_of_ble_eq_true rfl), (Nat.le_of_ble_eq_true rfl)⟩ hP hS hl.1 (Nat.le_of_ble_eq_true rfl) dX11_sheet_69 rfl ⟨(Nat.le_of_ble_eq_true rfl), (Nat.le_of_ble_eq_true rfl)⟩) hS (fun H locs hP hS => ?_)
  refine W.eq (g2 := F0 m 72 ls []) rfl ?_
  refine c_aload_n hx hb dX11_sheet_72 rfl (lv_at hl 0 rfl) ?_
  obtain ⟨v5, hv5, h⟩ := ob h
  refine c_gR X hP hv5 (Nat.le_of_ble_eq_true rfl) (Nat.le_of_ble_eq_true rfl) rfl w_573 dX11_sheet_73 ?_
  refine lv_iload_n hx hb dX11_sheet_76 rfl (lv_at hl 1 rfl) ?_
  refine c_aload_n hx hb dX11_sheet_77 rfl (lv_at hl 0 rfl) ?_
  obtain ⟨v6, hv6, h⟩ := ob h
  refine c_gR X hP hv6 (Nat.le_of_ble_eq_true rfl) (Nat.le_of_ble_eq_true rfl) rfl w_571 dX11_sheet_78 ?_
  refine lv_iload_n hx hb dX11_sheet_81 rfl (lv_at hl 2 rfl) ?_
  obtain ⟨v7, hv7, h⟩ := ob h
  obtain ⟨v8, hv8, h⟩ := ob h
  refine c_cr (c_runV X (K_X10_at l D Φ v4 v7 (x2) hv8) hv7 ⟨Nat.le_of_ble_eq_true rfl, by decide⟩ ⟨w_739, ww_X10_at⟩ rfl hy_X10_at rfl ⟨(Nat.le_of_ble_eq_true rfl), (Nat.le_of_ble_eq_true rfl)⟩ hP hS hl.1 (Nat.le_of_ble_eq_true rfl) dX11_sheet_82 rfl ⟨(Nat.le_of_ble_eq_true rfl), (Nat.le_of_ble_eq_true rfl)⟩) ?_
  refine lv_iload_n hx hb dX11_sheet_85 rfl (lv_at hl 3 rfl) ?_
  obtain ⟨v9, hv9, h⟩ := ob h
  obtain ⟨v10, hv10, h⟩ := ob h
  refine c_cw (c_runV X (K_X1_addSheet l D Φ v4 v9 (x1) (v8) (x3) hv10) hv9 ⟨Nat.le_of_ble_eq_true rfl, by decide⟩ ⟨w_1249, ww_X1_addSheet⟩ rfl hy_X1_addSheet rfl ⟨(Nat.le_of_ble_eq_true rfl), (Nat.le_of_ble_eq_true rfl)⟩ hP hS hl.1 (Nat.le_of_ble_eq_true rfl) dX11_sheet_86 rfl ⟨(Nat.le_of_ble_eq_true rfl), (Nat.le_of_ble_eq_true rfl)⟩) hS (fun H locs hP hS => ?_)
  refine W.eq (g2 := F0 m 89 ls [.int v10.1]) rfl ?_
  exact c_ti X hP hS (sj h).symm (Nat.le_of_ble_eq_true rfl) (Nat.le_of_ble_eq_true rfl) dX11_sheet_89
set_option maxRecDepth 20000 in
set_option maxHeartbeats 4000000 in
theorem N_X11_sheet_45 {p : Program} {l : Launch} {e : Env} {s : State} {m : MethodId} {args : Array Value} {below : List Frame} {meth : Method} {c : Code} {D : cD} {Φ : cG} {x0 : Nat}   {x1 : Int32} {x2 : Int32} {x3 : Int32} {y0 : Int32} {σ : cS} {H : Heap} {locs : List Loc} {ls : Array Slot} {q : (Nat ⊕ Int32) × cS} (X : cX p s m args meth c cX11_sheet 4 (some .int) RX11 D Φ) (hl9 : l.stackTraces = false) (hnt : ∀ x ∈ c.exceptionTable.toList, False) (hP : cP D Φ σ H) (hS : va_S (cReg Φ) s.heap H locs)  (hl : lv_has ls 4 [(0, cv Φ (some x0)), (1, .int x1), (2, .int x2), (3, .int x3)]) (h : f_X11_sheet_45  x0 x1 x2 x3 y0 σ = some q) : cWt p l e 7 4 23 110 s m args below meth c D Φ vlI q H locs 1 6 (F0 m 45 ls [.int y0]) := by
  have hx := X.1
  have hb := X.2.1
  have hown := X.2.2.2.1
  have hts := X.2.2.2.2.1
  have h : ((f_X11_refuseBounds (y0) σ).bind (fun v1 => v1.1.elim (fun k => some (.inl k, v1.2)) (fun w2 => (gR v1.2 (some x0) 11 2).bind (fun v3 => (gI v1.2 v3 1 4).bind (fun v4 => if v4 < (8:Int32) then (f_X11_sheet_65 x0 (x1) (x2) (x3) ((0:Int32)) v1.2) else (f_X11_sheet_65 x0 (x1) (x2) (x3) ((1:Int32)) v1.2)))))) = some q := h
  obtain ⟨v1, hv1, h⟩ := ob h
  refine c_ct (c_tS X (K_X11_refuseBounds l hl9 D Φ σ (y0) hv1) ⟨w_762, ww_X11_refuseBounds⟩ hy_X11_refuseBounds rfl ⟨(Nat.le_of_ble_eq_true rfl), (Nat.le_of_ble_eq_true rfl)⟩ hP hS hl.1 (Nat.le_of_ble_eq_true rfl) dX11_sheet_45 rfl ⟨(Nat.le_of_ble_eq_true rfl), (Nat.le_of_ble_eq_true rfl)⟩) X hnt hS ⟨(Nat.le_of_ble_eq_true rfl), (Nat.le_of_ble_eq_true rfl)⟩ (fun k e => by have h9 := el_l e h; exact (sj h9).symm) (fun w2 H locs e hP hS => ?_)
  have h := el_r e h
  refine W.eq (g2 := F0 m 48 ls []) rfl ?_
  refine c_aload_n hx hb dX11_sheet_48 rfl (lv_at hl 0 rfl) ?_
  obtain ⟨v3, hv3, h⟩ := ob h
  refine c_gR X hP hv3 (Nat.le_of_ble_eq_true rfl) (Nat.le_of_ble_eq_true rfl) rfl w_573 dX11_sheet_49 ?_
  obtain ⟨v4, hv4, h⟩ := ob h
  refine c_gI X hP hv4 (Nat.le_of_ble_eq_true rfl) (Nat.le_of_ble_eq_true rfl) rfl w_503 dX11_sheet_52 ?_
  refine lv_bipush (v := (8:Int32)) hx hb dX11_sheet_55 (by decide) ?_
  refine lv_icmp_lt (tgt := 64) hx hb dX11_sheet_57 rfl (fun hc => ?_) (fun hc => ?_)
  · have h := ip hc h
    refine lv_iconst (v := (0:Int32)) hx hb dX11_sheet_64 (by decide) ?_
    exact N_X11_sheet_65 X hl9 hnt hP hS (lv_sub hl [0, 1, 2, 3] rfl) h
  · have h := ine hc h
    refine lv_iconst (v := (1:Int32)) hx hb dX11_sheet_60 (by decide) ?_
    refine lv_goto (tgt := 65) hx hb dX11_sheet_61 rfl ?_
    exact N_X11_sheet_65 X hl9 hnt hP hS (lv_sub hl [0, 1, 2, 3] rfl) h
set_option maxRecDepth 20000 in
set_option maxHeartbeats 4000000 in
theorem N_X11_sheet_26 {p : Program} {l : Launch} {e : Env} {s : State} {m : MethodId} {args : Array Value} {below : List Frame} {meth : Method} {c : Code} {D : cD} {Φ : cG} {x0 : Nat}   {x1 : Int32} {x2 : Int32} {x3 : Int32} {y0 : Int32} {σ : cS} {H : Heap} {locs : List Loc} {ls : Array Slot} {q : (Nat ⊕ Int32) × cS} (X : cX p s m args meth c cX11_sheet 4 (some .int) RX11 D Φ) (hl9 : l.stackTraces = false) (hnt : ∀ x ∈ c.exceptionTable.toList, False) (hP : cP D Φ σ H) (hS : va_S (cReg Φ) s.heap H locs)  (hl : lv_has ls 4 [(0, cv Φ (some x0)), (1, .int x1), (2, .int x2), (3, .int x3)]) (h : f_X11_sheet_26  x0 x1 x2 x3 y0 σ = some q) : cWt p l e 7 4 23 110 s m args below meth c D Φ vlI q H locs 0 0 (F0 m 26 ls [.int y0]) := by
  have hx := X.1
  have hb := X.2.1
  have hown := X.2.2.2.1
  have hts := X.2.2.2.2.1
  have h : ((f_X11_refuseArgument (y0) σ).bind (fun v1 => v1.1.elim (fun k => some (.inl k, v1.2)) (fun w2 => (gR v1.2 (some x0) 11 0).bind (fun v3 => (rc v1.2 v3 10).bind (fun v4 => (f_X10_hasTree v4 (x2) v1.2).bind (fun v5 => if v5 = (0:Int32) then (f_X11_sheet_45 x0 (x1) (x2) (x3) ((1:Int32)) v1.2) else (f_X11_sheet_45 x0 (x1) (x2) (x3) ((0:Int32)) v1.2))))))) = some q := h
  obtain ⟨v1, hv1, h⟩ := ob h
  refine c_ct (c_tS X (K_X11_refuseArgument l hl9 D Φ σ (y0) hv1) ⟨w_638, ww_X11_refuseArgument⟩ hy_X11_refuseArgument rfl ⟨(Nat.le_of_ble_eq_true rfl), (Nat.le_of_ble_eq_true rfl)⟩ hP hS hl.1 (Nat.le_of_ble_eq_true rfl) dX11_sheet_26 rfl ⟨(Nat.le_of_ble_eq_true rfl), (Nat.le_of_ble_eq_true rfl)⟩) X hnt hS ⟨(Nat.le_of_ble_eq_true rfl), (Nat.le_of_ble_eq_true rfl)⟩ (fun k e => by have h9 := el_l e h; exact (sj h9).symm) (fun w2 H locs e hP hS => ?_)
  have h := el_r e h
  refine W.eq (g2 := F0 m 29 ls []) rfl ?_
  refine c_aload_n hx hb dX11_sheet_29 rfl (lv_at hl 0 rfl) ?_
  obtain ⟨v3, hv3, h⟩ := ob h
  refine c_gR X hP hv3 (Nat.le_of_ble_eq_true rfl) (Nat.le_of_ble_eq_true rfl) rfl w_571 dX11_sheet_30 ?_
  refine lv_iload_n hx hb dX11_sheet_33 rfl (lv_at hl 2 rfl) ?_
  obtain ⟨v4, hv4, h⟩ := ob h
  obtain ⟨v5, hv5, h⟩ := ob h
  refine c_cr (c_runV X (K_X10_hasTree l D Φ v1.2 v4 (x2) hv5) hv4 ⟨Nat.le_of_ble_eq_true rfl, by decide⟩ ⟨w_1136, ww_X10_hasTree⟩ rfl hy_X10_hasTree rfl ⟨(Nat.le_of_ble_eq_true rfl), (Nat.le_of_ble_eq_true rfl)⟩ hP hS hl.1 (Nat.le_of_ble_eq_true rfl) dX11_sheet_34 rfl ⟨(Nat.le_of_ble_eq_true rfl), (Nat.le_of_ble_eq_true rfl)⟩) ?_
  refine lv_if_ne (tgt := 44) hx hb dX11_sheet_37 rfl (fun hc => ?_) (fun hc => ?_)
  · have h := ine hc h
    refine lv_iconst (v := (0:Int32)) hx hb dX11_sheet_44 (by decide) ?_
    exact N_X11_sheet_45 X hl9 hnt hP hS (lv_sub hl [0, 1, 2, 3] rfl) h
  · have h := ip hc h
    refine lv_iconst (v := (1:Int32)) hx hb dX11_sheet_40 (by decide) ?_
    refine lv_goto (tgt := 45) hx hb dX11_sheet_41 rfl ?_
    exact N_X11_sheet_45 X hl9 hnt hP hS (lv_sub hl [0, 1, 2, 3] rfl) h
set_option maxRecDepth 20000 in
set_option maxHeartbeats 4000000 in
theorem N_X11_sheet_21 {p : Program} {l : Launch} {e : Env} {s : State} {m : MethodId} {args : Array Value} {below : List Frame} {meth : Method} {c : Code} {D : cD} {Φ : cG} {x0 : Nat}   {x1 : Int32} {x2 : Int32} {x3 : Int32} {σ : cS} {H : Heap} {locs : List Loc} {ls : Array Slot} {q : (Nat ⊕ Int32) × cS} (X : cX p s m args meth c cX11_sheet 4 (some .int) RX11 D Φ) (hl9 : l.stackTraces = false) (hnt : ∀ x ∈ c.exceptionTable.toList, False) (hP : cP D Φ σ H) (hS : va_S (cReg Φ) s.heap H locs)  (hl : lv_has ls 4 [(0, cv Φ (some x0)), (1, .int x1), (2, .int x2), (3, .int x3)]) (h : f_X11_sheet_21  x0 x1 x2 x3 σ = some q) : cWt p l e 7 4 23 110 s m args below meth c D Φ vlI q H locs 0 0 (F0 m 21 ls []) := by
  have hx := X.1
  have hb := X.2.1
  have hown := X.2.2.2.1
  have hts := X.2.2.2.2.1
  have h : (f_X11_sheet_26 x0 (x1) (x2) (x3) ((1:Int32)) σ) = some q := h
  refine lv_iconst (v := (1:Int32)) hx hb dX11_sheet_21 (by decide) ?_
  refine lv_goto (tgt := 26) hx hb dX11_sheet_22 rfl ?_
  exact N_X11_sheet_26 X hl9 hnt hP hS (lv_sub hl [0, 1, 2, 3] rfl) h
set_option maxRecDepth 20000 in
set_option maxHeartbeats 4000000 in
theorem N_X11_sheet_25 {p : Program} {l : Launch} {e : Env} {s : State} {m : MethodId} {args : Array Value} {below : List Frame} {meth : Method} {c : Code} {D : cD} {Φ : cG} {x0 : Nat}   {x1 : Int32} {x2 : Int32} {x3 : Int32} {σ : cS} {H : Heap} {locs : List Loc} {ls : Array Slot} {q : (Nat ⊕ Int32) × cS} (X : cX p s m args meth c cX11_sheet 4 (some .int) RX11 D Φ) (hl9 : l.stackTraces = false) (hnt : ∀ x ∈ c.exceptionTable.toList, False) (hP : cP D Φ σ H) (hS : va_S (cReg Φ) s.heap H locs)  (hl : lv_has ls 4 [(0, cv Φ (some x0)), (1, .int x1), (2, .int x2), (3, .int x3)]) (h : f_X11_sheet_25  x0 x1 x2 x3 σ = some q) : cWt p l e 7 4 23 110 s m args below meth c D Φ vlI q H locs 0 0 (F0 m 25 ls []) := by
  have hx := X.1
  have hb := X.2.1
  have hown := X.2.2.2.1
  have hts := X.2.2.2.2.1
  have h : (f_X11_sheet_26 x0 (x1) (x2) (x3) ((0:Int32)) σ) = some q := h
  refine lv_iconst (v := (0:Int32)) hx hb dX11_sheet_25 (by decide) ?_
  exact N_X11_sheet_26 X hl9 hnt hP hS (lv_sub hl [0, 1, 2, 3] rfl) h
set_option maxRecDepth 20000 in
set_option maxHeartbeats 4000000 in
theorem K_X11_sheet (l : Launch) (hl9 : l.stackTraces = false) (D : cD) (Φ : cG) (σ : cS) (x0 : Nat) (x1 : Int32) (x2 : Int32) (x3 : Int32) {q : (Nat ⊕ Int32) × cS} (h : f_X11_sheet x0 x1 x2 x3 σ = some q) : vx_Met l yX11_sheet (Cond.code yX11_sheet cX11_sheet 4 (some .int) :: BG) (rA 7 4 23 110) (cPc D Φ σ [cv Φ (some x0), .int x1, .int x2, .int x3]) (cQt vlI D Φ q) (cXC D Φ q) 4 23 (cReg Φ) := by
  refine vx_ofW (cc := cX11_sheet) (maxL := 4) (ret := (some .int)) (by decide) rfl ?_
  intro p e s m args below meth c s₁ B hml hnt hv
  obtain ⟨rfl, hP, hK, hZ⟩ := hv
  have X : cX p s m [cv Φ (some x0), .int x1, .int x2, .int x3].toArray meth c cX11_sheet 4 (some .int) RX11 D Φ := cX_of B hml hK hZ
  have hx := X.1
  have hb := X.2.1
  have hown := X.2.2.2.1
  have hts := X.2.2.2.2.1
  have hl := lv_entry [cv Φ (some x0), .int x1, .int x2, .int x3] (n := 4) (by simp only [lgs_r, lgs_i, lgs_l, lgs_0, List.length]; exact Nat.le_of_ble_eq_true rfl)
  rw [lg_entry_eq]
  generalize (lg_sl [cv Φ (some x0), .int x1, .int x2, .int x3] ++ List.replicate (4 - (lg_sl [cv Φ (some x0), .int x1, .int x2, .int x3]).length) Slot.unset).toArray = ls at hl ⊢
  simp only [lv_args_r, lv_args_i, lv_args_l, lv_args_0] at hl
  have hl : lv_has ls 4 [(0, cv Φ (some x0)), (1, .int x1), (2, .int x2), (3, .int x3)] := hl
  have hS : va_S (cReg Φ) s.heap s.heap [] := va_S.rf
  show cWt p l e 7 4 23 110 s m [cv Φ (some x0), .int x1, .int x2, .int x3].toArray below meth c D Φ vlI q s.heap [] 0 0 (F0 m 0 ls [])
  have h : ((f_X11_isBelow (x1) ((3:Int32))).bind (fun v1 => if v1 = (0:Int32) then (f_X11_sheet_21 x0 (x1) (x2) (x3) σ) else (if x3 = ((-1):Int32) then (f_X11_sheet_25 x0 (x1) (x2) (x3) σ) else ((f_X11_isBelow (x3) ((4:Int32))).bind (fun v2 => if v2 = (0:Int32) then (f_X11_sheet_21 x0 (x1) (x2) (x3) σ) else (f_X11_sheet_25 x0 (x1) (x2) (x3) σ)))))) = some q := h
  refine lv_iload_n hx hb dX11_sheet_0 rfl (lv_at hl 1 rfl) ?_
  refine lv_iconst (v := (3:Int32)) hx hb dX11_sheet_1 (by decide) ?_
  obtain ⟨v1, hv1, h⟩ := ob h
  refine c_cr (c_runS X (K_X11_isBelow l D Φ σ (x1) ((3:Int32)) hv1) ⟨w_635, ww_X11_isBelow⟩ hy_X11_isBelow rfl ⟨(Nat.le_of_ble_eq_true rfl), (Nat.le_of_ble_eq_true rfl)⟩ hP hS hl.1 (Nat.le_of_ble_eq_true rfl) dX11_sheet_2 rfl ⟨(Nat.le_of_ble_eq_true rfl), (Nat.le_of_ble_eq_true rfl)⟩) ?_
  refine lv_if_eq (tgt := 21) hx hb dX11_sheet_5 rfl (fun hc => ?_) (fun hc => ?_)
  · have h := ip hc h
    exact N_X11_sheet_21 X hl9 hnt hP hS (lv_sub hl [0, 1, 2, 3] rfl) h
  · have h := ine hc h
    refine lv_iload_n hx hb dX11_sheet_8 rfl (lv_at hl 3 rfl) ?_
    refine lv_iconst (v := ((-1):Int32)) hx hb dX11_sheet_9 (by decide) ?_
    refine lv_icmp_eq (tgt := 25) hx hb dX11_sheet_10 rfl (fun hc => ?_) (fun hc => ?_)
    · have h := ip hc h
      exact N_X11_sheet_25 X hl9 hnt hP hS (lv_sub hl [0, 1, 2, 3] rfl) h
    · have h := ine hc h
      refine lv_iload_n hx hb dX11_sheet_13 rfl (lv_at hl 3 rfl) ?_
      refine lv_iconst (v := (4:Int32)) hx hb dX11_sheet_14 (by decide) ?_
      obtain ⟨v2, hv2, h⟩ := ob h
      refine c_cr (c_runS X (K_X11_isBelow l D Φ σ (x3) ((4:Int32)) hv2) ⟨w_635, ww_X11_isBelow⟩ hy_X11_isBelow rfl ⟨(Nat.le_of_ble_eq_true rfl), (Nat.le_of_ble_eq_true rfl)⟩ hP hS hl.1 (Nat.le_of_ble_eq_true rfl) dX11_sheet_15 rfl ⟨(Nat.le_of_ble_eq_true rfl), (Nat.le_of_ble_eq_true rfl)⟩) ?_
      refine lv_if_ne (tgt := 25) hx hb dX11_sheet_18 rfl (fun hc => ?_) (fun hc => ?_)
      · have h := ine hc h
        exact N_X11_sheet_25 X hl9 hnt hP hS (lv_sub hl [0, 1, 2, 3] rfl) h
      · have h := ip hc h
        exact N_X11_sheet_21 X hl9 hnt hP hS (lv_sub hl [0, 1, 2, 3] rfl) h
theorem ww_X11_sheet : Cond.instanceMethod yX11_sheet ∈ BG ∧ Cond.selects (yX11_sheet).cls yX11_sheet yX11_sheet ∈ BG ∧ Cond.initialized (yX11_sheet).cls ∈ BG ∧ Cond.code yX11_sheet cX11_sheet 4 (some .int) ∈ BG := ⟨w_1246, w_1247, w_56, w_1248⟩
theorem hy_X11_sheet : (yX11_sheet).cls ≠ "java/lang/invoke/MethodHandle" ∧ (yX11_sheet).cls ≠ "java/lang/invoke/VarHandle" ∧ (parseMethodDescriptor (yX11_sheet).desc).map (fun d => d.parameters.length) = some 3 := ⟨by decide, by decide, by decide +kernel⟩
def f_X11_sheetAt (x0 : Nat) (x1 : Int32) (σ : cS) : Option ((Nat ⊕ Option Nat) × cS) := (gR σ (some x0) 11 2).bind (fun v1 => (rc σ v1 1).bind (fun v2 => (f_X1_sheetAt v2 (x1) σ).bind (fun v3 => if v3 = none then (some (.inl 2, σ)) else (some (.inr v3, σ)))))
set_option maxRecDepth 20000 in
set_option maxHeartbeats 4000000 in
theorem K_X11_sheetAt (l : Launch) (hl9 : l.stackTraces = false) (D : cD) (Φ : cG) (σ : cS) (x0 : Nat) (x1 : Int32) {q : (Nat ⊕ Option Nat) × cS} (h : f_X11_sheetAt x0 x1 σ = some q) : vx_Met l yX11_sheetAt (Cond.code yX11_sheetAt cX11_sheetAt 3 (some (.object "Cascadery$Sheet")) :: BG) (rA 6 1 6 90) (cPc D Φ σ [cv Φ (some x0), .int x1]) (cQt (vlR Φ) D Φ q) (cXC D Φ q) 1 6 (cReg Φ) := by
  refine vx_ofW (cc := cX11_sheetAt) (maxL := 3) (ret := (some (.object "Cascadery$Sheet"))) (by decide) rfl ?_
  intro p e s m args below meth c s₁ B hml hnt hv
  obtain ⟨rfl, hP, hK, hZ⟩ := hv
  have X : cX p s m [cv Φ (some x0), .int x1].toArray meth c cX11_sheetAt 3 (some (.object "Cascadery$Sheet")) RX11 D Φ := cX_of B hml hK hZ
  have hx := X.1
  have hb := X.2.1
  have hown := X.2.2.2.1
  have hts := X.2.2.2.2.1
  have hl := lv_entry [cv Φ (some x0), .int x1] (n := 3) (by simp only [lgs_r, lgs_i, lgs_l, lgs_0, List.length]; exact Nat.le_of_ble_eq_true rfl)
  rw [lg_entry_eq]
  generalize (lg_sl [cv Φ (some x0), .int x1] ++ List.replicate (3 - (lg_sl [cv Φ (some x0), .int x1]).length) Slot.unset).toArray = ls at hl ⊢
  simp only [lv_args_r, lv_args_i, lv_args_l, lv_args_0] at hl
  have hl : lv_has ls 3 [(0, cv Φ (some x0)), (1, .int x1)] := hl
  have hS : va_S (cReg Φ) s.heap s.heap [] := va_S.rf
  show cWt p l e 6 1 6 90 s m [cv Φ (some x0), .int x1].toArray below meth c D Φ (vlR Φ) q s.heap [] 0 0 (F0 m 0 ls [])
  have h : ((gR σ (some x0) 11 2).bind (fun v1 => (rc σ v1 1).bind (fun v2 => (f_X1_sheetAt v2 (x1) σ).bind (fun v3 => if v3 = none then (some (.inl 2, σ)) else (some (.inr v3, σ)))))) = some q := h
  refine c_aload_n hx hb dX11_sheetAt_0 rfl (lv_at hl 0 rfl) ?_
  obtain ⟨v1, hv1, h⟩ := ob h
  refine c_gR X hP hv1 (Nat.le_of_ble_eq_true rfl) (Nat.le_of_ble_eq_true rfl) rfl w_573 dX11_sheetAt_1 ?_
  refine lv_iload_n hx hb dX11_sheetAt_4 rfl (lv_at hl 1 rfl) ?_
  obtain ⟨v2, hv2, h⟩ := ob h
  obtain ⟨v3, hv3, h⟩ := ob h
  refine c_cr (c_runV X (K_X1_sheetAt l D Φ σ v2 (x1) hv3) hv2 ⟨Nat.le_of_ble_eq_true rfl, by decide⟩ ⟨w_1291, ww_X1_sheetAt⟩ rfl hy_X1_sheetAt rfl ⟨(Nat.le_of_ble_eq_true rfl), (Nat.le_of_ble_eq_true rfl)⟩ hP hS hl.1 (Nat.le_of_ble_eq_true rfl) dX11_sheetAt_5 rfl ⟨(Nat.le_of_ble_eq_true rfl), (Nat.le_of_ble_eq_true rfl)⟩) ?_
  refine c_astore_n hx hb dX11_sheetAt_8 rfl hl (Nat.le_of_ble_eq_true rfl) (lvKa rfl (lvKi lvK0)) rfl (fun ls (hl : lv_has ls 3 [(2, cv Φ v3), (0, cv Φ (some x0)), (1, .int x1)]) => ?_)
  refine c_aload_n hx hb dX11_sheetAt_9 rfl (lv_at hl 0 rfl) ?_
  refine c_ifnonnull (Φ := Φ) (tgt := 21) hx hb dX11_sheetAt_10 rfl (fun hc => ?_) (fun hc => ?_)
  · have h := ine hc h
    refine c_aload_n hx hb dX11_sheetAt_21 rfl (lv_at hl 0 rfl) ?_
    exact c_ta X hP hS (sj h).symm (Nat.le_of_ble_eq_true rfl) (Nat.le_of_ble_eq_true rfl) dX11_sheetAt_22
  · have h := ip hc h
    exact c_thr2 hl9 X hnt hP hS hl.1 dX11_sheetAt_13 dX11_sheetAt_16 dX11_sheetAt_17 dX11_sheetAt_20 (sj h).symm (Nat.le_of_ble_eq_true rfl) (Nat.le_of_ble_eq_true rfl) (Nat.le_of_ble_eq_true rfl) (Nat.le_of_ble_eq_true rfl) (Nat.le_of_ble_eq_true rfl)
theorem ww_X11_sheetAt : Cond.instanceMethod yX11_sheetAt ∈ BG ∧ Cond.selects (yX11_sheetAt).cls yX11_sheetAt yX11_sheetAt ∈ BG ∧ Cond.initialized (yX11_sheetAt).cls ∈ BG ∧ Cond.code yX11_sheetAt cX11_sheetAt 3 (some (.object "Cascadery$Sheet")) ∈ BG := ⟨w_1289, w_52, w_56, w_1290⟩
theorem hy_X11_sheetAt : (yX11_sheetAt).cls ≠ "java/lang/invoke/MethodHandle" ∧ (yX11_sheetAt).cls ≠ "java/lang/invoke/VarHandle" ∧ (parseMethodDescriptor (yX11_sheetAt).desc).map (fun d => d.parameters.length) = some 1 := ⟨by decide, by decide, by decide +kernel⟩
def f_X11_turn (x0 : Nat) (x1 : Int32) (x2 : Int32) (σ : cS) : Option ((Nat ⊕ Int32) × cS) := (rc σ (some x0) 11).bind (fun v1 => (f_X11_sheetAt v1 (x1) σ).bind (fun v2 => v2.1.elim (fun k => some (.inl k, v2.2)) (fun w3 => (gI v2.2 w3 8 4).bind (fun v4 => (pZ v2.2 w3 8 4 x2).bind (fun v5 => (rc v5 (some x0) 11).bind (fun v6 => (f_X11_markAll v6  v5).bind (fun v7 => lrzt v4 v7)))))))
set_option maxRecDepth 20000 in
set_option maxHeartbeats 4000000 in
theorem K_X11_turn (l : Launch) (hl9 : l.stackTraces = false) (D : cD) (Φ : cG) (σ : cS) (x0 : Nat) (x1 : Int32) (x2 : Int32) {q : (Nat ⊕ Int32) × cS} (h : f_X11_turn x0 x1 x2 σ = some q) : vx_Met l yX11_turn (Cond.code yX11_turn cX11_turn 5 (some .boolean) :: BG) (rA 7 1 6 112) (cPc D Φ σ [cv Φ (some x0), .int x1, .int x2]) (cQt vlI D Φ q) (cXC D Φ q) 1 6 (cReg Φ) := by
  refine vx_ofW (cc := cX11_turn) (maxL := 5) (ret := (some .boolean)) (by decide) rfl ?_
  intro p e s m args below meth c s₁ B hml hnt hv
  obtain ⟨rfl, hP, hK, hZ⟩ := hv
  have X : cX p s m [cv Φ (some x0), .int x1, .int x2].toArray meth c cX11_turn 5 (some .boolean) RX11 D Φ := cX_of B hml hK hZ
  have hx := X.1
  have hb := X.2.1
  have hown := X.2.2.2.1
  have hts := X.2.2.2.2.1
  have hl := lv_entry [cv Φ (some x0), .int x1, .int x2] (n := 5) (by simp only [lgs_r, lgs_i, lgs_l, lgs_0, List.length]; exact Nat.le_of_ble_eq_true rfl)
  rw [lg_entry_eq]
  generalize (lg_sl [cv Φ (some x0), .int x1, .int x2] ++ List.replicate (5 - (lg_sl [cv Φ (some x0), .int x1, .int x2]).length) Slot.unset).toArray = ls at hl ⊢
  simp only [lv_args_r, lv_args_i, lv_args_l, lv_args_0] at hl
  have hl : lv_has ls 5 [(0, cv Φ (some x0)), (1, .int x1), (2, .int x2)] := hl
  have hS : va_S (cReg Φ) s.heap s.heap [] := va_S.rf
  show cWt p l e 7 1 6 112 s m [cv Φ (some x0), .int x1, .int x2].toArray below meth c D Φ vlI q s.heap [] 0 0 (F0 m 0 ls [])
  have h : ((rc σ (some x0) 11).bind (fun v1 => (f_X11_sheetAt v1 (x1) σ).bind (fun v2 => v2.1.elim (fun k => some (.inl k, v2.2)) (fun w3 => (gI v2.2 w3 8 4).bind (fun v4 => (pZ v2.2 w3 8 4 x2).bind (fun v5 => (rc v5 (some x0) 11).bind (fun v6 => (f_X11_markAll v6  v5).bind (fun v7 => lrzt v4 v7)))))))) = some q := h
  refine c_aload_n hx hb dX11_turn_0 rfl (lv_at hl 0 rfl) ?_
  refine lv_iload_n hx hb dX11_turn_1 rfl (lv_at hl 1 rfl) ?_
  obtain ⟨v1, hv1, h⟩ := ob h
  obtain ⟨v2, hv2, h⟩ := ob h
  refine c_ct (c_tV X (K_X11_sheetAt l hl9 D Φ σ v1 (x1) hv2) hv1 ⟨Nat.le_of_ble_eq_true rfl, by decide⟩ ⟨w_1287, ww_X11_sheetAt⟩ rfl hy_X11_sheetAt rfl ⟨(Nat.le_of_ble_eq_true rfl), (Nat.le_of_ble_eq_true rfl)⟩ hP hS hl.1 (Nat.le_of_ble_eq_true rfl) dX11_turn_2 rfl ⟨(Nat.le_of_ble_eq_true rfl), (Nat.le_of_ble_eq_true rfl)⟩) X hnt hS ⟨(Nat.le_of_ble_eq_true rfl), (Nat.le_of_ble_eq_true rfl)⟩ (fun k e => by have h9 := el_l e h; exact (sj h9).symm) (fun w3 H locs e hP hS => ?_)
  have h := el_r e h
  refine W.eq (g2 := F0 m 5 ls [cv Φ w3]) rfl ?_
  refine c_astore_n hx hb dX11_turn_5 rfl hl (Nat.le_of_ble_eq_true rfl) (lvKa rfl (lvKa rfl (lvKi lvK0))) rfl (fun ls (hl : lv_has ls 5 [(3, cv Φ w3), (0, cv Φ (some x0)), (1, .int x1), (2, .int x2)]) => ?_)
  refine c_aload_n hx hb dX11_turn_6 rfl (lv_at hl 0 rfl) ?_
  obtain ⟨v4, hv4, h⟩ := ob h
  refine c_gI X hP hv4 (Nat.le_of_ble_eq_true rfl) (Nat.le_of_ble_eq_true rfl) rfl w_1268 dX11_turn_7 ?_
  refine c_istore hx hb dX11_turn_10 hl (Nat.le_of_ble_eq_true rfl) (lvKr (lvKa rfl (lvKa rfl (lvKa rfl lvK0)))) rfl (fun ls (hl : lv_has ls 5 [(4, .int v4), (3, cv Φ w3), (0, cv Φ (some x0)), (1, .int x1), (2, .int x2)]) => ?_)
  refine c_aload_n hx hb dX11_turn_12 rfl (lv_at hl 1 rfl) ?_
  refine lv_iload_n hx hb dX11_turn_13 rfl (lv_at hl 4 rfl) ?_
  obtain ⟨v5, hv5, h⟩ := ob h
  refine c_pZ X hP hS hv5 (Nat.le_of_ble_eq_true rfl) (Nat.le_of_ble_eq_true rfl) rfl rfl (Or.inl rfl) w_1268 dX11_turn_14 (fun H locs hP hS => ?_)
  refine c_aload_n hx hb dX11_turn_17 rfl (lv_at hl 2 rfl) ?_
  obtain ⟨v6, hv6, h⟩ := ob h
  obtain ⟨v7, hv7, h⟩ := ob h
  refine c_cw (c_runV X (K_X11_markAll l D Φ v5 v6  hv7) hv6 ⟨Nat.le_of_ble_eq_true rfl, by decide⟩ ⟨w_830, ww_X11_markAll⟩ rfl hy_X11_markAll rfl ⟨(Nat.le_of_ble_eq_true rfl), (Nat.le_of_ble_eq_true rfl)⟩ hP hS hl.1 (Nat.le_of_ble_eq_true rfl) dX11_turn_18 rfl ⟨(Nat.le_of_ble_eq_true rfl), (Nat.le_of_ble_eq_true rfl)⟩) hS (fun H locs hP hS => ?_)
  refine W.eq (g2 := F0 m 21 ls []) rfl ?_
  refine lv_iload hx hb dX11_turn_21 (lv_at hl 0 rfl) ?_
  obtain ⟨hz, hq⟩ := lrzt_spec h
  exact c_tz X hz hP hS hq (Nat.le_of_ble_eq_true rfl) (Nat.le_of_ble_eq_true rfl) dX11_turn_23
theorem ww_X11_turn : Cond.instanceMethod yX11_turn ∈ BG ∧ Cond.selects (yX11_turn).cls yX11_turn yX11_turn ∈ BG ∧ Cond.initialized (yX11_turn).cls ∈ BG ∧ Cond.code yX11_turn cX11_turn 5 (some .boolean) ∈ BG := ⟨w_1362, w_1363, w_56, w_1364⟩
theorem hy_X11_turn : (yX11_turn).cls ≠ "java/lang/invoke/MethodHandle" ∧ (yX11_turn).cls ≠ "java/lang/invoke/VarHandle" ∧ (parseMethodDescriptor (yX11_turn).desc).map (fun d => d.parameters.length) = some 2 := ⟨by decide, by decide, by decide +kernel⟩
def f_X11_rule_30  (x0 : Nat) (x3 : Option Nat) (x4 : Option Nat) (y0 : Int32) (σ : cS) : Option ((Nat ⊕ Int32) × cS) := (f_X11_refuseState (y0) σ).bind (fun v1 => v1.1.elim (fun k => some (.inl k, v1.2)) (fun w2 => (rc v1.2 (some x0) 11).bind (fun v3 => (f_X11_markAll v3  v1.2).bind (fun v4 => (gR v4 (some x0) 11 2).bind (fun v5 => (rc v4 v5 1).bind (fun v6 => (f_X1_addRule v6 (x3) (x4) v4).bind (fun v7 => some (.inr v7.1, v7.2))))))))
def f_X11_rule (x0 : Nat) (x1 : Int32) (x2 : Int32) (σ : cS) : Option ((Nat ⊕ Int32) × cS) := (rc σ (some x0) 11).bind (fun v1 => (f_X11_sheetAt v1 (x1) σ).bind (fun v2 => v2.1.elim (fun k => some (.inl k, v2.2)) (fun w3 => (rc v2.2 (some x0) 11).bind (fun v4 => (f_X11_selectorAt v4 (x2) v2.2).bind (fun v5 => v5.1.elim (fun k => some (.inl k, v5.2)) (fun w6 => (gR v5.2 (some x0) 11 2).bind (fun v7 => (gI v5.2 v7 1 5).bind (fun v8 => if v8 < (40:Int32) then (f_X11_rule_30 x0 (w3) (w6) ((0:Int32)) v5.2) else (f_X11_rule_30 x0 (w3) (w6) ((1:Int32)) v5.2)))))))))
set_option maxRecDepth 20000 in
set_option maxHeartbeats 4000000 in
theorem N_X11_rule_30 {p : Program} {l : Launch} {e : Env} {s : State} {m : MethodId} {args : Array Value} {below : List Frame} {meth : Method} {c : Code} {D : cD} {Φ : cG} {x0 : Nat}   {x3 : Option Nat} {x4 : Option Nat} {y0 : Int32} {σ : cS} {H : Heap} {locs : List Loc} {ls : Array Slot} {q : (Nat ⊕ Int32) × cS} (X : cX p s m args meth c cX11_rule 5 (some .int) RX11 D Φ) (hl9 : l.stackTraces = false) (hnt : ∀ x ∈ c.exceptionTable.toList, False) (hP : cP D Φ σ H) (hS : va_S (cReg Φ) s.heap H locs)  (hl : lv_has ls 5 [(0, cv Φ (some x0)), (3, cv Φ x3), (4, cv Φ x4)]) (h : f_X11_rule_30  x0 x3 x4 y0 σ = some q) : cWt p l e 7 8 93 112 s m args below meth c D Φ vlI q H locs 2 12 (F0 m 30 ls [.int y0]) := by
  have hx := X.1
  have hb := X.2.1
  have hown := X.2.2.2.1
  have hts := X.2.2.2.2.1
  have h : ((f_X11_refuseState (y0) σ).bind (fun v1 => v1.1.elim (fun k => some (.inl k, v1.2)) (fun w2 => (rc v1.2 (some x0) 11).bind (fun v3 => (f_X11_markAll v3  v1.2).bind (fun v4 => (gR v4 (some x0) 11 2).bind (fun v5 => (rc v4 v5 1).bind (fun v6 => (f_X1_addRule v6 (x3) (x4) v4).bind (fun v7 => some (.inr v7.1, v7.2))))))))) = some q := h
  obtain ⟨v1, hv1, h⟩ := ob h
  refine c_ct (c_tS X (K_X11_refuseState l hl9 D Φ σ (y0) hv1) ⟨w_704, ww_X11_refuseState⟩ hy_X11_refuseState rfl ⟨(Nat.le_of_ble_eq_true rfl), (Nat.le_of_ble_eq_true rfl)⟩ hP hS hl.1 (Nat.le_of_ble_eq_true rfl) dX11_rule_30 rfl ⟨(Nat.le_of_ble_eq_true rfl), (Nat.le_of_ble_eq_true rfl)⟩) X hnt hS ⟨(Nat.le_of_ble_eq_true rfl), (Nat.le_of_ble_eq_true rfl)⟩ (fun k e => by have h9 := el_l e h; exact (sj h9).symm) (fun w2 H locs e hP hS => ?_)
  have h := el_r e h
  refine W.eq (g2 := F0 m 33 ls []) rfl ?_
  refine c_aload_n hx hb dX11_rule_33 rfl (lv_at hl 0 rfl) ?_
  obtain ⟨v3, hv3, h⟩ := ob h
  obtain ⟨v4, hv4, h⟩ := ob h
  refine c_cw (c_runV X (K_X11_markAll l D Φ v1.2 v3  hv4) hv3 ⟨Nat.le_of_ble_eq_true rfl, by decide⟩ ⟨w_830, ww_X11_markAll⟩ rfl hy_X11_markAll rfl ⟨(Nat.le_of_ble_eq_true rfl), (Nat.le_of_ble_eq_true rfl)⟩ hP hS hl.1 (Nat.le_of_ble_eq_true rfl) dX11_rule_34 rfl ⟨(Nat.le_of_ble_eq_true rfl), (Nat.le_of_ble_eq_true rfl)⟩) hS (fun H locs hP hS => ?_)
  refine W.eq (g2 := F0 m 37 ls []) rfl ?_
  refine c_aload_n hx hb dX11_rule_37 rfl (lv_at hl 0 rfl) ?_
  obtain ⟨v5, hv5, h⟩ := ob h
  refine c_gR X hP hv5 (Nat.le_of_ble_eq_true rfl) (Nat.le_of_ble_eq_true rfl) rfl w_573 dX11_rule_38 ?_
  refine c_aload_n hx hb dX11_rule_41 rfl (lv_at hl 1 rfl) ?_
  refine c_aload hx hb dX11_rule_42 (lv_at hl 2 rfl) ?_
  obtain ⟨v6, hv6, h⟩ := ob h
  obtain ⟨v7, hv7, h⟩ := ob h
  refine c_cw (c_runV X (K_X1_addRule l D Φ v4 v6 (x3) (x4) hv7) hv6 ⟨Nat.le_of_ble_eq_true rfl, by decide⟩ ⟨w_1295, ww_X1_addRule⟩ rfl hy_X1_addRule rfl ⟨(Nat.le_of_ble_eq_true rfl), (Nat.le_of_ble_eq_true rfl)⟩ hP hS hl.1 (Nat.le_of_ble_eq_true rfl) dX11_rule_44 rfl ⟨(Nat.le_of_ble_eq_true rfl), (Nat.le_of_ble_eq_true rfl)⟩) hS (fun H locs hP hS => ?_)
  refine W.eq (g2 := F0 m 47 ls [.int v7.1]) rfl ?_
  exact c_ti X hP hS (sj h).symm (Nat.le_of_ble_eq_true rfl) (Nat.le_of_ble_eq_true rfl) dX11_rule_47
set_option maxRecDepth 20000 in
set_option maxHeartbeats 4000000 in
theorem K_X11_rule (l : Launch) (hl9 : l.stackTraces = false) (D : cD) (Φ : cG) (σ : cS) (x0 : Nat) (x1 : Int32) (x2 : Int32) {q : (Nat ⊕ Int32) × cS} (h : f_X11_rule x0 x1 x2 σ = some q) : vx_Met l yX11_rule (Cond.code yX11_rule cX11_rule 5 (some .int) :: BG) (rA 7 8 93 112) (cPc D Φ σ [cv Φ (some x0), .int x1, .int x2]) (cQt vlI D Φ q) (cXC D Φ q) 8 93 (cReg Φ) := by
  refine vx_ofW (cc := cX11_rule) (maxL := 5) (ret := (some .int)) (by decide) rfl ?_
  intro p e s m args below meth c s₁ B hml hnt hv
  obtain ⟨rfl, hP, hK, hZ⟩ := hv
  have X : cX p s m [cv Φ (some x0), .int x1, .int x2].toArray meth c cX11_rule 5 (some .int) RX11 D Φ := cX_of B hml hK hZ
  have hx := X.1
  have hb := X.2.1
  have hown := X.2.2.2.1
  have hts := X.2.2.2.2.1
  have hl := lv_entry [cv Φ (some x0), .int x1, .int x2] (n := 5) (by simp only [lgs_r, lgs_i, lgs_l, lgs_0, List.length]; exact Nat.le_of_ble_eq_true rfl)
  rw [lg_entry_eq]
  generalize (lg_sl [cv Φ (some x0), .int x1, .int x2] ++ List.replicate (5 - (lg_sl [cv Φ (some x0), .int x1, .int x2]).length) Slot.unset).toArray = ls at hl ⊢
  simp only [lv_args_r, lv_args_i, lv_args_l, lv_args_0] at hl
  have hl : lv_has ls 5 [(0, cv Φ (some x0)), (1, .int x1), (2, .int x2)] := hl
  have hS : va_S (cReg Φ) s.heap s.heap [] := va_S.rf
  show cWt p l e 7 8 93 112 s m [cv Φ (some x0), .int x1, .int x2].toArray below meth c D Φ vlI q s.heap [] 0 0 (F0 m 0 ls [])
  have h : ((rc σ (some x0) 11).bind (fun v1 => (f_X11_sheetAt v1 (x1) σ).bind (fun v2 => v2.1.elim (fun k => some (.inl k, v2.2)) (fun w3 => (rc v2.2 (some x0) 11).bind (fun v4 => (f_X11_selectorAt v4 (x2) v2.2).bind (fun v5 => v5.1.elim (fun k => some (.inl k, v5.2)) (fun w6 => (gR v5.2 (some x0) 11 2).bind (fun v7 => (gI v5.2 v7 1 5).bind (fun v8 => if v8 < (40:Int32) then (f_X11_rule_30 x0 (w3) (w6) ((0:Int32)) v5.2) else (f_X11_rule_30 x0 (w3) (w6) ((1:Int32)) v5.2)))))))))) = some q := h
  refine c_aload_n hx hb dX11_rule_0 rfl (lv_at hl 0 rfl) ?_
  refine lv_iload_n hx hb dX11_rule_1 rfl (lv_at hl 1 rfl) ?_
  obtain ⟨v1, hv1, h⟩ := ob h
  obtain ⟨v2, hv2, h⟩ := ob h
  refine c_ct (c_tV X (K_X11_sheetAt l hl9 D Φ σ v1 (x1) hv2) hv1 ⟨Nat.le_of_ble_eq_true rfl, by decide⟩ ⟨w_1287, ww_X11_sheetAt⟩ rfl hy_X11_sheetAt rfl ⟨(Nat.le_of_ble_eq_true rfl), (Nat.le_of_ble_eq_true rfl)⟩ hP hS hl.1 (Nat.le_of_ble_eq_true rfl) dX11_rule_2 rfl ⟨(Nat.le_of_ble_eq_true rfl), (Nat.le_of_ble_eq_true rfl)⟩) X hnt hS ⟨(Nat.le_of_ble_eq_true rfl), (Nat.le_of_ble_eq_true rfl)⟩ (fun k e => by have h9 := el_l e h; exact (sj h9).symm) (fun w3 H locs e hP hS => ?_)
  have h := el_r e h
  refine W.eq (g2 := F0 m 5 ls [cv Φ w3]) rfl ?_
  refine c_astore_n hx hb dX11_rule_5 rfl hl (Nat.le_of_ble_eq_true rfl) (lvKa rfl (lvKa rfl (lvKi lvK0))) rfl (fun ls (hl : lv_has ls 5 [(3, cv Φ w3), (0, cv Φ (some x0)), (1, .int x1), (2, .int x2)]) => ?_)
  refine c_aload_n hx hb dX11_rule_6 rfl (lv_at hl 1 rfl) ?_
  refine lv_iload_n hx hb dX11_rule_7 rfl (lv_at hl 3 rfl) ?_
  obtain ⟨v4, hv4, h⟩ := ob h
  obtain ⟨v5, hv5, h⟩ := ob h
  refine c_ct (c_tV X (K_X11_selectorAt l hl9 D Φ v2.2 v4 (x2) hv5) hv4 ⟨Nat.le_of_ble_eq_true rfl, by decide⟩ ⟨w_1132, ww_X11_selectorAt⟩ rfl hy_X11_selectorAt rfl ⟨(Nat.le_of_ble_eq_true rfl), (Nat.le_of_ble_eq_true rfl)⟩ hP hS hl.1 (Nat.le_of_ble_eq_true rfl) dX11_rule_8 rfl ⟨(Nat.le_of_ble_eq_true rfl), (Nat.le_of_ble_eq_true rfl)⟩) X hnt hS ⟨(Nat.le_of_ble_eq_true rfl), (Nat.le_of_ble_eq_true rfl)⟩ (fun k e => by have h9 := el_l e h; exact (sj h9).symm) (fun w6 H locs e hP hS => ?_)
  have h := el_r e h
  refine W.eq (g2 := F0 m 11 ls [cv Φ w6]) rfl ?_
  refine c_astore hx hb dX11_rule_11 hl (Nat.le_of_ble_eq_true rfl) (lvKr (lvKa rfl (lvKa rfl (lvKa rfl lvK0)))) rfl (fun ls (hl : lv_has ls 5 [(4, cv Φ w6), (3, cv Φ w3), (0, cv Φ (some x0)), (1, .int x1), (2, .int x2)]) => ?_)
  refine c_aload_n hx hb dX11_rule_13 rfl (lv_at hl 2 rfl) ?_
  obtain ⟨v7, hv7, h⟩ := ob h
  refine c_gR X hP hv7 (Nat.le_of_ble_eq_true rfl) (Nat.le_of_ble_eq_true rfl) rfl w_573 dX11_rule_14 ?_
  obtain ⟨v8, hv8, h⟩ := ob h
  refine c_gI X hP hv8 (Nat.le_of_ble_eq_true rfl) (Nat.le_of_ble_eq_true rfl) rfl w_505 dX11_rule_17 ?_
  refine lv_bipush (v := (40:Int32)) hx hb dX11_rule_20 (by decide) ?_
  refine lv_icmp_lt (tgt := 29) hx hb dX11_rule_22 rfl (fun hc => ?_) (fun hc => ?_)
  · have h := ip hc h
    refine lv_iconst (v := (0:Int32)) hx hb dX11_rule_29 (by decide) ?_
    exact N_X11_rule_30 X hl9 hnt hP hS (lv_sub hl [2, 1, 0] rfl) h
  · have h := ine hc h
    refine lv_iconst (v := (1:Int32)) hx hb dX11_rule_25 (by decide) ?_
    refine lv_goto (tgt := 30) hx hb dX11_rule_26 rfl ?_
    exact N_X11_rule_30 X hl9 hnt hP hS (lv_sub hl [2, 1, 0] rfl) h
theorem ww_X11_rule : Cond.instanceMethod yX11_rule ∈ BG ∧ Cond.selects (yX11_rule).cls yX11_rule yX11_rule ∈ BG ∧ Cond.initialized (yX11_rule).cls ∈ BG ∧ Cond.code yX11_rule cX11_rule 5 (some .int) ∈ BG := ⟨w_1284, w_1285, w_56, w_1286⟩
theorem hy_X11_rule : (yX11_rule).cls ≠ "java/lang/invoke/MethodHandle" ∧ (yX11_rule).cls ≠ "java/lang/invoke/VarHandle" ∧ (parseMethodDescriptor (yX11_rule).desc).map (fun d => d.parameters.length) = some 2 := ⟨by decide, by decide, by decide +kernel⟩
