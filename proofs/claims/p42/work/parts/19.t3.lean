set_option maxRecDepth 100000 in
theorem w_1184 : Cond.methodLink "Cascadery" 408 yX1_ruleAt ∈ BG := bg_in 1184 (by decide +kernel) (by decide +kernel)
set_option maxRecDepth 100000 in
theorem w_1183 : Cond.code yX11_ruleAt cX11_ruleAt 3 (some (.object "Cascadery$Rule")) ∈ BG := bg_in 1183 (by rfl) (by decide +kernel)
set_option maxRecDepth 100000 in
theorem w_1182 : Cond.instanceMethod yX11_ruleAt ∈ BG := bg_in 1182 (by decide +kernel) (by decide +kernel)
set_option maxRecDepth 100000 in
theorem w_50 : Cond.selects "Cascadery" yX11_ruleAt yX11_ruleAt ∈ BG := bg_in 50 (by decide +kernel) (by decide +kernel)
set_option maxRecDepth 100000 in
theorem w_170 : Cond.fieldLink "Cascadery" 281 "Cascadery$Rule" "condition" "I" ∈ BG := bg_in 170 (by decide +kernel) (by decide +kernel)
set_option maxRecDepth 100000 in
theorem w_172 : Cond.fieldLink "Cascadery" 286 "Cascadery$Rule" "limit" "I" ∈ BG := bg_in 172 (by decide +kernel) (by decide +kernel)
set_option maxRecDepth 100000 in
theorem w_1311 : Cond.methodLink "Cascadery" 278 yX11_isNumber ∈ BG := bg_in 1311 (by decide +kernel) (by decide +kernel)
set_option maxRecDepth 100000 in
theorem w_1180 : Cond.methodLink "Cascadery" 274 yX11_ruleAt ∈ BG := bg_in 1180 (by decide +kernel) (by decide +kernel)
set_option maxRecDepth 100000 in
theorem w_1360 : Cond.code yX11_when cX11_when 5 none ∈ BG := bg_in 1360 (by rfl) (by decide +kernel)
set_option maxRecDepth 100000 in
theorem w_1358 : Cond.instanceMethod yX11_when ∈ BG := bg_in 1358 (by decide +kernel) (by decide +kernel)
set_option maxRecDepth 100000 in
theorem w_1359 : Cond.selects "Cascadery" yX11_when yX11_when ∈ BG := bg_in 1359 (by decide +kernel) (by decide +kernel)
set_option maxRecDepth 100000 in
theorem w_280 : Cond.fieldLink "Cascadery" 409 "Cascadery$Element" "own" "LCascadery$Rule;" ∈ BG := bg_in 280 (by decide +kernel) (by decide +kernel)
set_option maxRecDepth 100000 in
theorem w_1310 : Cond.code yX11_blockAt cX11_blockAt 2 (some (.object "Cascadery$Rule")) ∈ BG := bg_in 1310 (by rfl) (by decide +kernel)
set_option maxRecDepth 100000 in
theorem w_1309 : Cond.instanceMethod yX11_blockAt ∈ BG := bg_in 1309 (by decide +kernel) (by decide +kernel)
set_option maxRecDepth 100000 in
theorem w_53 : Cond.selects "Cascadery" yX11_blockAt yX11_blockAt ∈ BG := bg_in 53 (by decide +kernel) (by decide +kernel)
set_option maxRecDepth 100000 in
theorem w_1321 : Cond.methodLink "Cascadery" 301 yX6_enter ∈ BG := bg_in 1321 (by decide +kernel) (by decide +kernel)
set_option maxRecDepth 100000 in
theorem w_1318 : Cond.methodLink "Cascadery" 298 yX11_lastOf ∈ BG := bg_in 1318 (by decide +kernel) (by decide +kernel)
set_option maxRecDepth 100000 in
theorem w_1326 : Cond.methodLink "Cascadery" 305 yX11_markDeclaration ∈ BG := bg_in 1326 (by decide +kernel) (by decide +kernel)
set_option maxRecDepth 100000 in
theorem w_1330 : Cond.methodLink "Cascadery" 308 yX6_countDeclared ∈ BG := bg_in 1330 (by decide +kernel) (by decide +kernel)
set_option maxRecDepth 100000 in
theorem w_1314 : Cond.methodLink "Cascadery" 292 yX11_firstOf ∈ BG := bg_in 1314 (by decide +kernel) (by decide +kernel)
set_option maxRecDepth 100000 in
theorem w_1317 : Cond.methodLink "Cascadery" 295 yX11_suits ∈ BG := bg_in 1317 (by decide +kernel) (by decide +kernel)
set_option maxRecDepth 100000 in
theorem w_1307 : Cond.methodLink "Cascadery" 289 yX11_blockAt ∈ BG := bg_in 1307 (by decide +kernel) (by decide +kernel)
set_option maxRecDepth 100000 in
theorem w_1306 : Cond.code yX11_declare cX11_declare 8 (some .int) ∈ BG := bg_in 1306 (by rfl) (by decide +kernel)
set_option maxRecDepth 100000 in
theorem w_1304 : Cond.instanceMethod yX11_declare ∈ BG := bg_in 1304 (by decide +kernel) (by decide +kernel)
set_option maxRecDepth 100000 in
theorem w_1305 : Cond.selects "Cascadery" yX11_declare yX11_declare ∈ BG := bg_in 1305 (by decide +kernel) (by decide +kernel)
set_option maxRecDepth 100000 in
theorem w_1350 : Cond.methodLink "Cascadery" 311 yX6_enterVariable ∈ BG := bg_in 1350 (by decide +kernel) (by decide +kernel)
set_option maxRecDepth 100000 in
theorem w_1349 : Cond.code yX11_declareVar cX11_declareVar 9 (some .int) ∈ BG := bg_in 1349 (by rfl) (by decide +kernel)
set_option maxRecDepth 100000 in
theorem w_1347 : Cond.instanceMethod yX11_declareVar ∈ BG := bg_in 1347 (by decide +kernel) (by decide +kernel)
set_option maxRecDepth 100000 in
theorem w_1348 : Cond.selects "Cascadery" yX11_declareVar yX11_declareVar ∈ BG := bg_in 1348 (by decide +kernel) (by decide +kernel)
set_option maxRecDepth 100000 in
theorem w_1368 : Cond.code yX11_setWidth cX11_setWidth 3 (some .int) ∈ BG := bg_in 1368 (by rfl) (by decide +kernel)
set_option maxRecDepth 100000 in
theorem w_1366 : Cond.instanceMethod yX11_setWidth ∈ BG := bg_in 1366 (by decide +kernel) (by decide +kernel)
set_option maxRecDepth 100000 in
theorem w_1367 : Cond.selects "Cascadery" yX11_setWidth yX11_setWidth ∈ BG := bg_in 1367 (by decide +kernel) (by decide +kernel)
set_option maxRecDepth 100000 in
theorem w_901 : Cond.methodLink "Cascadery" 321 yX11_read ∈ BG := bg_in 901 (by decide +kernel) (by decide +kernel)
set_option maxRecDepth 100000 in
theorem w_896 : Cond.code yX11_value cX11_value 4 (some .int) ∈ BG := bg_in 896 (by rfl) (by decide +kernel)
set_option maxRecDepth 100000 in
theorem w_894 : Cond.instanceMethod yX11_value ∈ BG := bg_in 894 (by decide +kernel) (by decide +kernel)
set_option maxRecDepth 100000 in
theorem w_895 : Cond.selects "Cascadery" yX11_value yX11_value ∈ BG := bg_in 895 (by decide +kernel) (by decide +kernel)
set_option maxRecDepth 100000 in
theorem w_1175 : Cond.code yX11_size cX11_size 3 (some .int) ∈ BG := bg_in 1175 (by rfl) (by decide +kernel)
set_option maxRecDepth 100000 in
theorem w_1173 : Cond.instanceMethod yX11_size ∈ BG := bg_in 1173 (by decide +kernel) (by decide +kernel)
set_option maxRecDepth 100000 in
theorem w_1174 : Cond.selects "Cascadery" yX11_size yX11_size ∈ BG := bg_in 1174 (by decide +kernel) (by decide +kernel)
set_option maxRecDepth 100000 in
theorem w_1171 : Cond.methodLink "Cascadery" 341 yX9_seenAt ∈ BG := bg_in 1171 (by decide +kernel) (by decide +kernel)
set_option maxRecDepth 100000 in
theorem w_1170 : Cond.code yX11_seen cX11_seen 4 (some .int) ∈ BG := bg_in 1170 (by rfl) (by decide +kernel)
set_option maxRecDepth 100000 in
theorem w_1168 : Cond.instanceMethod yX11_seen ∈ BG := bg_in 1168 (by decide +kernel) (by decide +kernel)
set_option maxRecDepth 100000 in
theorem w_1169 : Cond.selects "Cascadery" yX11_seen yX11_seen ∈ BG := bg_in 1169 (by decide +kernel) (by decide +kernel)
set_option maxRecDepth 100000 in
theorem w_1188 : Cond.methodLink "Cascadery" 355 yX1_reason ∈ BG := bg_in 1188 (by decide +kernel) (by decide +kernel)
set_option maxRecDepth 100000 in
theorem w_1179 : Cond.code yX11_why cX11_why 6 (some .int) ∈ BG := bg_in 1179 (by rfl) (by decide +kernel)
set_option maxRecDepth 100000 in
theorem w_1177 : Cond.instanceMethod yX11_why ∈ BG := bg_in 1177 (by decide +kernel) (by decide +kernel)
set_option maxRecDepth 100000 in
theorem w_1178 : Cond.selects "Cascadery" yX11_why yX11_why ∈ BG := bg_in 1178 (by decide +kernel) (by decide +kernel)
set_option maxRecDepth 100000 in
theorem w_1124 : Cond.methodLink "Cascadery" 359 yX11_findAnew ∈ BG := bg_in 1124 (by decide +kernel) (by decide +kernel)
set_option maxRecDepth 100000 in
theorem w_1123 : Cond.code yX11_valueAnew cX11_valueAnew 4 (some .int) ∈ BG := bg_in 1123 (by rfl) (by decide +kernel)
set_option maxRecDepth 100000 in
theorem w_1121 : Cond.instanceMethod yX11_valueAnew ∈ BG := bg_in 1121 (by decide +kernel) (by decide +kernel)
set_option maxRecDepth 100000 in
theorem w_1122 : Cond.selects "Cascadery" yX11_valueAnew yX11_valueAnew ∈ BG := bg_in 1122 (by decide +kernel) (by decide +kernel)
theorem dX11_ruleAt_0 : decode cX11_ruleAt 0 = .ok (.aload_n 0, 1) := by decide +kernel
theorem dX11_ruleAt_1 : decode cX11_ruleAt 1 = .ok (.getfield 56, 3) := by decide +kernel
theorem dX11_ruleAt_4 : decode cX11_ruleAt 4 = .ok (.iload_n 1, 1) := by decide +kernel
theorem dX11_ruleAt_5 : decode cX11_ruleAt 5 = .ok (.invokevirtual 408, 3) := by decide +kernel
theorem dX11_ruleAt_8 : decode cX11_ruleAt 8 = .ok (.astore_n 2, 1) := by decide +kernel
theorem dX11_ruleAt_9 : decode cX11_ruleAt 9 = .ok (.aload_n 2, 1) := by decide +kernel
theorem dX11_ruleAt_10 : decode cX11_ruleAt 10 = .ok (.ifnonnull 11, 3) := by decide +kernel
theorem dX11_ruleAt_13 : decode cX11_ruleAt 13 = .ok (.new 206, 3) := by decide +kernel
theorem dX11_ruleAt_16 : decode cX11_ruleAt 16 = .ok (.dup, 1) := by decide +kernel
theorem dX11_ruleAt_17 : decode cX11_ruleAt 17 = .ok (.invokespecial 208, 3) := by decide +kernel
theorem dX11_ruleAt_20 : decode cX11_ruleAt 20 = .ok (.athrow, 1) := by decide +kernel
theorem dX11_ruleAt_21 : decode cX11_ruleAt 21 = .ok (.aload_n 2, 1) := by decide +kernel
theorem dX11_ruleAt_22 : decode cX11_ruleAt 22 = .ok (.areturn, 1) := by decide +kernel
theorem dX11_when_0 : decode cX11_when 0 = .ok (.aload_n 0, 1) := by decide +kernel
theorem dX11_when_1 : decode cX11_when 1 = .ok (.iload_n 1, 1) := by decide +kernel
theorem dX11_when_2 : decode cX11_when 2 = .ok (.invokevirtual 274, 3) := by decide +kernel
theorem dX11_when_5 : decode cX11_when 5 = .ok (.astore 4, 2) := by decide +kernel
theorem dX11_when_7 : decode cX11_when 7 = .ok (.iload_n 2, 1) := by decide +kernel
theorem dX11_when_8 : decode cX11_when 8 = .ok (.iconst (-1), 1) := by decide +kernel
theorem dX11_when_9 : decode cX11_when 9 = .ok (.if_icmp .eq 11, 3) := by decide +kernel
theorem dX11_when_12 : decode cX11_when 12 = .ok (.iload_n 2, 1) := by decide +kernel
theorem dX11_when_13 : decode cX11_when 13 = .ok (.iconst 5, 1) := by decide +kernel
theorem dX11_when_14 : decode cX11_when 14 = .ok (.invokestatic 61, 3) := by decide +kernel
theorem dX11_when_17 : decode cX11_when 17 = .ok (.ifCond .eq 10, 3) := by decide +kernel
theorem dX11_when_20 : decode cX11_when 20 = .ok (.iload_n 3, 1) := by decide +kernel
theorem dX11_when_21 : decode cX11_when 21 = .ok (.invokestatic 278, 3) := by decide +kernel
theorem dX11_when_24 : decode cX11_when 24 = .ok (.ifCond .ne 7, 3) := by decide +kernel
theorem dX11_when_27 : decode cX11_when 27 = .ok (.iconst 1, 1) := by decide +kernel
theorem dX11_when_28 : decode cX11_when 28 = .ok (.goto 4, 3) := by decide +kernel
theorem dX11_when_31 : decode cX11_when 31 = .ok (.iconst 0, 1) := by decide +kernel
theorem dX11_when_32 : decode cX11_when 32 = .ok (.invokestatic 65, 3) := by decide +kernel
theorem dX11_when_35 : decode cX11_when 35 = .ok (.aload 4, 2) := by decide +kernel
theorem dX11_when_37 : decode cX11_when 37 = .ok (.iload_n 2, 1) := by decide +kernel
theorem dX11_when_38 : decode cX11_when 38 = .ok (.putfield 281, 3) := by decide +kernel
theorem dX11_when_41 : decode cX11_when 41 = .ok (.aload 4, 2) := by decide +kernel
theorem dX11_when_43 : decode cX11_when 43 = .ok (.iload_n 3, 1) := by decide +kernel
theorem dX11_when_44 : decode cX11_when 44 = .ok (.putfield 286, 3) := by decide +kernel
theorem dX11_when_47 : decode cX11_when 47 = .ok (.aload_n 0, 1) := by decide +kernel
theorem dX11_when_48 : decode cX11_when 48 = .ok (.invokevirtual 93, 3) := by decide +kernel
theorem dX11_when_51 : decode cX11_when 51 = .ok (.return_, 1) := by decide +kernel
theorem dX11_blockAt_0 : decode cX11_blockAt 0 = .ok (.iload_n 1, 1) := by decide +kernel
theorem dX11_blockAt_1 : decode cX11_blockAt 1 = .ok (.bipush 100, 2) := by decide +kernel
theorem dX11_blockAt_3 : decode cX11_blockAt 3 = .ok (.if_icmp .ge 11, 3) := by decide +kernel
theorem dX11_blockAt_6 : decode cX11_blockAt 6 = .ok (.aload_n 0, 1) := by decide +kernel
theorem dX11_blockAt_7 : decode cX11_blockAt 7 = .ok (.iload_n 1, 1) := by decide +kernel
theorem dX11_blockAt_8 : decode cX11_blockAt 8 = .ok (.invokevirtual 274, 3) := by decide +kernel
theorem dX11_blockAt_11 : decode cX11_blockAt 11 = .ok (.goto 14, 3) := by decide +kernel
theorem dX11_blockAt_14 : decode cX11_blockAt 14 = .ok (.aload_n 0, 1) := by decide +kernel
theorem dX11_blockAt_15 : decode cX11_blockAt 15 = .ok (.iload_n 1, 1) := by decide +kernel
theorem dX11_blockAt_16 : decode cX11_blockAt 16 = .ok (.bipush 100, 2) := by decide +kernel
theorem dX11_blockAt_18 : decode cX11_blockAt 18 = .ok (.isub, 1) := by decide +kernel
theorem dX11_blockAt_19 : decode cX11_blockAt 19 = .ok (.invokevirtual 80, 3) := by decide +kernel
theorem dX11_blockAt_22 : decode cX11_blockAt 22 = .ok (.getfield 409, 3) := by decide +kernel
theorem dX11_blockAt_25 : decode cX11_blockAt 25 = .ok (.areturn, 1) := by decide +kernel
theorem dX11_declare_0 : decode cX11_declare 0 = .ok (.aload_n 0, 1) := by decide +kernel
theorem dX11_declare_1 : decode cX11_declare 1 = .ok (.iload_n 1, 1) := by decide +kernel
theorem dX11_declare_2 : decode cX11_declare 2 = .ok (.invokevirtual 289, 3) := by decide +kernel
theorem dX11_declare_5 : decode cX11_declare 5 = .ok (.astore 6, 2) := by decide +kernel
theorem dX11_declare_7 : decode cX11_declare 7 = .ok (.iload_n 2, 1) := by decide +kernel
theorem dX11_declare_8 : decode cX11_declare 8 = .ok (.bipush 16, 2) := by decide +kernel
theorem dX11_declare_10 : decode cX11_declare 10 = .ok (.invokestatic 61, 3) := by decide +kernel
theorem dX11_declare_13 : decode cX11_declare 13 = .ok (.ifCond .eq 37, 3) := by decide +kernel
theorem dX11_declare_16 : decode cX11_declare 16 = .ok (.iload_n 3, 1) := by decide +kernel
theorem dX11_declare_17 : decode cX11_declare 17 = .ok (.bipush 11, 2) := by decide +kernel
theorem dX11_declare_19 : decode cX11_declare 19 = .ok (.invokestatic 61, 3) := by decide +kernel
theorem dX11_declare_22 : decode cX11_declare 22 = .ok (.ifCond .eq 28, 3) := by decide +kernel
theorem dX11_declare_25 : decode cX11_declare 25 = .ok (.iload_n 3, 1) := by decide +kernel
theorem dX11_declare_26 : decode cX11_declare 26 = .ok (.bipush 6, 2) := by decide +kernel
theorem dX11_declare_28 : decode cX11_declare 28 = .ok (.if_icmp .ge 11, 3) := by decide +kernel
theorem dX11_declare_31 : decode cX11_declare 31 = .ok (.iload 4, 2) := by decide +kernel
theorem dX11_declare_33 : decode cX11_declare 33 = .ok (.invokestatic 278, 3) := by decide +kernel
theorem dX11_declare_36 : decode cX11_declare 36 = .ok (.ifCond .eq 14, 3) := by decide +kernel
theorem dX11_declare_39 : decode cX11_declare 39 = .ok (.iload_n 2, 1) := by decide +kernel
theorem dX11_declare_40 : decode cX11_declare 40 = .ok (.invokestatic 292, 3) := by decide +kernel
theorem dX11_declare_43 : decode cX11_declare 43 = .ok (.iload_n 3, 1) := by decide +kernel
theorem dX11_declare_44 : decode cX11_declare 44 = .ok (.invokestatic 295, 3) := by decide +kernel
theorem dX11_declare_47 : decode cX11_declare 47 = .ok (.ifCond .ne 7, 3) := by decide +kernel
theorem dX11_declare_50 : decode cX11_declare 50 = .ok (.iconst 1, 1) := by decide +kernel
theorem dX11_declare_51 : decode cX11_declare 51 = .ok (.goto 4, 3) := by decide +kernel
theorem dX11_declare_54 : decode cX11_declare 54 = .ok (.iconst 0, 1) := by decide +kernel
theorem dX11_declare_55 : decode cX11_declare 55 = .ok (.invokestatic 65, 3) := by decide +kernel
theorem dX11_declare_58 : decode cX11_declare 58 = .ok (.iload_n 2, 1) := by decide +kernel
theorem dX11_declare_59 : decode cX11_declare 59 = .ok (.invokestatic 292, 3) := by decide +kernel
theorem dX11_declare_62 : decode cX11_declare 62 = .ok (.istore 7, 2) := by decide +kernel
theorem dX11_declare_64 : decode cX11_declare 64 = .ok (.iload 7, 2) := by decide +kernel
theorem dX11_declare_66 : decode cX11_declare 66 = .ok (.iload_n 2, 1) := by decide +kernel
theorem dX11_declare_67 : decode cX11_declare 67 = .ok (.invokestatic 298, 3) := by decide +kernel
theorem dX11_declare_70 : decode cX11_declare 70 = .ok (.if_icmp .gt 31, 3) := by decide +kernel
theorem dX11_declare_73 : decode cX11_declare 73 = .ok (.aload 6, 2) := by decide +kernel
theorem dX11_declare_75 : decode cX11_declare 75 = .ok (.iload 7, 2) := by decide +kernel
theorem dX11_declare_77 : decode cX11_declare 77 = .ok (.iload_n 3, 1) := by decide +kernel
theorem dX11_declare_78 : decode cX11_declare 78 = .ok (.iload_n 3, 1) := by decide +kernel
theorem dX11_declare_79 : decode cX11_declare 79 = .ok (.bipush 6, 2) := by decide +kernel
theorem dX11_declare_81 : decode cX11_declare 81 = .ok (.if_icmp .ge 8, 3) := by decide +kernel
theorem dX11_declare_84 : decode cX11_declare 84 = .ok (.iload 4, 2) := by decide +kernel
theorem dX11_declare_86 : decode cX11_declare 86 = .ok (.goto 4, 3) := by decide +kernel
theorem dX11_declare_89 : decode cX11_declare 89 = .ok (.iconst 0, 1) := by decide +kernel
theorem dX11_declare_90 : decode cX11_declare 90 = .ok (.iload 5, 2) := by decide +kernel
theorem dX11_declare_92 : decode cX11_declare 92 = .ok (.invokevirtual 301, 3) := by decide +kernel
theorem dX11_declare_95 : decode cX11_declare 95 = .ok (.iinc 7 1, 3) := by decide +kernel
theorem dX11_declare_98 : decode cX11_declare 98 = .ok (.goto (-34), 3) := by decide +kernel
theorem dX11_declare_101 : decode cX11_declare 101 = .ok (.aload_n 0, 1) := by decide +kernel
theorem dX11_declare_102 : decode cX11_declare 102 = .ok (.iload_n 1, 1) := by decide +kernel
theorem dX11_declare_103 : decode cX11_declare 103 = .ok (.invokevirtual 305, 3) := by decide +kernel
theorem dX11_declare_106 : decode cX11_declare 106 = .ok (.aload 6, 2) := by decide +kernel
theorem dX11_declare_108 : decode cX11_declare 108 = .ok (.invokevirtual 308, 3) := by decide +kernel
theorem dX11_declare_111 : decode cX11_declare 111 = .ok (.ireturn, 1) := by decide +kernel
theorem dX11_declareVar_0 : decode cX11_declareVar 0 = .ok (.aload_n 0, 1) := by decide +kernel
theorem dX11_declareVar_1 : decode cX11_declareVar 1 = .ok (.iload_n 1, 1) := by decide +kernel
theorem dX11_declareVar_2 : decode cX11_declareVar 2 = .ok (.invokevirtual 289, 3) := by decide +kernel
theorem dX11_declareVar_5 : decode cX11_declareVar 5 = .ok (.astore 7, 2) := by decide +kernel
theorem dX11_declareVar_7 : decode cX11_declareVar 7 = .ok (.iload_n 2, 1) := by decide +kernel
theorem dX11_declareVar_8 : decode cX11_declareVar 8 = .ok (.bipush 16, 2) := by decide +kernel
theorem dX11_declareVar_10 : decode cX11_declareVar 10 = .ok (.invokestatic 61, 3) := by decide +kernel
theorem dX11_declareVar_13 : decode cX11_declareVar 13 = .ok (.ifCond .eq 39, 3) := by decide +kernel
theorem dX11_declareVar_16 : decode cX11_declareVar 16 = .ok (.iload_n 3, 1) := by decide +kernel
theorem dX11_declareVar_17 : decode cX11_declareVar 17 = .ok (.bipush 12, 2) := by decide +kernel
theorem dX11_declareVar_19 : decode cX11_declareVar 19 = .ok (.if_icmp .lt 33, 3) := by decide +kernel
theorem dX11_declareVar_22 : decode cX11_declareVar 22 = .ok (.iload_n 3, 1) := by decide +kernel
theorem dX11_declareVar_23 : decode cX11_declareVar 23 = .ok (.bipush 15, 2) := by decide +kernel
theorem dX11_declareVar_25 : decode cX11_declareVar 25 = .ok (.if_icmp .ge 27, 3) := by decide +kernel
theorem dX11_declareVar_28 : decode cX11_declareVar 28 = .ok (.iload 4, 2) := by decide +kernel
theorem dX11_declareVar_30 : decode cX11_declareVar 30 = .ok (.iconst (-1), 1) := by decide +kernel
theorem dX11_declareVar_31 : decode cX11_declareVar 31 = .ok (.if_icmp .eq 13, 3) := by decide +kernel
theorem dX11_declareVar_34 : decode cX11_declareVar 34 = .ok (.iload 4, 2) := by decide +kernel
theorem dX11_declareVar_36 : decode cX11_declareVar 36 = .ok (.bipush 7, 2) := by decide +kernel
theorem dX11_declareVar_38 : decode cX11_declareVar 38 = .ok (.invokestatic 61, 3) := by decide +kernel
theorem dX11_declareVar_41 : decode cX11_declareVar 41 = .ok (.ifCond .eq 11, 3) := by decide +kernel
theorem dX11_declareVar_44 : decode cX11_declareVar 44 = .ok (.iload 5, 2) := by decide +kernel
theorem dX11_declareVar_46 : decode cX11_declareVar 46 = .ok (.invokestatic 278, 3) := by decide +kernel
theorem dX11_declareVar_49 : decode cX11_declareVar 49 = .ok (.ifCond .ne 7, 3) := by decide +kernel
theorem dX11_declareVar_52 : decode cX11_declareVar 52 = .ok (.iconst 1, 1) := by decide +kernel
theorem dX11_declareVar_53 : decode cX11_declareVar 53 = .ok (.goto 4, 3) := by decide +kernel
theorem dX11_declareVar_56 : decode cX11_declareVar 56 = .ok (.iconst 0, 1) := by decide +kernel
theorem dX11_declareVar_57 : decode cX11_declareVar 57 = .ok (.invokestatic 65, 3) := by decide +kernel
theorem dX11_declareVar_60 : decode cX11_declareVar 60 = .ok (.iload_n 2, 1) := by decide +kernel
theorem dX11_declareVar_61 : decode cX11_declareVar 61 = .ok (.invokestatic 292, 3) := by decide +kernel
theorem dX11_declareVar_64 : decode cX11_declareVar 64 = .ok (.istore 8, 2) := by decide +kernel
theorem dX11_declareVar_66 : decode cX11_declareVar 66 = .ok (.iload 8, 2) := by decide +kernel
theorem dX11_declareVar_68 : decode cX11_declareVar 68 = .ok (.iload_n 2, 1) := by decide +kernel
theorem dX11_declareVar_69 : decode cX11_declareVar 69 = .ok (.invokestatic 298, 3) := by decide +kernel
theorem dX11_declareVar_72 : decode cX11_declareVar 72 = .ok (.if_icmp .gt 43, 3) := by decide +kernel
theorem dX11_declareVar_75 : decode cX11_declareVar 75 = .ok (.aload 7, 2) := by decide +kernel
theorem dX11_declareVar_77 : decode cX11_declareVar 77 = .ok (.iload 8, 2) := by decide +kernel
theorem dX11_declareVar_79 : decode cX11_declareVar 79 = .ok (.bipush 11, 2) := by decide +kernel
theorem dX11_declareVar_81 : decode cX11_declareVar 81 = .ok (.iload 4, 2) := by decide +kernel
theorem dX11_declareVar_83 : decode cX11_declareVar 83 = .ok (.bipush 6, 2) := by decide +kernel
theorem dX11_declareVar_85 : decode cX11_declareVar 85 = .ok (.if_icmp .ge 8, 3) := by decide +kernel
theorem dX11_declareVar_88 : decode cX11_declareVar 88 = .ok (.iload 5, 2) := by decide +kernel
theorem dX11_declareVar_90 : decode cX11_declareVar 90 = .ok (.goto 4, 3) := by decide +kernel
theorem dX11_declareVar_93 : decode cX11_declareVar 93 = .ok (.iconst 0, 1) := by decide +kernel
theorem dX11_declareVar_94 : decode cX11_declareVar 94 = .ok (.iload 6, 2) := by decide +kernel
theorem dX11_declareVar_96 : decode cX11_declareVar 96 = .ok (.invokevirtual 301, 3) := by decide +kernel
theorem dX11_declareVar_99 : decode cX11_declareVar 99 = .ok (.aload 7, 2) := by decide +kernel
theorem dX11_declareVar_101 : decode cX11_declareVar 101 = .ok (.iload 8, 2) := by decide +kernel
theorem dX11_declareVar_103 : decode cX11_declareVar 103 = .ok (.iload_n 3, 1) := by decide +kernel
theorem dX11_declareVar_104 : decode cX11_declareVar 104 = .ok (.iload 4, 2) := by decide +kernel
theorem dX11_declareVar_106 : decode cX11_declareVar 106 = .ok (.invokevirtual 311, 3) := by decide +kernel
theorem dX11_declareVar_109 : decode cX11_declareVar 109 = .ok (.iinc 8 1, 3) := by decide +kernel
theorem dX11_declareVar_112 : decode cX11_declareVar 112 = .ok (.goto (-46), 3) := by decide +kernel
theorem dX11_declareVar_115 : decode cX11_declareVar 115 = .ok (.aload_n 0, 1) := by decide +kernel
theorem dX11_declareVar_116 : decode cX11_declareVar 116 = .ok (.iload_n 1, 1) := by decide +kernel
theorem dX11_declareVar_117 : decode cX11_declareVar 117 = .ok (.invokevirtual 305, 3) := by decide +kernel
theorem dX11_declareVar_120 : decode cX11_declareVar 120 = .ok (.aload 7, 2) := by decide +kernel
theorem dX11_declareVar_122 : decode cX11_declareVar 122 = .ok (.invokevirtual 308, 3) := by decide +kernel
theorem dX11_declareVar_125 : decode cX11_declareVar 125 = .ok (.ireturn, 1) := by decide +kernel
theorem dX11_setWidth_0 : decode cX11_setWidth 0 = .ok (.iload_n 1, 1) := by decide +kernel
theorem dX11_setWidth_1 : decode cX11_setWidth 1 = .ok (.sipush 10000, 3) := by decide +kernel
theorem dX11_setWidth_4 : decode cX11_setWidth 4 = .ok (.invokestatic 61, 3) := by decide +kernel
theorem dX11_setWidth_7 : decode cX11_setWidth 7 = .ok (.ifCond .ne 7, 3) := by decide +kernel
theorem dX11_setWidth_10 : decode cX11_setWidth 10 = .ok (.iconst 1, 1) := by decide +kernel
theorem dX11_setWidth_11 : decode cX11_setWidth 11 = .ok (.goto 4, 3) := by decide +kernel
theorem dX11_setWidth_14 : decode cX11_setWidth 14 = .ok (.iconst 0, 1) := by decide +kernel
theorem dX11_setWidth_15 : decode cX11_setWidth 15 = .ok (.invokestatic 65, 3) := by decide +kernel
theorem dX11_setWidth_18 : decode cX11_setWidth 18 = .ok (.aload_n 0, 1) := by decide +kernel
theorem dX11_setWidth_19 : decode cX11_setWidth 19 = .ok (.getfield 56, 3) := by decide +kernel
theorem dX11_setWidth_22 : decode cX11_setWidth 22 = .ok (.getfield 318, 3) := by decide +kernel
theorem dX11_setWidth_25 : decode cX11_setWidth 25 = .ok (.istore_n 2, 1) := by decide +kernel
theorem dX11_setWidth_26 : decode cX11_setWidth 26 = .ok (.aload_n 0, 1) := by decide +kernel
theorem dX11_setWidth_27 : decode cX11_setWidth 27 = .ok (.getfield 56, 3) := by decide +kernel
theorem dX11_setWidth_30 : decode cX11_setWidth 30 = .ok (.iload_n 1, 1) := by decide +kernel
theorem dX11_setWidth_31 : decode cX11_setWidth 31 = .ok (.putfield 318, 3) := by decide +kernel
theorem dX11_setWidth_34 : decode cX11_setWidth 34 = .ok (.aload_n 0, 1) := by decide +kernel
theorem dX11_setWidth_35 : decode cX11_setWidth 35 = .ok (.invokevirtual 93, 3) := by decide +kernel
theorem dX11_setWidth_38 : decode cX11_setWidth 38 = .ok (.iload_n 2, 1) := by decide +kernel
theorem dX11_setWidth_39 : decode cX11_setWidth 39 = .ok (.ireturn, 1) := by decide +kernel
theorem dX11_value_0 : decode cX11_value 0 = .ok (.aload_n 0, 1) := by decide +kernel
theorem dX11_value_1 : decode cX11_value 1 = .ok (.iload_n 1, 1) := by decide +kernel
theorem dX11_value_2 : decode cX11_value 2 = .ok (.invokevirtual 80, 3) := by decide +kernel
theorem dX11_value_5 : decode cX11_value 5 = .ok (.astore_n 3, 1) := by decide +kernel
theorem dX11_value_6 : decode cX11_value 6 = .ok (.iload_n 2, 1) := by decide +kernel
theorem dX11_value_7 : decode cX11_value 7 = .ok (.bipush 15, 2) := by decide +kernel
theorem dX11_value_9 : decode cX11_value 9 = .ok (.invokestatic 61, 3) := by decide +kernel
theorem dX11_value_12 : decode cX11_value 12 = .ok (.ifCond .ne 7, 3) := by decide +kernel
theorem dX11_value_15 : decode cX11_value 15 = .ok (.iconst 1, 1) := by decide +kernel
theorem dX11_value_16 : decode cX11_value 16 = .ok (.goto 4, 3) := by decide +kernel
theorem dX11_value_19 : decode cX11_value 19 = .ok (.iconst 0, 1) := by decide +kernel
theorem dX11_value_20 : decode cX11_value 20 = .ok (.invokestatic 65, 3) := by decide +kernel
theorem dX11_value_23 : decode cX11_value 23 = .ok (.aload_n 0, 1) := by decide +kernel
theorem dX11_value_24 : decode cX11_value 24 = .ok (.getfield 48, 3) := by decide +kernel
theorem dX11_value_27 : decode cX11_value 27 = .ok (.aload_n 3, 1) := by decide +kernel
theorem dX11_value_28 : decode cX11_value 28 = .ok (.invokevirtual 187, 3) := by decide +kernel
theorem dX11_value_31 : decode cX11_value 31 = .ok (.ifCond .ne 7, 3) := by decide +kernel
theorem dX11_value_34 : decode cX11_value 34 = .ok (.iconst 1, 1) := by decide +kernel
theorem dX11_value_35 : decode cX11_value 35 = .ok (.goto 4, 3) := by decide +kernel
theorem dX11_value_38 : decode cX11_value 38 = .ok (.iconst 0, 1) := by decide +kernel
theorem dX11_value_39 : decode cX11_value 39 = .ok (.invokestatic 73, 3) := by decide +kernel
theorem dX11_value_42 : decode cX11_value 42 = .ok (.aload_n 0, 1) := by decide +kernel
theorem dX11_value_43 : decode cX11_value 43 = .ok (.invokevirtual 321, 3) := by decide +kernel
theorem dX11_value_46 : decode cX11_value 46 = .ok (.aload_n 3, 1) := by decide +kernel
theorem dX11_value_47 : decode cX11_value 47 = .ok (.getfield 324, 3) := by decide +kernel
theorem dX11_value_50 : decode cX11_value 50 = .ok (.getfield 327, 3) := by decide +kernel
theorem dX11_value_53 : decode cX11_value 53 = .ok (.iload_n 2, 1) := by decide +kernel
theorem dX11_value_54 : decode cX11_value 54 = .ok (.iaload, 1) := by decide +kernel
theorem dX11_value_55 : decode cX11_value 55 = .ok (.ireturn, 1) := by decide +kernel
theorem dX11_size_0 : decode cX11_size 0 = .ok (.aload_n 0, 1) := by decide +kernel
theorem dX11_size_1 : decode cX11_size 1 = .ok (.iload_n 1, 1) := by decide +kernel
theorem dX11_size_2 : decode cX11_size 2 = .ok (.invokevirtual 80, 3) := by decide +kernel
theorem dX11_size_5 : decode cX11_size 5 = .ok (.astore_n 2, 1) := by decide +kernel
theorem dX11_size_6 : decode cX11_size 6 = .ok (.aload_n 0, 1) := by decide +kernel
theorem dX11_size_7 : decode cX11_size 7 = .ok (.getfield 48, 3) := by decide +kernel
theorem dX11_size_10 : decode cX11_size 10 = .ok (.aload_n 2, 1) := by decide +kernel
theorem dX11_size_11 : decode cX11_size 11 = .ok (.invokevirtual 187, 3) := by decide +kernel
theorem dX11_size_14 : decode cX11_size 14 = .ok (.ifCond .ne 7, 3) := by decide +kernel
theorem dX11_size_17 : decode cX11_size 17 = .ok (.iconst 1, 1) := by decide +kernel
theorem dX11_size_18 : decode cX11_size 18 = .ok (.goto 4, 3) := by decide +kernel
theorem dX11_size_21 : decode cX11_size 21 = .ok (.iconst 0, 1) := by decide +kernel
theorem dX11_size_22 : decode cX11_size 22 = .ok (.invokestatic 73, 3) := by decide +kernel
theorem dX11_size_25 : decode cX11_size 25 = .ok (.aload_n 0, 1) := by decide +kernel
theorem dX11_size_26 : decode cX11_size 26 = .ok (.invokevirtual 321, 3) := by decide +kernel
theorem dX11_size_29 : decode cX11_size 29 = .ok (.aload_n 2, 1) := by decide +kernel
theorem dX11_size_30 : decode cX11_size 30 = .ok (.getfield 324, 3) := by decide +kernel
theorem dX11_size_33 : decode cX11_size 33 = .ok (.getfield 327, 3) := by decide +kernel
theorem dX11_size_36 : decode cX11_size 36 = .ok (.bipush 6, 2) := by decide +kernel
theorem dX11_size_38 : decode cX11_size 38 = .ok (.iaload, 1) := by decide +kernel
theorem dX11_size_39 : decode cX11_size 39 = .ok (.ifCond .le 13, 3) := by decide +kernel
theorem dX11_size_42 : decode cX11_size 42 = .ok (.aload_n 2, 1) := by decide +kernel
theorem dX11_size_43 : decode cX11_size 43 = .ok (.getfield 324, 3) := by decide +kernel
theorem dX11_size_46 : decode cX11_size 46 = .ok (.getfield 331, 3) := by decide +kernel
theorem dX11_size_49 : decode cX11_size 49 = .ok (.goto 4, 3) := by decide +kernel
theorem dX11_size_52 : decode cX11_size 52 = .ok (.iconst (-1), 1) := by decide +kernel
theorem dX11_size_53 : decode cX11_size 53 = .ok (.ireturn, 1) := by decide +kernel
theorem dX11_seen_0 : decode cX11_seen 0 = .ok (.aload_n 0, 1) := by decide +kernel
theorem dX11_seen_1 : decode cX11_seen 1 = .ok (.iload_n 1, 1) := by decide +kernel
theorem dX11_seen_2 : decode cX11_seen 2 = .ok (.invokevirtual 80, 3) := by decide +kernel
theorem dX11_seen_5 : decode cX11_seen 5 = .ok (.astore_n 3, 1) := by decide +kernel
theorem dX11_seen_6 : decode cX11_seen 6 = .ok (.iload_n 2, 1) := by decide +kernel
theorem dX11_seen_7 : decode cX11_seen 7 = .ok (.iconst 5, 1) := by decide +kernel
theorem dX11_seen_8 : decode cX11_seen 8 = .ok (.invokestatic 61, 3) := by decide +kernel
theorem dX11_seen_11 : decode cX11_seen 11 = .ok (.ifCond .ne 7, 3) := by decide +kernel
theorem dX11_seen_14 : decode cX11_seen 14 = .ok (.iconst 1, 1) := by decide +kernel
theorem dX11_seen_15 : decode cX11_seen 15 = .ok (.goto 4, 3) := by decide +kernel
theorem dX11_seen_18 : decode cX11_seen 18 = .ok (.iconst 0, 1) := by decide +kernel
theorem dX11_seen_19 : decode cX11_seen 19 = .ok (.invokestatic 65, 3) := by decide +kernel
theorem dX11_seen_22 : decode cX11_seen 22 = .ok (.aload_n 0, 1) := by decide +kernel
theorem dX11_seen_23 : decode cX11_seen 23 = .ok (.getfield 48, 3) := by decide +kernel
theorem dX11_seen_26 : decode cX11_seen 26 = .ok (.aload_n 3, 1) := by decide +kernel
theorem dX11_seen_27 : decode cX11_seen 27 = .ok (.invokevirtual 187, 3) := by decide +kernel
theorem dX11_seen_30 : decode cX11_seen 30 = .ok (.ifCond .ne 7, 3) := by decide +kernel
theorem dX11_seen_33 : decode cX11_seen 33 = .ok (.iconst 1, 1) := by decide +kernel
theorem dX11_seen_34 : decode cX11_seen 34 = .ok (.goto 4, 3) := by decide +kernel
theorem dX11_seen_37 : decode cX11_seen 37 = .ok (.iconst 0, 1) := by decide +kernel
theorem dX11_seen_38 : decode cX11_seen 38 = .ok (.invokestatic 73, 3) := by decide +kernel
theorem dX11_seen_41 : decode cX11_seen 41 = .ok (.aload_n 0, 1) := by decide +kernel
theorem dX11_seen_42 : decode cX11_seen 42 = .ok (.invokevirtual 321, 3) := by decide +kernel
theorem dX11_seen_45 : decode cX11_seen 45 = .ok (.aload_n 3, 1) := by decide +kernel
theorem dX11_seen_46 : decode cX11_seen 46 = .ok (.getfield 324, 3) := by decide +kernel
theorem dX11_seen_49 : decode cX11_seen 49 = .ok (.iload_n 2, 1) := by decide +kernel
theorem dX11_seen_50 : decode cX11_seen 50 = .ok (.aload_n 0, 1) := by decide +kernel
theorem dX11_seen_51 : decode cX11_seen 51 = .ok (.getfield 334, 3) := by decide +kernel
theorem dX11_seen_54 : decode cX11_seen 54 = .ok (.aload_n 0, 1) := by decide +kernel
theorem dX11_seen_55 : decode cX11_seen 55 = .ok (.aload_n 3, 1) := by decide +kernel
theorem dX11_seen_56 : decode cX11_seen 56 = .ok (.getfield 324, 3) := by decide +kernel
theorem dX11_seen_59 : decode cX11_seen 59 = .ok (.invokevirtual 337, 3) := by decide +kernel
theorem dX11_seen_62 : decode cX11_seen 62 = .ok (.invokevirtual 341, 3) := by decide +kernel
theorem dX11_seen_65 : decode cX11_seen 65 = .ok (.ireturn, 1) := by decide +kernel
theorem dX11_why_0 : decode cX11_why 0 = .ok (.aload_n 0, 1) := by decide +kernel
theorem dX11_why_1 : decode cX11_why 1 = .ok (.iload_n 1, 1) := by decide +kernel
theorem dX11_why_2 : decode cX11_why 2 = .ok (.invokevirtual 80, 3) := by decide +kernel
theorem dX11_why_5 : decode cX11_why 5 = .ok (.astore 4, 2) := by decide +kernel
theorem dX11_why_7 : decode cX11_why 7 = .ok (.aload_n 0, 1) := by decide +kernel
theorem dX11_why_8 : decode cX11_why 8 = .ok (.iload_n 3, 1) := by decide +kernel
theorem dX11_why_9 : decode cX11_why 9 = .ok (.invokevirtual 274, 3) := by decide +kernel
theorem dX11_why_12 : decode cX11_why 12 = .ok (.astore 5, 2) := by decide +kernel
theorem dX11_why_14 : decode cX11_why 14 = .ok (.iload_n 2, 1) := by decide +kernel
theorem dX11_why_15 : decode cX11_why 15 = .ok (.bipush 15, 2) := by decide +kernel
theorem dX11_why_17 : decode cX11_why 17 = .ok (.invokestatic 61, 3) := by decide +kernel
theorem dX11_why_20 : decode cX11_why 20 = .ok (.ifCond .ne 7, 3) := by decide +kernel
theorem dX11_why_23 : decode cX11_why 23 = .ok (.iconst 1, 1) := by decide +kernel
theorem dX11_why_24 : decode cX11_why 24 = .ok (.goto 4, 3) := by decide +kernel
theorem dX11_why_27 : decode cX11_why 27 = .ok (.iconst 0, 1) := by decide +kernel
theorem dX11_why_28 : decode cX11_why 28 = .ok (.invokestatic 65, 3) := by decide +kernel
theorem dX11_why_31 : decode cX11_why 31 = .ok (.aload_n 0, 1) := by decide +kernel
theorem dX11_why_32 : decode cX11_why 32 = .ok (.getfield 48, 3) := by decide +kernel
theorem dX11_why_35 : decode cX11_why 35 = .ok (.aload 4, 2) := by decide +kernel
theorem dX11_why_37 : decode cX11_why 37 = .ok (.invokevirtual 187, 3) := by decide +kernel
theorem dX11_why_40 : decode cX11_why 40 = .ok (.ifCond .ne 7, 3) := by decide +kernel
theorem dX11_why_43 : decode cX11_why 43 = .ok (.iconst 1, 1) := by decide +kernel
theorem dX11_why_44 : decode cX11_why 44 = .ok (.goto 4, 3) := by decide +kernel
theorem dX11_why_47 : decode cX11_why 47 = .ok (.iconst 0, 1) := by decide +kernel
theorem dX11_why_48 : decode cX11_why 48 = .ok (.invokestatic 73, 3) := by decide +kernel
theorem dX11_why_51 : decode cX11_why 51 = .ok (.aload_n 0, 1) := by decide +kernel
theorem dX11_why_52 : decode cX11_why 52 = .ok (.invokevirtual 321, 3) := by decide +kernel
theorem dX11_why_55 : decode cX11_why 55 = .ok (.aload_n 0, 1) := by decide +kernel
theorem dX11_why_56 : decode cX11_why 56 = .ok (.getfield 56, 3) := by decide +kernel
theorem dX11_why_59 : decode cX11_why 59 = .ok (.invokevirtual 348, 3) := by decide +kernel
theorem dX11_why_62 : decode cX11_why 62 = .ok (.aload_n 0, 1) := by decide +kernel
theorem dX11_why_63 : decode cX11_why 63 = .ok (.getfield 56, 3) := by decide +kernel
theorem dX11_why_66 : decode cX11_why 66 = .ok (.aload 5, 2) := by decide +kernel
theorem dX11_why_68 : decode cX11_why 68 = .ok (.aload 4, 2) := by decide +kernel
theorem dX11_why_70 : decode cX11_why 70 = .ok (.iload_n 2, 1) := by decide +kernel
theorem dX11_why_71 : decode cX11_why 71 = .ok (.aload_n 0, 1) := by decide +kernel
theorem dX11_why_72 : decode cX11_why 72 = .ok (.aload 4, 2) := by decide +kernel
theorem dX11_why_74 : decode cX11_why 74 = .ok (.iconst 0, 1) := by decide +kernel
theorem dX11_why_75 : decode cX11_why 75 = .ok (.invokevirtual 351, 3) := by decide +kernel
theorem dX11_why_78 : decode cX11_why 78 = .ok (.invokevirtual 355, 3) := by decide +kernel
theorem dX11_why_81 : decode cX11_why 81 = .ok (.ireturn, 1) := by decide +kernel
theorem dX11_valueAnew_0 : decode cX11_valueAnew 0 = .ok (.aload_n 0, 1) := by decide +kernel
theorem dX11_valueAnew_1 : decode cX11_valueAnew 1 = .ok (.iload_n 1, 1) := by decide +kernel
theorem dX11_valueAnew_2 : decode cX11_valueAnew 2 = .ok (.invokevirtual 80, 3) := by decide +kernel
theorem dX11_valueAnew_5 : decode cX11_valueAnew 5 = .ok (.astore_n 3, 1) := by decide +kernel
theorem dX11_valueAnew_6 : decode cX11_valueAnew 6 = .ok (.iload_n 2, 1) := by decide +kernel
theorem dX11_valueAnew_7 : decode cX11_valueAnew 7 = .ok (.bipush 15, 2) := by decide +kernel
theorem dX11_valueAnew_9 : decode cX11_valueAnew 9 = .ok (.invokestatic 61, 3) := by decide +kernel
theorem dX11_valueAnew_12 : decode cX11_valueAnew 12 = .ok (.ifCond .ne 7, 3) := by decide +kernel
theorem dX11_valueAnew_15 : decode cX11_valueAnew 15 = .ok (.iconst 1, 1) := by decide +kernel
theorem dX11_valueAnew_16 : decode cX11_valueAnew 16 = .ok (.goto 4, 3) := by decide +kernel
theorem dX11_valueAnew_19 : decode cX11_valueAnew 19 = .ok (.iconst 0, 1) := by decide +kernel
theorem dX11_valueAnew_20 : decode cX11_valueAnew 20 = .ok (.invokestatic 65, 3) := by decide +kernel
theorem dX11_valueAnew_23 : decode cX11_valueAnew 23 = .ok (.aload_n 0, 1) := by decide +kernel
theorem dX11_valueAnew_24 : decode cX11_valueAnew 24 = .ok (.getfield 48, 3) := by decide +kernel
theorem dX11_valueAnew_27 : decode cX11_valueAnew 27 = .ok (.aload_n 3, 1) := by decide +kernel
theorem dX11_valueAnew_28 : decode cX11_valueAnew 28 = .ok (.invokevirtual 187, 3) := by decide +kernel
theorem dX11_valueAnew_31 : decode cX11_valueAnew 31 = .ok (.ifCond .ne 7, 3) := by decide +kernel
theorem dX11_valueAnew_34 : decode cX11_valueAnew 34 = .ok (.iconst 1, 1) := by decide +kernel
theorem dX11_valueAnew_35 : decode cX11_valueAnew 35 = .ok (.goto 4, 3) := by decide +kernel
theorem dX11_valueAnew_38 : decode cX11_valueAnew 38 = .ok (.iconst 0, 1) := by decide +kernel
theorem dX11_valueAnew_39 : decode cX11_valueAnew 39 = .ok (.invokestatic 73, 3) := by decide +kernel
theorem dX11_valueAnew_42 : decode cX11_valueAnew 42 = .ok (.aload_n 0, 1) := by decide +kernel
theorem dX11_valueAnew_43 : decode cX11_valueAnew 43 = .ok (.getfield 56, 3) := by decide +kernel
theorem dX11_valueAnew_46 : decode cX11_valueAnew 46 = .ok (.invokevirtual 348, 3) := by decide +kernel
theorem dX11_valueAnew_49 : decode cX11_valueAnew 49 = .ok (.aload_n 0, 1) := by decide +kernel
theorem dX11_valueAnew_50 : decode cX11_valueAnew 50 = .ok (.aload_n 3, 1) := by decide +kernel
theorem dX11_valueAnew_51 : decode cX11_valueAnew 51 = .ok (.invokevirtual 359, 3) := by decide +kernel
theorem dX11_valueAnew_54 : decode cX11_valueAnew 54 = .ok (.aload_n 0, 1) := by decide +kernel
theorem dX11_valueAnew_55 : decode cX11_valueAnew 55 = .ok (.aload_n 3, 1) := by decide +kernel
theorem dX11_valueAnew_56 : decode cX11_valueAnew 56 = .ok (.iconst 1, 1) := by decide +kernel
theorem dX11_valueAnew_57 : decode cX11_valueAnew 57 = .ok (.invokevirtual 362, 3) := by decide +kernel
theorem dX11_valueAnew_60 : decode cX11_valueAnew 60 = .ok (.getfield 327, 3) := by decide +kernel
theorem dX11_valueAnew_63 : decode cX11_valueAnew 63 = .ok (.iload_n 2, 1) := by decide +kernel
theorem dX11_valueAnew_64 : decode cX11_valueAnew 64 = .ok (.iaload, 1) := by decide +kernel
theorem dX11_valueAnew_65 : decode cX11_valueAnew 65 = .ok (.ireturn, 1) := by decide +kernel
def f_X11_ruleAt (x0 : Nat) (x1 : Int32) (σ : cS) : Option ((Nat ⊕ Option Nat) × cS) := (gR σ (some x0) 11 2).bind (fun v1 => (rc σ v1 1).bind (fun v2 => (f_X1_ruleAt v2 (x1) σ).bind (fun v3 => if v3 = none then (some (.inl 2, σ)) else (some (.inr v3, σ)))))
set_option maxRecDepth 20000 in
set_option maxHeartbeats 4000000 in
theorem K_X11_ruleAt (l : Launch) (hl9 : l.stackTraces = false) (D : cD) (Φ : cG) (σ : cS) (x0 : Nat) (x1 : Int32) {q : (Nat ⊕ Option Nat) × cS} (h : f_X11_ruleAt x0 x1 σ = some q) : vx_Met l yX11_ruleAt (Cond.code yX11_ruleAt cX11_ruleAt 3 (some (.object "Cascadery$Rule")) :: BG) (rA 6 1 6 90) (cPc D Φ σ [cv Φ (some x0), .int x1]) (cQt (vlR Φ) D Φ q) (cXC D Φ q) 1 6 (cReg Φ) := by
  refine vx_ofW (cc := cX11_ruleAt) (maxL := 3) (ret := (some (.object "Cascadery$Rule"))) (by decide) rfl ?_
  intro p e s m args below meth c s₁ B hml hnt hv
  obtain ⟨rfl, hP, hK, hZ⟩ := hv
  have X : cX p s m [cv Φ (some x0), .int x1].toArray meth c cX11_ruleAt 3 (some (.object "Cascadery$Rule")) RX11 D Φ := cX_of B hml hK hZ
  have hx := X.1
  have hb := X.2.1
  have hown := X.2.2.2.1
  have hts := X.2.2.2.2.1
  have hl := lv_entry [cv Φ (some x0), .int x1] (n := 3) (by simp only [lgs_r, lgs_i, lgs_l, lgs_0, List.length]; exact Nat.le_of_ble_eq_true rfl)
  rw [lg_entry_eq]
  generalize (lg_sl [cv Φ (some x0), .int x1] ++ List.replicate (3 - (lg_sl [cv Φ (some x0), .int x1]).length) Slot.unset).toArray = ls at hl ⊢
  simp only [lv_args_r, lv_args_i, lv_args_l, lv_args_0] at hl
  have hl : lv_has ls 3 [(0, cv Φ (some x0)), (1, .int x1)] := hl
  have hS : va_S (cReg Φ) s.heap s.heap [] := va_S.rf
  show cWt p l e 6 1 6 90 s m [cv Φ (some x0), .int x1].toArray below meth c D Φ (vlR Φ) q s.heap [] 0 0 (F0 m 0 ls [])
  have h : ((gR σ (some x0) 11 2).bind (fun v1 => (rc σ v1 1).bind (fun v2 => (f_X1_ruleAt v2 (x1) σ).bind (fun v3 => if v3 = none then (some (.inl 2, σ)) else (some (.inr v3, σ)))))) = some q := h
  refine c_aload_n hx hb dX11_ruleAt_0 rfl (lv_at hl 0 rfl) ?_
  obtain ⟨v1, hv1, h⟩ := ob h
  refine c_gR X hP hv1 (Nat.le_of_ble_eq_true rfl) (Nat.le_of_ble_eq_true rfl) rfl w_573 dX11_ruleAt_1 ?_
  refine lv_iload_n hx hb dX11_ruleAt_4 rfl (lv_at hl 1 rfl) ?_
  obtain ⟨v2, hv2, h⟩ := ob h
  obtain ⟨v3, hv3, h⟩ := ob h
  refine c_cr (c_runV X (K_X1_ruleAt l D Φ σ v2 (x1) hv3) hv2 ⟨Nat.le_of_ble_eq_true rfl, by decide⟩ ⟨w_1184, ww_X1_ruleAt⟩ rfl hy_X1_ruleAt rfl ⟨(Nat.le_of_ble_eq_true rfl), (Nat.le_of_ble_eq_true rfl)⟩ hP hS hl.1 (Nat.le_of_ble_eq_true rfl) dX11_ruleAt_5 rfl ⟨(Nat.le_of_ble_eq_true rfl), (Nat.le_of_ble_eq_true rfl)⟩) ?_
  refine c_astore_n hx hb dX11_ruleAt_8 rfl hl (Nat.le_of_ble_eq_true rfl) (lvKa rfl (lvKi lvK0)) rfl (fun ls (hl : lv_has ls 3 [(2, cv Φ v3), (0, cv Φ (some x0)), (1, .int x1)]) => ?_)
  refine c_aload_n hx hb dX11_ruleAt_9 rfl (lv_at hl 0 rfl) ?_
  refine c_ifnonnull (Φ := Φ) (tgt := 21) hx hb dX11_ruleAt_10 rfl (fun hc => ?_) (fun hc => ?_)
  · have h := ine hc h
    refine c_aload_n hx hb dX11_ruleAt_21 rfl (lv_at hl 0 rfl) ?_
    exact c_ta X hP hS (sj h).symm (Nat.le_of_ble_eq_true rfl) (Nat.le_of_ble_eq_true rfl) dX11_ruleAt_22
  · have h := ip hc h
    exact c_thr2 hl9 X hnt hP hS hl.1 dX11_ruleAt_13 dX11_ruleAt_16 dX11_ruleAt_17 dX11_ruleAt_20 (sj h).symm (Nat.le_of_ble_eq_true rfl) (Nat.le_of_ble_eq_true rfl) (Nat.le_of_ble_eq_true rfl) (Nat.le_of_ble_eq_true rfl) (Nat.le_of_ble_eq_true rfl)
theorem ww_X11_ruleAt : Cond.instanceMethod yX11_ruleAt ∈ BG ∧ Cond.selects (yX11_ruleAt).cls yX11_ruleAt yX11_ruleAt ∈ BG ∧ Cond.initialized (yX11_ruleAt).cls ∈ BG ∧ Cond.code yX11_ruleAt cX11_ruleAt 3 (some (.object "Cascadery$Rule")) ∈ BG := ⟨w_1182, w_50, w_56, w_1183⟩
theorem hy_X11_ruleAt : (yX11_ruleAt).cls ≠ "java/lang/invoke/MethodHandle" ∧ (yX11_ruleAt).cls ≠ "java/lang/invoke/VarHandle" ∧ (parseMethodDescriptor (yX11_ruleAt).desc).map (fun d => d.parameters.length) = some 1 := ⟨by decide, by decide, by decide +kernel⟩
def f_X11_when_32  (x0 : Nat) (x2 : Int32) (x3 : Int32) (x4 : Option Nat) (y0 : Int32) (σ : cS) : Option ((Nat ⊕ Unit) × cS) := (f_X11_refuseArgument (y0) σ).bind (fun v1 => v1.1.elim (fun k => some (.inl k, v1.2)) (fun w2 => (pI v1.2 x4 6 4 x2).bind (fun v3 => (pI v3 x4 6 5 x3).bind (fun v4 => (rc v4 (some x0) 11).bind (fun v5 => (f_X11_markAll v5  v4).bind (fun v6 => some (.inr (), v6)))))))
def f_X11_when_27  (x0 : Nat) (x2 : Int32) (x3 : Int32) (x4 : Option Nat) (σ : cS) : Option ((Nat ⊕ Unit) × cS) := f_X11_when_32 x0 (x2) (x3) (x4) ((1:Int32)) σ
def f_X11_when_20  (x0 : Nat) (x2 : Int32) (x3 : Int32) (x4 : Option Nat) (σ : cS) : Option ((Nat ⊕ Unit) × cS) := (f_X11_isNumber (x3)).bind (fun v1 => if v1 = (0:Int32) then (f_X11_when_27 x0 (x2) (x3) (x4) σ) else (f_X11_when_32 x0 (x2) (x3) (x4) ((0:Int32)) σ))
def f_X11_when (x0 : Nat) (x1 : Int32) (x2 : Int32) (x3 : Int32) (σ : cS) : Option ((Nat ⊕ Unit) × cS) := (rc σ (some x0) 11).bind (fun v1 => (f_X11_ruleAt v1 (x1) σ).bind (fun v2 => v2.1.elim (fun k => some (.inl k, v2.2)) (fun w3 => if x2 = ((-1):Int32) then (f_X11_when_20 x0 (x2) (x3) (w3) v2.2) else ((f_X11_isBelow (x2) ((5:Int32))).bind (fun v4 => if v4 = (0:Int32) then (f_X11_when_27 x0 (x2) (x3) (w3) v2.2) else (f_X11_when_20 x0 (x2) (x3) (w3) v2.2))))))
set_option maxRecDepth 20000 in
set_option maxHeartbeats 4000000 in
theorem N_X11_when_32 {p : Program} {l : Launch} {e : Env} {s : State} {m : MethodId} {args : Array Value} {below : List Frame} {meth : Method} {c : Code} {D : cD} {Φ : cG} {x0 : Nat}   {x2 : Int32} {x3 : Int32} {x4 : Option Nat} {y0 : Int32} {σ : cS} {H : Heap} {locs : List Loc} {ls : Array Slot} {q : (Nat ⊕ Unit) × cS} (X : cX p s m args meth c cX11_when 5 none RX11 D Φ) (hl9 : l.stackTraces = false) (hnt : ∀ x ∈ c.exceptionTable.toList, False) (hP : cP D Φ σ H) (hS : va_S (cReg Φ) s.heap H locs)  (hl : lv_has ls 5 [(0, cv Φ (some x0)), (2, .int x2), (3, .int x3), (4, cv Φ x4)]) (h : f_X11_when_32  x0 x2 x3 x4 y0 σ = some q) : cWt p l e 7 2 12 112 s m args below meth c D Φ vlU q H locs 1 6 (F0 m 32 ls [.int y0]) := by
  have hx := X.1
  have hb := X.2.1
  have hown := X.2.2.2.1
  have hts := X.2.2.2.2.1
  have h : ((f_X11_refuseArgument (y0) σ).bind (fun v1 => v1.1.elim (fun k => some (.inl k, v1.2)) (fun w2 => (pI v1.2 x4 6 4 x2).bind (fun v3 => (pI v3 x4 6 5 x3).bind (fun v4 => (rc v4 (some x0) 11).bind (fun v5 => (f_X11_markAll v5  v4).bind (fun v6 => some (.inr (), v6)))))))) = some q := h
  obtain ⟨v1, hv1, h⟩ := ob h
  refine c_ct (c_tS X (K_X11_refuseArgument l hl9 D Φ σ (y0) hv1) ⟨w_638, ww_X11_refuseArgument⟩ hy_X11_refuseArgument rfl ⟨(Nat.le_of_ble_eq_true rfl), (Nat.le_of_ble_eq_true rfl)⟩ hP hS hl.1 (Nat.le_of_ble_eq_true rfl) dX11_when_32 rfl ⟨(Nat.le_of_ble_eq_true rfl), (Nat.le_of_ble_eq_true rfl)⟩) X hnt hS ⟨(Nat.le_of_ble_eq_true rfl), (Nat.le_of_ble_eq_true rfl)⟩ (fun k e => by have h9 := el_l e h; exact (sj h9).symm) (fun w2 H locs e hP hS => ?_)
  have h := el_r e h
  refine W.eq (g2 := F0 m 35 ls []) rfl ?_
  refine c_aload hx hb dX11_when_35 (lv_at hl 3 rfl) ?_
  refine lv_iload_n hx hb dX11_when_37 rfl (lv_at hl 1 rfl) ?_
  obtain ⟨v3, hv3, h⟩ := ob h
  refine c_pI X hP hS hv3 (Nat.le_of_ble_eq_true rfl) (Nat.le_of_ble_eq_true rfl) rfl rfl (Or.inl rfl) w_170 dX11_when_38 (fun H locs hP hS => ?_)
  refine c_aload hx hb dX11_when_41 (lv_at hl 3 rfl) ?_
  refine lv_iload_n hx hb dX11_when_43 rfl (lv_at hl 2 rfl) ?_
  obtain ⟨v4, hv4, h⟩ := ob h
  refine c_pI X hP hS hv4 (Nat.le_of_ble_eq_true rfl) (Nat.le_of_ble_eq_true rfl) rfl rfl (Or.inl rfl) w_172 dX11_when_44 (fun H locs hP hS => ?_)
  refine c_aload_n hx hb dX11_when_47 rfl (lv_at hl 0 rfl) ?_
  obtain ⟨v5, hv5, h⟩ := ob h
  obtain ⟨v6, hv6, h⟩ := ob h
  refine c_cw (c_runV X (K_X11_markAll l D Φ v4 v5  hv6) hv5 ⟨Nat.le_of_ble_eq_true rfl, by decide⟩ ⟨w_830, ww_X11_markAll⟩ rfl hy_X11_markAll rfl ⟨(Nat.le_of_ble_eq_true rfl), (Nat.le_of_ble_eq_true rfl)⟩ hP hS hl.1 (Nat.le_of_ble_eq_true rfl) dX11_when_48 rfl ⟨(Nat.le_of_ble_eq_true rfl), (Nat.le_of_ble_eq_true rfl)⟩) hS (fun H locs hP hS => ?_)
  refine W.eq (g2 := F0 m 51 ls []) rfl ?_
  exact c_tv X hP hS (sj h).symm (Nat.le_of_ble_eq_true rfl) (Nat.le_of_ble_eq_true rfl) dX11_when_51
set_option maxRecDepth 20000 in
set_option maxHeartbeats 4000000 in
theorem N_X11_when_27 {p : Program} {l : Launch} {e : Env} {s : State} {m : MethodId} {args : Array Value} {below : List Frame} {meth : Method} {c : Code} {D : cD} {Φ : cG} {x0 : Nat}   {x2 : Int32} {x3 : Int32} {x4 : Option Nat} {σ : cS} {H : Heap} {locs : List Loc} {ls : Array Slot} {q : (Nat ⊕ Unit) × cS} (X : cX p s m args meth c cX11_when 5 none RX11 D Φ) (hl9 : l.stackTraces = false) (hnt : ∀ x ∈ c.exceptionTable.toList, False) (hP : cP D Φ σ H) (hS : va_S (cReg Φ) s.heap H locs)  (hl : lv_has ls 5 [(0, cv Φ (some x0)), (2, .int x2), (3, .int x3), (4, cv Φ x4)]) (h : f_X11_when_27  x0 x2 x3 x4 σ = some q) : cWt p l e 7 2 12 112 s m args below meth c D Φ vlU q H locs 1 6 (F0 m 27 ls []) := by
  have hx := X.1
  have hb := X.2.1
  have hown := X.2.2.2.1
  have hts := X.2.2.2.2.1
  have h : (f_X11_when_32 x0 (x2) (x3) (x4) ((1:Int32)) σ) = some q := h
  refine lv_iconst (v := (1:Int32)) hx hb dX11_when_27 (by decide) ?_
  refine lv_goto (tgt := 32) hx hb dX11_when_28 rfl ?_
  exact N_X11_when_32 X hl9 hnt hP hS (lv_sub hl [0, 1, 2, 3] rfl) h
set_option maxRecDepth 20000 in
set_option maxHeartbeats 4000000 in
theorem N_X11_when_20 {p : Program} {l : Launch} {e : Env} {s : State} {m : MethodId} {args : Array Value} {below : List Frame} {meth : Method} {c : Code} {D : cD} {Φ : cG} {x0 : Nat}   {x2 : Int32} {x3 : Int32} {x4 : Option Nat} {σ : cS} {H : Heap} {locs : List Loc} {ls : Array Slot} {q : (Nat ⊕ Unit) × cS} (X : cX p s m args meth c cX11_when 5 none RX11 D Φ) (hl9 : l.stackTraces = false) (hnt : ∀ x ∈ c.exceptionTable.toList, False) (hP : cP D Φ σ H) (hS : va_S (cReg Φ) s.heap H locs)  (hl : lv_has ls 5 [(0, cv Φ (some x0)), (2, .int x2), (3, .int x3), (4, cv Φ x4)]) (h : f_X11_when_20  x0 x2 x3 x4 σ = some q) : cWt p l e 7 2 12 112 s m args below meth c D Φ vlU q H locs 1 6 (F0 m 20 ls []) := by
  have hx := X.1
  have hb := X.2.1
  have hown := X.2.2.2.1
  have hts := X.2.2.2.2.1
  have h : ((f_X11_isNumber (x3)).bind (fun v1 => if v1 = (0:Int32) then (f_X11_when_27 x0 (x2) (x3) (x4) σ) else (f_X11_when_32 x0 (x2) (x3) (x4) ((0:Int32)) σ))) = some q := h
  refine lv_iload_n hx hb dX11_when_20 rfl (lv_at hl 2 rfl) ?_
  obtain ⟨v1, hv1, h⟩ := ob h
  refine c_cr (c_runS X (K_X11_isNumber l D Φ σ (x3) hv1) ⟨w_1311, ww_X11_isNumber⟩ hy_X11_isNumber rfl ⟨(Nat.le_of_ble_eq_true rfl), (Nat.le_of_ble_eq_true rfl)⟩ hP hS hl.1 (Nat.le_of_ble_eq_true rfl) dX11_when_21 rfl ⟨(Nat.le_of_ble_eq_true rfl), (Nat.le_of_ble_eq_true rfl)⟩) ?_
  refine lv_if_ne (tgt := 31) hx hb dX11_when_24 rfl (fun hc => ?_) (fun hc => ?_)
  · have h := ine hc h
    refine lv_iconst (v := (0:Int32)) hx hb dX11_when_31 (by decide) ?_
    exact N_X11_when_32 X hl9 hnt hP hS (lv_sub hl [0, 1, 2, 3] rfl) h
  · have h := ip hc h
    exact N_X11_when_27 X hl9 hnt hP hS (lv_sub hl [0, 1, 2, 3] rfl) h
set_option maxRecDepth 20000 in
set_option maxHeartbeats 4000000 in
theorem K_X11_when (l : Launch) (hl9 : l.stackTraces = false) (D : cD) (Φ : cG) (σ : cS) (x0 : Nat) (x1 : Int32) (x2 : Int32) (x3 : Int32) {q : (Nat ⊕ Unit) × cS} (h : f_X11_when x0 x1 x2 x3 σ = some q) : vx_Met l yX11_when (Cond.code yX11_when cX11_when 5 none :: BG) (rA 7 2 12 112) (cPc D Φ σ [cv Φ (some x0), .int x1, .int x2, .int x3]) (cQt vlU D Φ q) (cXC D Φ q) 2 12 (cReg Φ) := by
  refine vx_ofW (cc := cX11_when) (maxL := 5) (ret := none) (by decide) rfl ?_
  intro p e s m args below meth c s₁ B hml hnt hv
  obtain ⟨rfl, hP, hK, hZ⟩ := hv
  have X : cX p s m [cv Φ (some x0), .int x1, .int x2, .int x3].toArray meth c cX11_when 5 none RX11 D Φ := cX_of B hml hK hZ
  have hx := X.1
  have hb := X.2.1
  have hown := X.2.2.2.1
  have hts := X.2.2.2.2.1
  have hl := lv_entry [cv Φ (some x0), .int x1, .int x2, .int x3] (n := 5) (by simp only [lgs_r, lgs_i, lgs_l, lgs_0, List.length]; exact Nat.le_of_ble_eq_true rfl)
  rw [lg_entry_eq]
  generalize (lg_sl [cv Φ (some x0), .int x1, .int x2, .int x3] ++ List.replicate (5 - (lg_sl [cv Φ (some x0), .int x1, .int x2, .int x3]).length) Slot.unset).toArray = ls at hl ⊢
  simp only [lv_args_r, lv_args_i, lv_args_l, lv_args_0] at hl
  have hl : lv_has ls 5 [(0, cv Φ (some x0)), (1, .int x1), (2, .int x2), (3, .int x3)] := hl
  have hS : va_S (cReg Φ) s.heap s.heap [] := va_S.rf
  show cWt p l e 7 2 12 112 s m [cv Φ (some x0), .int x1, .int x2, .int x3].toArray below meth c D Φ vlU q s.heap [] 0 0 (F0 m 0 ls [])
  have h : ((rc σ (some x0) 11).bind (fun v1 => (f_X11_ruleAt v1 (x1) σ).bind (fun v2 => v2.1.elim (fun k => some (.inl k, v2.2)) (fun w3 => if x2 = ((-1):Int32) then (f_X11_when_20 x0 (x2) (x3) (w3) v2.2) else ((f_X11_isBelow (x2) ((5:Int32))).bind (fun v4 => if v4 = (0:Int32) then (f_X11_when_27 x0 (x2) (x3) (w3) v2.2) else (f_X11_when_20 x0 (x2) (x3) (w3) v2.2))))))) = some q := h
  refine c_aload_n hx hb dX11_when_0 rfl (lv_at hl 0 rfl) ?_
  refine lv_iload_n hx hb dX11_when_1 rfl (lv_at hl 1 rfl) ?_
  obtain ⟨v1, hv1, h⟩ := ob h
  obtain ⟨v2, hv2, h⟩ := ob h
  refine c_ct (c_tV X (K_X11_ruleAt l hl9 D Φ σ v1 (x1) hv2) hv1 ⟨Nat.le_of_ble_eq_true rfl, by decide⟩ ⟨w_1180, ww_X11_ruleAt⟩ rfl hy_X11_ruleAt rfl ⟨(Nat.le_of_ble_eq_true rfl), (Nat.le_of_ble_eq_true rfl)⟩ hP hS hl.1 (Nat.le_of_ble_eq_true rfl) dX11_when_2 rfl ⟨(Nat.le_of_ble_eq_true rfl), (Nat.le_of_ble_eq_true rfl)⟩) X hnt hS ⟨(Nat.le_of_ble_eq_true rfl), (Nat.le_of_ble_eq_true rfl)⟩ (fun k e => by have h9 := el_l e h; exact (sj h9).symm) (fun w3 H locs e hP hS => ?_)
  have h := el_r e h
  refine W.eq (g2 := F0 m 5 ls [cv Φ w3]) rfl ?_
  refine c_astore hx hb dX11_when_5 hl (Nat.le_of_ble_eq_true rfl) (lvKa rfl (lvKa rfl (lvKa rfl (lvKi lvK0)))) rfl (fun ls (hl : lv_has ls 5 [(4, cv Φ w3), (0, cv Φ (some x0)), (1, .int x1), (2, .int x2), (3, .int x3)]) => ?_)
  refine lv_iload_n hx hb dX11_when_7 rfl (lv_at hl 3 rfl) ?_
  refine lv_iconst (v := ((-1):Int32)) hx hb dX11_when_8 (by decide) ?_
  refine lv_icmp_eq (tgt := 20) hx hb dX11_when_9 rfl (fun hc => ?_) (fun hc => ?_)
  · have h := ip hc h
    exact N_X11_when_20 X hl9 hnt hP hS (lv_sub hl [1, 3, 4, 0] rfl) h
  · have h := ine hc h
    refine lv_iload_n hx hb dX11_when_12 rfl (lv_at hl 3 rfl) ?_
    refine lv_iconst (v := (5:Int32)) hx hb dX11_when_13 (by decide) ?_
    obtain ⟨v4, hv4, h⟩ := ob h
    refine c_cr (c_runS X (K_X11_isBelow l D Φ v2.2 (x2) ((5:Int32)) hv4) ⟨w_635, ww_X11_isBelow⟩ hy_X11_isBelow rfl ⟨(Nat.le_of_ble_eq_true rfl), (Nat.le_of_ble_eq_true rfl)⟩ hP hS hl.1 (Nat.le_of_ble_eq_true rfl) dX11_when_14 rfl ⟨(Nat.le_of_ble_eq_true rfl), (Nat.le_of_ble_eq_true rfl)⟩) ?_
    refine lv_if_eq (tgt := 27) hx hb dX11_when_17 rfl (fun hc => ?_) (fun hc => ?_)
    · have h := ip hc h
      exact N_X11_when_27 X hl9 hnt hP hS (lv_sub hl [1, 3, 4, 0] rfl) h
    · have h := ine hc h
      exact N_X11_when_20 X hl9 hnt hP hS (lv_sub hl [1, 3, 4, 0] rfl) h
theorem ww_X11_when : Cond.instanceMethod yX11_when ∈ BG ∧ Cond.selects (yX11_when).cls yX11_when yX11_when ∈ BG ∧ Cond.initialized (yX11_when).cls ∈ BG ∧ Cond.code yX11_when cX11_when 5 none ∈ BG := ⟨w_1358, w_1359, w_56, w_1360⟩
theorem hy_X11_when : (yX11_when).cls ≠ "java/lang/invoke/MethodHandle" ∧ (yX11_when).cls ≠ "java/lang/invoke/VarHandle" ∧ (parseMethodDescriptor (yX11_when).desc).map (fun d => d.parameters.length) = some 3 := ⟨by decide, by decide, by decide +kernel⟩
def f_X11_blockAt_25  (x0 : Nat) (y0 : Option Nat) (σ : cS) : Option ((Nat ⊕ Option Nat) × cS) := some (.inr y0, σ)
def f_X11_blockAt (x0 : Nat) (x1 : Int32) (σ : cS) : Option ((Nat ⊕ Option Nat) × cS) := if (100:Int32) ≤ x1 then ((rc σ (some x0) 11).bind (fun v1 => (f_X11_elementAt v1 ((x1 - (100:Int32))) σ).bind (fun v2 => v2.1.elim (fun k => some (.inl k, v2.2)) (fun w3 => (gR v2.2 w3 3 18).bind (fun v4 => f_X11_blockAt_25 x0 (v4) v2.2))))) else ((rc σ (some x0) 11).bind (fun v5 => (f_X11_ruleAt v5 (x1) σ).bind (fun v6 => v6.1.elim (fun k => some (.inl k, v6.2)) (fun w7 => f_X11_blockAt_25 x0 (w7) v6.2))))
set_option maxRecDepth 20000 in
set_option maxHeartbeats 4000000 in
theorem N_X11_blockAt_25 {p : Program} {l : Launch} {e : Env} {s : State} {m : MethodId} {args : Array Value} {below : List Frame} {meth : Method} {c : Code} {D : cD} {Φ : cG} {x0 : Nat}   {y0 : Option Nat} {σ : cS} {H : Heap} {locs : List Loc} {ls : Array Slot} {q : (Nat ⊕ Option Nat) × cS} (X : cX p s m args meth c cX11_blockAt 2 (some (.object "Cascadery$Rule")) RX11 D Φ) (hl9 : l.stackTraces = false) (hnt : ∀ x ∈ c.exceptionTable.toList, False) (hP : cP D Φ σ H) (hS : va_S (cReg Φ) s.heap H locs)  (hl : lv_has ls 2 []) (h : f_X11_blockAt_25  x0 y0 σ = some q) : cWt p l e 7 1 6 112 s m args below meth c D Φ (vlR Φ) q H locs 1 6 (F0 m 25 ls [cv Φ y0]) := by
  have hx := X.1
  have hb := X.2.1
  have hown := X.2.2.2.1
  have hts := X.2.2.2.2.1
  have h : (some (.inr y0, σ)) = some q := h
  exact c_ta X hP hS (sj h).symm (Nat.le_of_ble_eq_true rfl) (Nat.le_of_ble_eq_true rfl) dX11_blockAt_25
set_option maxRecDepth 20000 in
set_option maxHeartbeats 4000000 in
theorem K_X11_blockAt (l : Launch) (hl9 : l.stackTraces = false) (D : cD) (Φ : cG) (σ : cS) (x0 : Nat) (x1 : Int32) {q : (Nat ⊕ Option Nat) × cS} (h : f_X11_blockAt x0 x1 σ = some q) : vx_Met l yX11_blockAt (Cond.code yX11_blockAt cX11_blockAt 2 (some (.object "Cascadery$Rule")) :: BG) (rA 7 1 6 112) (cPc D Φ σ [cv Φ (some x0), .int x1]) (cQt (vlR Φ) D Φ q) (cXC D Φ q) 1 6 (cReg Φ) := by
  refine vx_ofW (cc := cX11_blockAt) (maxL := 2) (ret := (some (.object "Cascadery$Rule"))) (by decide) rfl ?_
  intro p e s m args below meth c s₁ B hml hnt hv
  obtain ⟨rfl, hP, hK, hZ⟩ := hv
  have X : cX p s m [cv Φ (some x0), .int x1].toArray meth c cX11_blockAt 2 (some (.object "Cascadery$Rule")) RX11 D Φ := cX_of B hml hK hZ
  have hx := X.1
  have hb := X.2.1
  have hown := X.2.2.2.1
  have hts := X.2.2.2.2.1
  have hl := lv_entry [cv Φ (some x0), .int x1] (n := 2) (by simp only [lgs_r, lgs_i, lgs_l, lgs_0, List.length]; exact Nat.le_of_ble_eq_true rfl)
  rw [lg_entry_eq]
  generalize (lg_sl [cv Φ (some x0), .int x1] ++ List.replicate (2 - (lg_sl [cv Φ (some x0), .int x1]).length) Slot.unset).toArray = ls at hl ⊢
  simp only [lv_args_r, lv_args_i, lv_args_l, lv_args_0] at hl
  have hl : lv_has ls 2 [(0, cv Φ (some x0)), (1, .int x1)] := hl
  have hS : va_S (cReg Φ) s.heap s.heap [] := va_S.rf
  show cWt p l e 7 1 6 112 s m [cv Φ (some x0), .int x1].toArray below meth c D Φ (vlR Φ) q s.heap [] 0 0 (F0 m 0 ls [])
  have h : (if (100:Int32) ≤ x1 then ((rc σ (some x0) 11).bind (fun v1 => (f_X11_elementAt v1 ((x1 - (100:Int32))) σ).bind (fun v2 => v2.1.elim (fun k => some (.inl k, v2.2)) (fun w3 => (gR v2.2 w3 3 18).bind (fun v4 => f_X11_blockAt_25 x0 (v4) v2.2))))) else ((rc σ (some x0) 11).bind (fun v5 => (f_X11_ruleAt v5 (x1) σ).bind (fun v6 => v6.1.elim (fun k => some (.inl k, v6.2)) (fun w7 => f_X11_blockAt_25 x0 (w7) v6.2))))) = some q := h
  refine lv_iload_n hx hb dX11_blockAt_0 rfl (lv_at hl 1 rfl) ?_
  refine lv_bipush (v := (100:Int32)) hx hb dX11_blockAt_1 (by decide) ?_
  refine lv_icmp_ge (tgt := 14) hx hb dX11_blockAt_3 rfl (fun hc => ?_) (fun hc => ?_)
  · have h := ip hc h
    refine c_aload_n hx hb dX11_blockAt_14 rfl (lv_at hl 0 rfl) ?_
    refine lv_iload_n hx hb dX11_blockAt_15 rfl (lv_at hl 1 rfl) ?_
    refine lv_bipush (v := (100:Int32)) hx hb dX11_blockAt_16 (by decide) ?_
    refine lv_isub hx hb dX11_blockAt_18 ?_
    obtain ⟨v1, hv1, h⟩ := ob h
    obtain ⟨v2, hv2, h⟩ := ob h
    refine c_ct (c_tV X (K_X11_elementAt l hl9 D Φ σ v1 ((x1 - (100:Int32))) hv2) hv1 ⟨Nat.le_of_ble_eq_true rfl, by decide⟩ ⟨w_735, ww_X11_elementAt⟩ rfl hy_X11_elementAt rfl ⟨(Nat.le_of_ble_eq_true rfl), (Nat.le_of_ble_eq_true rfl)⟩ hP hS hl.1 (Nat.le_of_ble_eq_true rfl) dX11_blockAt_19 rfl ⟨(Nat.le_of_ble_eq_true rfl), (Nat.le_of_ble_eq_true rfl)⟩) X hnt hS ⟨(Nat.le_of_ble_eq_true rfl), (Nat.le_of_ble_eq_true rfl)⟩ (fun k e => by have h9 := el_l e h; exact (sj h9).symm) (fun w3 H locs e hP hS => ?_)
    have h := el_r e h
    refine W.eq (g2 := F0 m 22 ls [cv Φ w3]) rfl ?_
    obtain ⟨v4, hv4, h⟩ := ob h
    refine c_gR X hP hv4 (Nat.le_of_ble_eq_true rfl) (Nat.le_of_ble_eq_true rfl) rfl w_280 dX11_blockAt_22 ?_
    exact N_X11_blockAt_25 X hl9 hnt hP hS (lv_sub hl [] rfl) h
  · have h := ine hc h
    refine c_aload_n hx hb dX11_blockAt_6 rfl (lv_at hl 0 rfl) ?_
    refine lv_iload_n hx hb dX11_blockAt_7 rfl (lv_at hl 1 rfl) ?_
    obtain ⟨v5, hv5, h⟩ := ob h
    obtain ⟨v6, hv6, h⟩ := ob h
    refine c_ct (c_tV X (K_X11_ruleAt l hl9 D Φ σ v5 (x1) hv6) hv5 ⟨Nat.le_of_ble_eq_true rfl, by decide⟩ ⟨w_1180, ww_X11_ruleAt⟩ rfl hy_X11_ruleAt rfl ⟨(Nat.le_of_ble_eq_true rfl), (Nat.le_of_ble_eq_true rfl)⟩ hP hS hl.1 (Nat.le_of_ble_eq_true rfl) dX11_blockAt_8 rfl ⟨(Nat.le_of_ble_eq_true rfl), (Nat.le_of_ble_eq_true rfl)⟩) X hnt hS ⟨(Nat.le_of_ble_eq_true rfl), (Nat.le_of_ble_eq_true rfl)⟩ (fun k e => by have h9 := el_l e h; exact (sj h9).symm) (fun w7 H locs e hP hS => ?_)
    have h := el_r e h
    refine W.eq (g2 := F0 m 11 ls [cv Φ w7]) rfl ?_
    refine lv_goto (tgt := 25) hx hb dX11_blockAt_11 rfl ?_
    exact N_X11_blockAt_25 X hl9 hnt hP hS (lv_sub hl [] rfl) h
theorem ww_X11_blockAt : Cond.instanceMethod yX11_blockAt ∈ BG ∧ Cond.selects (yX11_blockAt).cls yX11_blockAt yX11_blockAt ∈ BG ∧ Cond.initialized (yX11_blockAt).cls ∈ BG ∧ Cond.code yX11_blockAt cX11_blockAt 2 (some (.object "Cascadery$Rule")) ∈ BG := ⟨w_1309, w_53, w_56, w_1310⟩
theorem hy_X11_blockAt : (yX11_blockAt).cls ≠ "java/lang/invoke/MethodHandle" ∧ (yX11_blockAt).cls ≠ "java/lang/invoke/VarHandle" ∧ (parseMethodDescriptor (yX11_blockAt).desc).map (fun d => d.parameters.length) = some 1 := ⟨by decide, by decide, by decide +kernel⟩
def f_X11_declare_90 (k64 : Int32 → Int32 → Int32 → Int32 → Int32 → Option Nat → Int32 → cS → Option ((Nat ⊕ Int32) × cS)) (x0 : Nat) (x1 : Int32) (x2 : Int32) (x3 : Int32) (x4 : Int32) (x5 : Int32) (x6 : Option Nat) (x7 : Int32) (y0 : Option Nat) (y1 : Int32) (y2 : Int32) (y3 : Int32) (σ : cS) : Option ((Nat ⊕ Int32) × cS) := (rc σ y0 6).bind (fun v1 => (f_X6_enter v1 (y1) (y2) (y3) (x5) σ).bind (fun v2 => k64 (x1) (x2) (x3) (x4) (x5) (x6) ((x7 + (1:Int32))) v2))
def f_X11_declare_64  (x0 : Nat) : Nat → Int32 → Int32 → Int32 → Int32 → Int32 → Option Nat → Int32 → cS → Option ((Nat ⊕ Int32) × cS)
  | 0, _, _, _, _, _, _, _, _ => none
  | n + 1, x1, x2, x3, x4, x5, x6, x7, σ => (f_X11_lastOf (x2)).bind (fun v1 => if v1 < x7 then ((rc σ (some x0) 11).bind (fun v2 => (f_X11_markDeclaration v2 (x1) σ).bind (fun v3 => (rc v3 x6 6).bind (fun v4 => (f_X6_countDeclared v4  v3).bind (fun v5 => some (.inr v5, v3)))))) else (if (6:Int32) ≤ x3 then (f_X11_declare_90 (f_X11_declare_64 x0 n) x0 (x1) (x2) (x3) (x4) (x5) (x6) (x7) (x6) (x7) (x3) ((0:Int32)) σ) else (f_X11_declare_90 (f_X11_declare_64 x0 n) x0 (x1) (x2) (x3) (x4) (x5) (x6) (x7) (x6) (x7) (x3) (x4) σ)))
def f_X11_declare_55  (x0 : Nat) (x1 : Int32) (x2 : Int32) (x3 : Int32) (x4 : Int32) (x5 : Int32) (x6 : Option Nat) (y0 : Int32) (σ : cS) : Option ((Nat ⊕ Int32) × cS) := (f_X11_refuseArgument (y0) σ).bind (fun v1 => v1.1.elim (fun k => some (.inl k, v1.2)) (fun w2 => (f_X11_firstOf (x2)).bind (fun v3 => f_X11_declare_64 x0 4000 (x1) (x2) (x3) (x4) (x5) (x6) (v3) v1.2)))
def f_X11_declare_50  (x0 : Nat) (x1 : Int32) (x2 : Int32) (x3 : Int32) (x4 : Int32) (x5 : Int32) (x6 : Option Nat) (σ : cS) : Option ((Nat ⊕ Int32) × cS) := f_X11_declare_55 x0 (x1) (x2) (x3) (x4) (x5) (x6) ((1:Int32)) σ
def f_X11_declare_39  (x0 : Nat) (x1 : Int32) (x2 : Int32) (x3 : Int32) (x4 : Int32) (x5 : Int32) (x6 : Option Nat) (σ : cS) : Option ((Nat ⊕ Int32) × cS) := (f_X11_firstOf (x2)).bind (fun v1 => (f_X11_suits (v1) (x3)).bind (fun v2 => if v2 = (0:Int32) then (f_X11_declare_50 x0 (x1) (x2) (x3) (x4) (x5) (x6) σ) else (f_X11_declare_55 x0 (x1) (x2) (x3) (x4) (x5) (x6) ((0:Int32)) σ)))
def f_X11_declare (x0 : Nat) (x1 : Int32) (x2 : Int32) (x3 : Int32) (x4 : Int32) (x5 : Int32) (σ : cS) : Option ((Nat ⊕ Int32) × cS) := (rc σ (some x0) 11).bind (fun v1 => (f_X11_blockAt v1 (x1) σ).bind (fun v2 => v2.1.elim (fun k => some (.inl k, v2.2)) (fun w3 => (f_X11_isBelow (x2) ((16:Int32))).bind (fun v4 => if v4 = (0:Int32) then (f_X11_declare_50 x0 (x1) (x2) (x3) (x4) (x5) (w3) v2.2) else ((f_X11_isBelow (x3) ((11:Int32))).bind (fun v5 => if v5 = (0:Int32) then (f_X11_declare_50 x0 (x1) (x2) (x3) (x4) (x5) (w3) v2.2) else (if (6:Int32) ≤ x3 then (f_X11_declare_39 x0 (x1) (x2) (x3) (x4) (x5) (w3) v2.2) else ((f_X11_isNumber (x4)).bind (fun v6 => if v6 = (0:Int32) then (f_X11_declare_50 x0 (x1) (x2) (x3) (x4) (x5) (w3) v2.2) else (f_X11_declare_39 x0 (x1) (x2) (x3) (x4) (x5) (w3) v2.2))))))))))
set_option maxRecDepth 20000 in
set_option maxHeartbeats 4000000 in
theorem N_X11_declare_90 {p : Program} {l : Launch} {e : Env} {s : State} {m : MethodId} {args : Array Value} {below : List Frame} {meth : Method} {c : Code} {D : cD} {Φ : cG} {x0 : Nat} {k64 : Int32 → Int32 → Int32 → Int32 → Int32 → Option Nat → Int32 → cS → Option ((Nat ⊕ Int32) × cS)}  {x1 : Int32} {x2 : Int32} {x3 : Int32} {x4 : Int32} {x5 : Int32} {x6 : Option Nat} {x7 : Int32} {y0 : Option Nat} {y1 : Int32} {y2 : Int32} {y3 : Int32} {σ : cS} {H : Heap} {locs : List Loc} {ls : Array Slot} {q : (Nat ⊕ Int32) × cS} (X : cX p s m args meth c cX11_declare 8 (some .int) RX11 D Φ) (hl9 : l.stackTraces = false) (hnt : ∀ x ∈ c.exceptionTable.toList, False) (hP : cP D Φ σ H) (hS : va_S (cReg Φ) s.heap H locs) (hk64 : ∀ {x1 : Int32} {x2 : Int32} {x3 : Int32} {x4 : Int32} {x5 : Int32} {x6 : Option Nat} {x7 : Int32} {σ : cS} {H : Heap} {locs : List Loc} {ls : Array Slot}, cP D Φ σ H → va_S (cReg Φ) s.heap H locs → lv_has ls 8 [(0, cv Φ (some x0)), (1, .int x1), (2, .int x2), (3, .int x3), (4, .int x4), (5, .int x5), (6, cv Φ x6), (7, .int x7)] → k64 x1 x2 x3 x4 x5 x6 x7 σ = some q → cWt p l e 8 2 12 133 s m args below meth c D Φ vlI q H locs 2 12 (F0 m 64 ls [])) (hl : lv_has ls 8 [(0, cv Φ (some x0)), (1, .int x1), (2, .int x2), (3, .int x3), (4, .int x4), (5, .int x5), (6, cv Φ x6), (7, .int x7)]) (h : f_X11_declare_90 k64 x0 x1 x2 x3 x4 x5 x6 x7 y0 y1 y2 y3 σ = some q) : cWt p l e 8 2 12 133 s m args below meth c D Φ vlI q H locs 2 12 (F0 m 90 ls [.int y3, .int y2, .int y1, cv Φ y0]) := by
  have hx := X.1
  have hb := X.2.1
  have hown := X.2.2.2.1
  have hts := X.2.2.2.2.1
  have h : ((rc σ y0 6).bind (fun v1 => (f_X6_enter v1 (y1) (y2) (y3) (x5) σ).bind (fun v2 => k64 (x1) (x2) (x3) (x4) (x5) (x6) ((x7 + (1:Int32))) v2))) = some q := h
  refine lv_iload hx hb dX11_declare_90 (lv_at hl 5 rfl) ?_
  obtain ⟨v1, hv1, h⟩ := ob h
  obtain ⟨v2, hv2, h⟩ := ob h
  refine c_cw (c_runV X (K_X6_enter l D Φ σ v1 (y1) (y2) (y3) (x5) hv2) hv1 ⟨Nat.le_of_ble_eq_true rfl, by decide⟩ ⟨w_1321, ww_X6_enter⟩ rfl hy_X6_enter rfl ⟨(Nat.le_of_ble_eq_true rfl), (Nat.le_of_ble_eq_true rfl)⟩ hP hS hl.1 (Nat.le_of_ble_eq_true rfl) dX11_declare_92 rfl ⟨(Nat.le_of_ble_eq_true rfl), (Nat.le_of_ble_eq_true rfl)⟩) hS (fun H locs hP hS => ?_)
  refine W.eq (g2 := F0 m 95 ls []) rfl ?_
  refine c_iinc (v := (x7 + (1:Int32))) hx hb dX11_declare_95 hl (k := 7) rfl rfl (Nat.le_of_ble_eq_true rfl) (lvKa rfl (lvKa rfl (lvKa rfl (lvKa rfl (lvKa rfl (lvKa rfl (lvKr (lvKa rfl lvK0)))))))) rfl (fun ls (hl : lv_has ls 8 [(7, .int (x7 + (1:Int32))), (0, cv Φ (some x0)), (1, .int x1), (2, .int x2), (3, .int x3), (4, .int x4), (5, .int x5), (6, cv Φ x6)]) => ?_)
  refine lv_goto (tgt := 64) hx hb dX11_declare_98 rfl ?_
  exact hk64 hP hS (lv_sub hl [1, 2, 3, 4, 5, 6, 7, 0] rfl) h
set_option maxRecDepth 20000 in
set_option maxHeartbeats 4000000 in
theorem N_X11_declare_64 {p : Program} {l : Launch} {e : Env} {s : State} {m : MethodId} {args : Array Value} {below : List Frame} {meth : Method} {c : Code} {D : cD} {Φ : cG} {x0 : Nat}  {n : Nat} {x1 : Int32} {x2 : Int32} {x3 : Int32} {x4 : Int32} {x5 : Int32} {x6 : Option Nat} {x7 : Int32} {σ : cS} {H : Heap} {locs : List Loc} {ls : Array Slot} {q : (Nat ⊕ Int32) × cS} (X : cX p s m args meth c cX11_declare 8 (some .int) RX11 D Φ) (hl9 : l.stackTraces = false) (hnt : ∀ x ∈ c.exceptionTable.toList, False) (hP : cP D Φ σ H) (hS : va_S (cReg Φ) s.heap H locs)  (hl : lv_has ls 8 [(0, cv Φ (some x0)), (1, .int x1), (2, .int x2), (3, .int x3), (4, .int x4), (5, .int x5), (6, cv Φ x6), (7, .int x7)]) (h : f_X11_declare_64  x0 n x1 x2 x3 x4 x5 x6 x7 σ = some q) : cWt p l e 8 2 12 133 s m args below meth c D Φ vlI q H locs 2 12 (F0 m 64 ls []) := by
  have hx := X.1
  have hb := X.2.1
  have hown := X.2.2.2.1
  have hts := X.2.2.2.2.1
  induction n generalizing x1 x2 x3 x4 x5 x6 x7 σ H locs ls with
  | zero => exact absurd (show none = some q from h) (by simp)
  | succ n ih =>
    have h : ((f_X11_lastOf (x2)).bind (fun v1 => if v1 < x7 then ((rc σ (some x0) 11).bind (fun v2 => (f_X11_markDeclaration v2 (x1) σ).bind (fun v3 => (rc v3 x6 6).bind (fun v4 => (f_X6_countDeclared v4  v3).bind (fun v5 => some (.inr v5, v3)))))) else (if (6:Int32) ≤ x3 then (f_X11_declare_90 (f_X11_declare_64 x0 n) x0 (x1) (x2) (x3) (x4) (x5) (x6) (x7) (x6) (x7) (x3) ((0:Int32)) σ) else (f_X11_declare_90 (f_X11_declare_64 x0 n) x0 (x1) (x2) (x3) (x4) (x5) (x6) (x7) (x6) (x7) (x3) (x4) σ)))) = some q := h
    refine lv_iload hx hb dX11_declare_64 (lv_at hl 7 rfl) ?_
    refine lv_iload_n hx hb dX11_declare_66 rfl (lv_at hl 2 rfl) ?_
    obtain ⟨v1, hv1, h⟩ := ob h
    refine c_cr (c_runS X (K_X11_lastOf l D Φ σ (x2) hv1) ⟨w_1318, ww_X11_lastOf⟩ hy_X11_lastOf rfl ⟨(Nat.le_of_ble_eq_true rfl), (Nat.le_of_ble_eq_true rfl)⟩ hP hS hl.1 (Nat.le_of_ble_eq_true rfl) dX11_declare_67 rfl ⟨(Nat.le_of_ble_eq_true rfl), (Nat.le_of_ble_eq_true rfl)⟩) ?_
    refine lv_icmp_gt (tgt := 101) hx hb dX11_declare_70 rfl (fun hc => ?_) (fun hc => ?_)
    · have h := ip hc h
      refine c_aload_n hx hb dX11_declare_101 rfl (lv_at hl 0 rfl) ?_
      refine lv_iload_n hx hb dX11_declare_102 rfl (lv_at hl 1 rfl) ?_
      obtain ⟨v2, hv2, h⟩ := ob h
      obtain ⟨v3, hv3, h⟩ := ob h
      refine c_cw (c_runV X (K_X11_markDeclaration l D Φ σ v2 (x1) hv3) hv2 ⟨Nat.le_of_ble_eq_true rfl, by decide⟩ ⟨w_1326, ww_X11_markDeclaration⟩ rfl hy_X11_markDeclaration rfl ⟨(Nat.le_of_ble_eq_true rfl), (Nat.le_of_ble_eq_true rfl)⟩ hP hS hl.1 (Nat.le_of_ble_eq_true rfl) dX11_declare_103 rfl ⟨(Nat.le_of_ble_eq_true rfl), (Nat.le_of_ble_eq_true rfl)⟩) hS (fun H locs hP hS => ?_)
      refine W.eq (g2 := F0 m 106 ls []) rfl ?_
      refine c_aload hx hb dX11_declare_106 (lv_at hl 6 rfl) ?_
      obtain ⟨v4, hv4, h⟩ := ob h
      obtain ⟨v5, hv5, h⟩ := ob h
      refine c_cr (c_runV X (K_X6_countDeclared l D Φ v3 v4  hv5) hv4 ⟨Nat.le_of_ble_eq_true rfl, by decide⟩ ⟨w_1330, ww_X6_countDeclared⟩ rfl hy_X6_countDeclared rfl ⟨(Nat.le_of_ble_eq_true rfl), (Nat.le_of_ble_eq_true rfl)⟩ hP hS hl.1 (Nat.le_of_ble_eq_true rfl) dX11_declare_108 rfl ⟨(Nat.le_of_ble_eq_true rfl), (Nat.le_of_ble_eq_true rfl)⟩) ?_
      exact c_ti X hP hS (sj h).symm (Nat.le_of_ble_eq_true rfl) (Nat.le_of_ble_eq_true rfl) dX11_declare_111
    · have h := ine hc h
      refine c_aload hx hb dX11_declare_73 (lv_at hl 6 rfl) ?_
      refine lv_iload hx hb dX11_declare_75 (lv_at hl 7 rfl) ?_
      refine lv_iload_n hx hb dX11_declare_77 rfl (lv_at hl 3 rfl) ?_
      refine lv_iload_n hx hb dX11_declare_78 rfl (lv_at hl 3 rfl) ?_
      refine lv_bipush (v := (6:Int32)) hx hb dX11_declare_79 (by decide) ?_
      refine lv_icmp_ge (tgt := 89) hx hb dX11_declare_81 rfl (fun hc => ?_) (fun hc => ?_)
      · have h := ip hc h
        refine lv_iconst (v := (0:Int32)) hx hb dX11_declare_89 (by decide) ?_
        exact N_X11_declare_90 X hl9 hnt hP hS ih (lv_sub hl [0, 1, 2, 3, 4, 5, 6, 7] rfl) h
      · have h := ine hc h
        refine lv_iload hx hb dX11_declare_84 (lv_at hl 4 rfl) ?_
        refine lv_goto (tgt := 90) hx hb dX11_declare_86 rfl ?_
        exact N_X11_declare_90 X hl9 hnt hP hS ih (lv_sub hl [0, 1, 2, 3, 4, 5, 6, 7] rfl) h
set_option maxRecDepth 20000 in
set_option maxHeartbeats 4000000 in
theorem N_X11_declare_55 {p : Program} {l : Launch} {e : Env} {s : State} {m : MethodId} {args : Array Value} {below : List Frame} {meth : Method} {c : Code} {D : cD} {Φ : cG} {x0 : Nat}   {x1 : Int32} {x2 : Int32} {x3 : Int32} {x4 : Int32} {x5 : Int32} {x6 : Option Nat} {y0 : Int32} {σ : cS} {H : Heap} {locs : List Loc} {ls : Array Slot} {q : (Nat ⊕ Int32) × cS} (X : cX p s m args meth c cX11_declare 8 (some .int) RX11 D Φ) (hl9 : l.stackTraces = false) (hnt : ∀ x ∈ c.exceptionTable.toList, False) (hP : cP D Φ σ H) (hS : va_S (cReg Φ) s.heap H locs)  (hl : lv_has ls 8 [(0, cv Φ (some x0)), (1, .int x1), (2, .int x2), (3, .int x3), (4, .int x4), (5, .int x5), (6, cv Φ x6)]) (h : f_X11_declare_55  x0 x1 x2 x3 x4 x5 x6 y0 σ = some q) : cWt p l e 8 2 12 133 s m args below meth c D Φ vlI q H locs 1 6 (F0 m 55 ls [.int y0]) := by
  have hx := X.1
  have hb := X.2.1
  have hown := X.2.2.2.1
  have hts := X.2.2.2.2.1
  have h : ((f_X11_refuseArgument (y0) σ).bind (fun v1 => v1.1.elim (fun k => some (.inl k, v1.2)) (fun w2 => (f_X11_firstOf (x2)).bind (fun v3 => f_X11_declare_64 x0 4000 (x1) (x2) (x3) (x4) (x5) (x6) (v3) v1.2)))) = some q := h
  obtain ⟨v1, hv1, h⟩ := ob h
  refine c_ct (c_tS X (K_X11_refuseArgument l hl9 D Φ σ (y0) hv1) ⟨w_638, ww_X11_refuseArgument⟩ hy_X11_refuseArgument rfl ⟨(Nat.le_of_ble_eq_true rfl), (Nat.le_of_ble_eq_true rfl)⟩ hP hS hl.1 (Nat.le_of_ble_eq_true rfl) dX11_declare_55 rfl ⟨(Nat.le_of_ble_eq_true rfl), (Nat.le_of_ble_eq_true rfl)⟩) X hnt hS ⟨(Nat.le_of_ble_eq_true rfl), (Nat.le_of_ble_eq_true rfl)⟩ (fun k e => by have h9 := el_l e h; exact (sj h9).symm) (fun w2 H locs e hP hS => ?_)
  have h := el_r e h
  refine W.eq (g2 := F0 m 58 ls []) rfl ?_
  refine lv_iload_n hx hb dX11_declare_58 rfl (lv_at hl 2 rfl) ?_
  obtain ⟨v3, hv3, h⟩ := ob h
  refine c_cr (c_runS X (K_X11_firstOf l D Φ v1.2 (x2) hv3) ⟨w_1314, ww_X11_firstOf⟩ hy_X11_firstOf rfl ⟨(Nat.le_of_ble_eq_true rfl), (Nat.le_of_ble_eq_true rfl)⟩ hP hS hl.1 (Nat.le_of_ble_eq_true rfl) dX11_declare_59 rfl ⟨(Nat.le_of_ble_eq_true rfl), (Nat.le_of_ble_eq_true rfl)⟩) ?_
  refine c_istore hx hb dX11_declare_62 hl (Nat.le_of_ble_eq_true rfl) (lvKa rfl (lvKa rfl (lvKa rfl (lvKa rfl (lvKa rfl (lvKa rfl (lvKr lvK0))))))) rfl (fun ls (hl : lv_has ls 8 [(7, .int v3), (0, cv Φ (some x0)), (1, .int x1), (2, .int x2), (3, .int x3), (4, .int x4), (5, .int x5), (6, cv Φ x6)]) => ?_)
  exact N_X11_declare_64 X hl9 hnt hP hS (lv_sub hl [1, 2, 3, 4, 5, 6, 7, 0] rfl) h
set_option maxRecDepth 20000 in
set_option maxHeartbeats 4000000 in
theorem N_X11_declare_50 {p : Program} {l : Launch} {e : Env} {s : State} {m : MethodId} {args : Array Value} {below : List Frame} {meth : Method} {c : Code} {D : cD} {Φ : cG} {x0 : Nat}   {x1 : Int32} {x2 : Int32} {x3 : Int32} {x4 : Int32} {x5 : Int32} {x6 : Option Nat} {σ : cS} {H : Heap} {locs : List Loc} {ls : Array Slot} {q : (Nat ⊕ Int32) × cS} (X : cX p s m args meth c cX11_declare 8 (some .int) RX11 D Φ) (hl9 : l.stackTraces = false) (hnt : ∀ x ∈ c.exceptionTable.toList, False) (hP : cP D Φ σ H) (hS : va_S (cReg Φ) s.heap H locs)  (hl : lv_has ls 8 [(0, cv Φ (some x0)), (1, .int x1), (2, .int x2), (3, .int x3), (4, .int x4), (5, .int x5), (6, cv Φ x6)]) (h : f_X11_declare_50  x0 x1 x2 x3 x4 x5 x6 σ = some q) : cWt p l e 8 2 12 133 s m args below meth c D Φ vlI q H locs 1 6 (F0 m 50 ls []) := by
  have hx := X.1
  have hb := X.2.1
  have hown := X.2.2.2.1
  have hts := X.2.2.2.2.1
  have h : (f_X11_declare_55 x0 (x1) (x2) (x3) (x4) (x5) (x6) ((1:Int32)) σ) = some q := h
  refine lv_iconst (v := (1:Int32)) hx hb dX11_declare_50 (by decide) ?_
  refine lv_goto (tgt := 55) hx hb dX11_declare_51 rfl ?_
  exact N_X11_declare_55 X hl9 hnt hP hS (lv_sub hl [0, 1, 2, 3, 4, 5, 6] rfl) h
set_option maxRecDepth 20000 in
set_option maxHeartbeats 4000000 in
theorem N_X11_declare_39 {p : Program} {l : Launch} {e : Env} {s : State} {m : MethodId} {args : Array Value} {below : List Frame} {meth : Method} {c : Code} {D : cD} {Φ : cG} {x0 : Nat}   {x1 : Int32} {x2 : Int32} {x3 : Int32} {x4 : Int32} {x5 : Int32} {x6 : Option Nat} {σ : cS} {H : Heap} {locs : List Loc} {ls : Array Slot} {q : (Nat ⊕ Int32) × cS} (X : cX p s m args meth c cX11_declare 8 (some .int) RX11 D Φ) (hl9 : l.stackTraces = false) (hnt : ∀ x ∈ c.exceptionTable.toList, False) (hP : cP D Φ σ H) (hS : va_S (cReg Φ) s.heap H locs)  (hl : lv_has ls 8 [(0, cv Φ (some x0)), (1, .int x1), (2, .int x2), (3, .int x3), (4, .int x4), (5, .int x5), (6, cv Φ x6)]) (h : f_X11_declare_39  x0 x1 x2 x3 x4 x5 x6 σ = some q) : cWt p l e 8 2 12 133 s m args below meth c D Φ vlI q H locs 1 6 (F0 m 39 ls []) := by
  have hx := X.1
  have hb := X.2.1
  have hown := X.2.2.2.1
  have hts := X.2.2.2.2.1
  have h : ((f_X11_firstOf (x2)).bind (fun v1 => (f_X11_suits (v1) (x3)).bind (fun v2 => if v2 = (0:Int32) then (f_X11_declare_50 x0 (x1) (x2) (x3) (x4) (x5) (x6) σ) else (f_X11_declare_55 x0 (x1) (x2) (x3) (x4) (x5) (x6) ((0:Int32)) σ)))) = some q := h
  refine lv_iload_n hx hb dX11_declare_39 rfl (lv_at hl 2 rfl) ?_
  obtain ⟨v1, hv1, h⟩ := ob h
  refine c_cr (c_runS X (K_X11_firstOf l D Φ σ (x2) hv1) ⟨w_1314, ww_X11_firstOf⟩ hy_X11_firstOf rfl ⟨(Nat.le_of_ble_eq_true rfl), (Nat.le_of_ble_eq_true rfl)⟩ hP hS hl.1 (Nat.le_of_ble_eq_true rfl) dX11_declare_40 rfl ⟨(Nat.le_of_ble_eq_true rfl), (Nat.le_of_ble_eq_true rfl)⟩) ?_
  refine lv_iload_n hx hb dX11_declare_43 rfl (lv_at hl 3 rfl) ?_
  obtain ⟨v2, hv2, h⟩ := ob h
  refine c_cr (c_runS X (K_X11_suits l D Φ σ (v1) (x3) hv2) ⟨w_1317, ww_X11_suits⟩ hy_X11_suits rfl ⟨(Nat.le_of_ble_eq_true rfl), (Nat.le_of_ble_eq_true rfl)⟩ hP hS hl.1 (Nat.le_of_ble_eq_true rfl) dX11_declare_44 rfl ⟨(Nat.le_of_ble_eq_true rfl), (Nat.le_of_ble_eq_true rfl)⟩) ?_
  refine lv_if_ne (tgt := 54) hx hb dX11_declare_47 rfl (fun hc => ?_) (fun hc => ?_)
  · have h := ine hc h
    refine lv_iconst (v := (0:Int32)) hx hb dX11_declare_54 (by decide) ?_
    exact N_X11_declare_55 X hl9 hnt hP hS (lv_sub hl [0, 1, 2, 3, 4, 5, 6] rfl) h
  · have h := ip hc h
    exact N_X11_declare_50 X hl9 hnt hP hS (lv_sub hl [0, 1, 2, 3, 4, 5, 6] rfl) h
set_option maxRecDepth 20000 in
set_option maxHeartbeats 4000000 in
theorem K_X11_declare (l : Launch) (hl9 : l.stackTraces = false) (D : cD) (Φ : cG) (σ : cS) (x0 : Nat) (x1 : Int32) (x2 : Int32) (x3 : Int32) (x4 : Int32) (x5 : Int32) {q : (Nat ⊕ Int32) × cS} (h : f_X11_declare x0 x1 x2 x3 x4 x5 σ = some q) : vx_Met l yX11_declare (Cond.code yX11_declare cX11_declare 8 (some .int) :: BG) (rA 8 2 12 133) (cPc D Φ σ [cv Φ (some x0), .int x1, .int x2, .int x3, .int x4, .int x5]) (cQt vlI D Φ q) (cXC D Φ q) 2 12 (cReg Φ) := by
  refine vx_ofW (cc := cX11_declare) (maxL := 8) (ret := (some .int)) (by decide) rfl ?_
  intro p e s m args below meth c s₁ B hml hnt hv
  obtain ⟨rfl, hP, hK, hZ⟩ := hv
  have X : cX p s m [cv Φ (some x0), .int x1, .int x2, .int x3, .int x4, .int x5].toArray meth c cX11_declare 8 (some .int) RX11 D Φ := cX_of B hml hK hZ
  have hx := X.1
  have hb := X.2.1
  have hown := X.2.2.2.1
  have hts := X.2.2.2.2.1
  have hl := lv_entry [cv Φ (some x0), .int x1, .int x2, .int x3, .int x4, .int x5] (n := 8) (by simp only [lgs_r, lgs_i, lgs_l, lgs_0, List.length]; exact Nat.le_of_ble_eq_true rfl)
  rw [lg_entry_eq]
  generalize (lg_sl [cv Φ (some x0), .int x1, .int x2, .int x3, .int x4, .int x5] ++ List.replicate (8 - (lg_sl [cv Φ (some x0), .int x1, .int x2, .int x3, .int x4, .int x5]).length) Slot.unset).toArray = ls at hl ⊢
  simp only [lv_args_r, lv_args_i, lv_args_l, lv_args_0] at hl
  have hl : lv_has ls 8 [(0, cv Φ (some x0)), (1, .int x1), (2, .int x2), (3, .int x3), (4, .int x4), (5, .int x5)] := hl
  have hS : va_S (cReg Φ) s.heap s.heap [] := va_S.rf
  show cWt p l e 8 2 12 133 s m [cv Φ (some x0), .int x1, .int x2, .int x3, .int x4, .int x5].toArray below meth c D Φ vlI q s.heap [] 0 0 (F0 m 0 ls [])
  have h : ((rc σ (some x0) 11).bind (fun v1 => (f_X11_blockAt v1 (x1) σ).bind (fun v2 => v2.1.elim (fun k => some (.inl k, v2.2)) (fun w3 => (f_X11_isBelow (x2) ((16:Int32))).bind (fun v4 => if v4 = (0:Int32) then (f_X11_declare_50 x0 (x1) (x2) (x3) (x4) (x5) (w3) v2.2) else ((f_X11_isBelow (x3) ((11:Int32))).bind (fun v5 => if v5 = (0:Int32) then (f_X11_declare_50 x0 (x1) (x2) (x3) (x4) (x5) (w3) v2.2) else (if (6:Int32) ≤ x3 then (f_X11_declare_39 x0 (x1) (x2) (x3) (x4) (x5) (w3) v2.2) else ((f_X11_isNumber (x4)).bind (fun v6 => if v6 = (0:Int32) then (f_X11_declare_50 x0 (x1) (x2) (x3) (x4) (x5) (w3) v2.2) else (f_X11_declare_39 x0 (x1) (x2) (x3) (x4) (x5) (w3) v2.2))))))))))) = some q := h
  refine c_aload_n hx hb dX11_declare_0 rfl (lv_at hl 0 rfl) ?_
  refine lv_iload_n hx hb dX11_declare_1 rfl (lv_at hl 1 rfl) ?_
  obtain ⟨v1, hv1, h⟩ := ob h
  obtain ⟨v2, hv2, h⟩ := ob h
  refine c_ct (c_tV X (K_X11_blockAt l hl9 D Φ σ v1 (x1) hv2) hv1 ⟨Nat.le_of_ble_eq_true rfl, by decide⟩ ⟨w_1307, ww_X11_blockAt⟩ rfl hy_X11_blockAt rfl ⟨(Nat.le_of_ble_eq_true rfl), (Nat.le_of_ble_eq_true rfl)⟩ hP hS hl.1 (Nat.le_of_ble_eq_true rfl) dX11_declare_2 rfl ⟨(Nat.le_of_ble_eq_true rfl), (Nat.le_of_ble_eq_true rfl)⟩) X hnt hS ⟨(Nat.le_of_ble_eq_true rfl), (Nat.le_of_ble_eq_true rfl)⟩ (fun k e => by have h9 := el_l e h; exact (sj h9).symm) (fun w3 H locs e hP hS => ?_)
  have h := el_r e h
  refine W.eq (g2 := F0 m 5 ls [cv Φ w3]) rfl ?_
  refine c_astore hx hb dX11_declare_5 hl (Nat.le_of_ble_eq_true rfl) (lvKa rfl (lvKa rfl (lvKa rfl (lvKa rfl (lvKa rfl (lvKi lvK0)))))) rfl (fun ls (hl : lv_has ls 8 [(6, cv Φ w3), (0, cv Φ (some x0)), (1, .int x1), (2, .int x2), (3, .int x3), (4, .int x4), (5, .int x5)]) => ?_)
  refine lv_iload_n hx hb dX11_declare_7 rfl (lv_at hl 3 rfl) ?_
  refine lv_bipush (v := (16:Int32)) hx hb dX11_declare_8 (by decide) ?_
  obtain ⟨v4, hv4, h⟩ := ob h
  refine c_cr (c_runS X (K_X11_isBelow l D Φ v2.2 (x2) ((16:Int32)) hv4) ⟨w_635, ww_X11_isBelow⟩ hy_X11_isBelow rfl ⟨(Nat.le_of_ble_eq_true rfl), (Nat.le_of_ble_eq_true rfl)⟩ hP hS hl.1 (Nat.le_of_ble_eq_true rfl) dX11_declare_10 rfl ⟨(Nat.le_of_ble_eq_true rfl), (Nat.le_of_ble_eq_true rfl)⟩) ?_
  refine lv_if_eq (tgt := 50) hx hb dX11_declare_13 rfl (fun hc => ?_) (fun hc => ?_)
  · have h := ip hc h
    exact N_X11_declare_50 X hl9 hnt hP hS (lv_sub hl [1, 2, 3, 4, 5, 6, 0] rfl) h
  · have h := ine hc h
    refine lv_iload_n hx hb dX11_declare_16 rfl (lv_at hl 4 rfl) ?_
    refine lv_bipush (v := (11:Int32)) hx hb dX11_declare_17 (by decide) ?_
    obtain ⟨v5, hv5, h⟩ := ob h
    refine c_cr (c_runS X (K_X11_isBelow l D Φ v2.2 (x3) ((11:Int32)) hv5) ⟨w_635, ww_X11_isBelow⟩ hy_X11_isBelow rfl ⟨(Nat.le_of_ble_eq_true rfl), (Nat.le_of_ble_eq_true rfl)⟩ hP hS hl.1 (Nat.le_of_ble_eq_true rfl) dX11_declare_19 rfl ⟨(Nat.le_of_ble_eq_true rfl), (Nat.le_of_ble_eq_true rfl)⟩) ?_
    refine lv_if_eq (tgt := 50) hx hb dX11_declare_22 rfl (fun hc => ?_) (fun hc => ?_)
    · have h := ip hc h
      exact N_X11_declare_50 X hl9 hnt hP hS (lv_sub hl [1, 2, 3, 4, 5, 6, 0] rfl) h
    · have h := ine hc h
      refine lv_iload_n hx hb dX11_declare_25 rfl (lv_at hl 4 rfl) ?_
      refine lv_bipush (v := (6:Int32)) hx hb dX11_declare_26 (by decide) ?_
      refine lv_icmp_ge (tgt := 39) hx hb dX11_declare_28 rfl (fun hc => ?_) (fun hc => ?_)
      · have h := ip hc h
        exact N_X11_declare_39 X hl9 hnt hP hS (lv_sub hl [1, 2, 3, 4, 5, 6, 0] rfl) h
      · have h := ine hc h
        refine lv_iload hx hb dX11_declare_31 (lv_at hl 5 rfl) ?_
        obtain ⟨v6, hv6, h⟩ := ob h
        refine c_cr (c_runS X (K_X11_isNumber l D Φ v2.2 (x4) hv6) ⟨w_1311, ww_X11_isNumber⟩ hy_X11_isNumber rfl ⟨(Nat.le_of_ble_eq_true rfl), (Nat.le_of_ble_eq_true rfl)⟩ hP hS hl.1 (Nat.le_of_ble_eq_true rfl) dX11_declare_33 rfl ⟨(Nat.le_of_ble_eq_true rfl), (Nat.le_of_ble_eq_true rfl)⟩) ?_
        refine lv_if_eq (tgt := 50) hx hb dX11_declare_36 rfl (fun hc => ?_) (fun hc => ?_)
        · have h := ip hc h
          exact N_X11_declare_50 X hl9 hnt hP hS (lv_sub hl [1, 2, 3, 4, 5, 6, 0] rfl) h
        · have h := ine hc h
          exact N_X11_declare_39 X hl9 hnt hP hS (lv_sub hl [1, 2, 3, 4, 5, 6, 0] rfl) h
theorem ww_X11_declare : Cond.instanceMethod yX11_declare ∈ BG ∧ Cond.selects (yX11_declare).cls yX11_declare yX11_declare ∈ BG ∧ Cond.initialized (yX11_declare).cls ∈ BG ∧ Cond.code yX11_declare cX11_declare 8 (some .int) ∈ BG := ⟨w_1304, w_1305, w_56, w_1306⟩
theorem hy_X11_declare : (yX11_declare).cls ≠ "java/lang/invoke/MethodHandle" ∧ (yX11_declare).cls ≠ "java/lang/invoke/VarHandle" ∧ (parseMethodDescriptor (yX11_declare).desc).map (fun d => d.parameters.length) = some 5 := ⟨by decide, by decide, by decide +kernel⟩
def f_X11_declareVar_94 (k66 : Int32 → Int32 → Int32 → Int32 → Int32 → Int32 → Option Nat → Int32 → cS → Option ((Nat ⊕ Int32) × cS)) (x0 : Nat) (x1 : Int32) (x2 : Int32) (x3 : Int32) (x4 : Int32) (x5 : Int32) (x6 : Int32) (x7 : Option Nat) (x8 : Int32) (y0 : Option Nat) (y1 : Int32) (y2 : Int32) (y3 : Int32) (σ : cS) : Option ((Nat ⊕ Int32) × cS) := (rc σ y0 6).bind (fun v1 => (f_X6_enter v1 (y1) (y2) (y3) (x6) σ).bind (fun v2 => (rc v2 x7 6).bind (fun v3 => (f_X6_enterVariable v3 (x8) (x3) (x4) v2).bind (fun v4 => k66 (x1) (x2) (x3) (x4) (x5) (x6) (x7) ((x8 + (1:Int32))) v4))))
def f_X11_declareVar_66  (x0 : Nat) : Nat → Int32 → Int32 → Int32 → Int32 → Int32 → Int32 → Option Nat → Int32 → cS → Option ((Nat ⊕ Int32) × cS)
  | 0, _, _, _, _, _, _, _, _, _ => none
  | n + 1, x1, x2, x3, x4, x5, x6, x7, x8, σ => (f_X11_lastOf (x2)).bind (fun v1 => if v1 < x8 then ((rc σ (some x0) 11).bind (fun v2 => (f_X11_markDeclaration v2 (x1) σ).bind (fun v3 => (rc v3 x7 6).bind (fun v4 => (f_X6_countDeclared v4  v3).bind (fun v5 => some (.inr v5, v3)))))) else (if (6:Int32) ≤ x4 then (f_X11_declareVar_94 (f_X11_declareVar_66 x0 n) x0 (x1) (x2) (x3) (x4) (x5) (x6) (x7) (x8) (x7) (x8) ((11:Int32)) ((0:Int32)) σ) else (f_X11_declareVar_94 (f_X11_declareVar_66 x0 n) x0 (x1) (x2) (x3) (x4) (x5) (x6) (x7) (x8) (x7) (x8) ((11:Int32)) (x5) σ)))
def f_X11_declareVar_57  (x0 : Nat) (x1 : Int32) (x2 : Int32) (x3 : Int32) (x4 : Int32) (x5 : Int32) (x6 : Int32) (x7 : Option Nat) (y0 : Int32) (σ : cS) : Option ((Nat ⊕ Int32) × cS) := (f_X11_refuseArgument (y0) σ).bind (fun v1 => v1.1.elim (fun k => some (.inl k, v1.2)) (fun w2 => (f_X11_firstOf (x2)).bind (fun v3 => f_X11_declareVar_66 x0 4000 (x1) (x2) (x3) (x4) (x5) (x6) (x7) (v3) v1.2)))
def f_X11_declareVar_52  (x0 : Nat) (x1 : Int32) (x2 : Int32) (x3 : Int32) (x4 : Int32) (x5 : Int32) (x6 : Int32) (x7 : Option Nat) (σ : cS) : Option ((Nat ⊕ Int32) × cS) := f_X11_declareVar_57 x0 (x1) (x2) (x3) (x4) (x5) (x6) (x7) ((1:Int32)) σ
def f_X11_declareVar_44  (x0 : Nat) (x1 : Int32) (x2 : Int32) (x3 : Int32) (x4 : Int32) (x5 : Int32) (x6 : Int32) (x7 : Option Nat) (σ : cS) : Option ((Nat ⊕ Int32) × cS) := (f_X11_isNumber (x5)).bind (fun v1 => if v1 = (0:Int32) then (f_X11_declareVar_52 x0 (x1) (x2) (x3) (x4) (x5) (x6) (x7) σ) else (f_X11_declareVar_57 x0 (x1) (x2) (x3) (x4) (x5) (x6) (x7) ((0:Int32)) σ))
def f_X11_declareVar (x0 : Nat) (x1 : Int32) (x2 : Int32) (x3 : Int32) (x4 : Int32) (x5 : Int32) (x6 : Int32) (σ : cS) : Option ((Nat ⊕ Int32) × cS) := (rc σ (some x0) 11).bind (fun v1 => (f_X11_blockAt v1 (x1) σ).bind (fun v2 => v2.1.elim (fun k => some (.inl k, v2.2)) (fun w3 => (f_X11_isBelow (x2) ((16:Int32))).bind (fun v4 => if v4 = (0:Int32) then (f_X11_declareVar_52 x0 (x1) (x2) (x3) (x4) (x5) (x6) (w3) v2.2) else (if x3 < (12:Int32) then (f_X11_declareVar_52 x0 (x1) (x2) (x3) (x4) (x5) (x6) (w3) v2.2) else (if (15:Int32) ≤ x3 then (f_X11_declareVar_52 x0 (x1) (x2) (x3) (x4) (x5) (x6) (w3) v2.2) else (if x4 = ((-1):Int32) then (f_X11_declareVar_44 x0 (x1) (x2) (x3) (x4) (x5) (x6) (w3) v2.2) else ((f_X11_isBelow (x4) ((7:Int32))).bind (fun v5 => if v5 = (0:Int32) then (f_X11_declareVar_52 x0 (x1) (x2) (x3) (x4) (x5) (x6) (w3) v2.2) else (f_X11_declareVar_44 x0 (x1) (x2) (x3) (x4) (x5) (x6) (w3) v2.2))))))))))
set_option maxRecDepth 20000 in
set_option maxHeartbeats 4000000 in
theorem N_X11_declareVar_94 {p : Program} {l : Launch} {e : Env} {s : State} {m : MethodId} {args : Array Value} {below : List Frame} {meth : Method} {c : Code} {D : cD} {Φ : cG} {x0 : Nat} {k66 : Int32 → Int32 → Int32 → Int32 → Int32 → Int32 → Option Nat → Int32 → cS → Option ((Nat ⊕ Int32) × cS)}  {x1 : Int32} {x2 : Int32} {x3 : Int32} {x4 : Int32} {x5 : Int32} {x6 : Int32} {x7 : Option Nat} {x8 : Int32} {y0 : Option Nat} {y1 : Int32} {y2 : Int32} {y3 : Int32} {σ : cS} {H : Heap} {locs : List Loc} {ls : Array Slot} {q : (Nat ⊕ Int32) × cS} (X : cX p s m args meth c cX11_declareVar 9 (some .int) RX11 D Φ) (hl9 : l.stackTraces = false) (hnt : ∀ x ∈ c.exceptionTable.toList, False) (hP : cP D Φ σ H) (hS : va_S (cReg Φ) s.heap H locs) (hk66 : ∀ {x1 : Int32} {x2 : Int32} {x3 : Int32} {x4 : Int32} {x5 : Int32} {x6 : Int32} {x7 : Option Nat} {x8 : Int32} {σ : cS} {H : Heap} {locs : List Loc} {ls : Array Slot}, cP D Φ σ H → va_S (cReg Φ) s.heap H locs → lv_has ls 9 [(0, cv Φ (some x0)), (1, .int x1), (2, .int x2), (3, .int x3), (4, .int x4), (5, .int x5), (6, .int x6), (7, cv Φ x7), (8, .int x8)] → k66 x1 x2 x3 x4 x5 x6 x7 x8 σ = some q → cWt p l e 8 2 12 133 s m args below meth c D Φ vlI q H locs 2 12 (F0 m 66 ls [])) (hl : lv_has ls 9 [(0, cv Φ (some x0)), (1, .int x1), (2, .int x2), (3, .int x3), (4, .int x4), (5, .int x5), (6, .int x6), (7, cv Φ x7), (8, .int x8)]) (h : f_X11_declareVar_94 k66 x0 x1 x2 x3 x4 x5 x6 x7 x8 y0 y1 y2 y3 σ = some q) : cWt p l e 8 2 12 133 s m args below meth c D Φ vlI q H locs 2 12 (F0 m 94 ls [.int y3, .int y2, .int y1, cv Φ y0]) := by
  have hx := X.1
  have hb := X.2.1
  have hown := X.2.2.2.1
  have hts := X.2.2.2.2.1
  have h : ((rc σ y0 6).bind (fun v1 => (f_X6_enter v1 (y1) (y2) (y3) (x6) σ).bind (fun v2 => (rc v2 x7 6).bind (fun v3 => (f_X6_enterVariable v3 (x8) (x3) (x4) v2).bind (fun v4 => k66 (x1) (x2) (x3) (x4) (x5) (x6) (x7) ((x8 + (1:Int32))) v4))))) = some q := h
  refine lv_iload hx hb dX11_declareVar_94 (lv_at hl 6 rfl) ?_
  obtain ⟨v1, hv1, h⟩ := ob h
  obtain ⟨v2, hv2, h⟩ := ob h
  refine c_cw (c_runV X (K_X6_enter l D Φ σ v1 (y1) (y2) (y3) (x6) hv2) hv1 ⟨Nat.le_of_ble_eq_true rfl, by decide⟩ ⟨w_1321, ww_X6_enter⟩ rfl hy_X6_enter rfl ⟨(Nat.le_of_ble_eq_true rfl), (Nat.le_of_ble_eq_true rfl)⟩ hP hS hl.1 (Nat.le_of_ble_eq_true rfl) dX11_declareVar_96 rfl ⟨(Nat.le_of_ble_eq_true rfl), (Nat.le_of_ble_eq_true rfl)⟩) hS (fun H locs hP hS => ?_)
  refine W.eq (g2 := F0 m 99 ls []) rfl ?_
  refine c_aload hx hb dX11_declareVar_99 (lv_at hl 7 rfl) ?_
  refine lv_iload hx hb dX11_declareVar_101 (lv_at hl 8 rfl) ?_
  refine lv_iload_n hx hb dX11_declareVar_103 rfl (lv_at hl 3 rfl) ?_
  refine lv_iload hx hb dX11_declareVar_104 (lv_at hl 4 rfl) ?_
  obtain ⟨v3, hv3, h⟩ := ob h
  obtain ⟨v4, hv4, h⟩ := ob h
  refine c_cw (c_runV X (K_X6_enterVariable l D Φ v2 v3 (x8) (x3) (x4) hv4) hv3 ⟨Nat.le_of_ble_eq_true rfl, by decide⟩ ⟨w_1350, ww_X6_enterVariable⟩ rfl hy_X6_enterVariable rfl ⟨(Nat.le_of_ble_eq_true rfl), (Nat.le_of_ble_eq_true rfl)⟩ hP hS hl.1 (Nat.le_of_ble_eq_true rfl) dX11_declareVar_106 rfl ⟨(Nat.le_of_ble_eq_true rfl), (Nat.le_of_ble_eq_true rfl)⟩) hS (fun H locs hP hS => ?_)
  refine W.eq (g2 := F0 m 109 ls []) rfl ?_
  refine c_iinc (v := (x8 + (1:Int32))) hx hb dX11_declareVar_109 hl (k := 8) rfl rfl (Nat.le_of_ble_eq_true rfl) (lvKa rfl (lvKa rfl (lvKa rfl (lvKa rfl (lvKa rfl (lvKa rfl (lvKa rfl (lvKr (lvKa rfl lvK0))))))))) rfl (fun ls (hl : lv_has ls 9 [(8, .int (x8 + (1:Int32))), (0, cv Φ (some x0)), (1, .int x1), (2, .int x2), (3, .int x3), (4, .int x4), (5, .int x5), (6, .int x6), (7, cv Φ x7)]) => ?_)
  refine lv_goto (tgt := 66) hx hb dX11_declareVar_112 rfl ?_
  exact hk66 hP hS (lv_sub hl [1, 2, 3, 4, 5, 6, 7, 8, 0] rfl) h
set_option maxRecDepth 20000 in
set_option maxHeartbeats 4000000 in
theorem N_X11_declareVar_66 {p : Program} {l : Launch} {e : Env} {s : State} {m : MethodId} {args : Array Value} {below : List Frame} {meth : Method} {c : Code} {D : cD} {Φ : cG} {x0 : Nat}  {n : Nat} {x1 : Int32} {x2 : Int32} {x3 : Int32} {x4 : Int32} {x5 : Int32} {x6 : Int32} {x7 : Option Nat} {x8 : Int32} {σ : cS} {H : Heap} {locs : List Loc} {ls : Array Slot} {q : (Nat ⊕ Int32) × cS} (X : cX p s m args meth c cX11_declareVar 9 (some .int) RX11 D Φ) (hl9 : l.stackTraces = false) (hnt : ∀ x ∈ c.exceptionTable.toList, False) (hP : cP D Φ σ H) (hS : va_S (cReg Φ) s.heap H locs)  (hl : lv_has ls 9 [(0, cv Φ (some x0)), (1, .int x1), (2, .int x2), (3, .int x3), (4, .int x4), (5, .int x5), (6, .int x6), (7, cv Φ x7), (8, .int x8)]) (h : f_X11_declareVar_66  x0 n x1 x2 x3 x4 x5 x6 x7 x8 σ = some q) : cWt p l e 8 2 12 133 s m args below meth c D Φ vlI q H locs 2 12 (F0 m 66 ls []) := by
  have hx := X.1
  have hb := X.2.1
  have hown := X.2.2.2.1
  have hts := X.2.2.2.2.1
  induction n generalizing x1 x2 x3 x4 x5 x6 x7 x8 σ H locs ls with
  | zero => exact absurd (show none = some q from h) (by simp)
  | succ n ih =>
    have h : ((f_X11_lastOf (x2)).bind (fun v1 => if v1 < x8 then ((rc σ (some x0) 11).bind (fun v2 => (f_X11_markDeclaration v2 (x1) σ).bind (fun v3 => (rc v3 x7 6).bind (fun v4 => (f_X6_countDeclared v4  v3).bind (fun v5 => some (.inr v5, v3)))))) else (if (6:Int32) ≤ x4 then (f_X11_declareVar_94 (f_X11_declareVar_66 x0 n) x0 (x1) (x2) (x3) (x4) (x5) (x6) (x7) (x8) (x7) (x8) ((11:Int32)) ((0:Int32)) σ) else (f_X11_declareVar_94 (f_X11_declareVar_66 x0 n) x0 (x1) (x2) (x3) (x4) (x5) (x6) (x7) (x8) (x7) (x8) ((11:Int32)) (x5) σ)))) = some q := h
    refine lv_iload hx hb dX11_declareVar_66 (lv_at hl 8 rfl) ?_
    refine lv_iload_n hx hb dX11_declareVar_68 rfl (lv_at hl 2 rfl) ?_
    obtain ⟨v1, hv1, h⟩ := ob h
    refine c_cr (c_runS X (K_X11_lastOf l D Φ σ (x2) hv1) ⟨w_1318, ww_X11_lastOf⟩ hy_X11_lastOf rfl ⟨(Nat.le_of_ble_eq_true rfl), (Nat.le_of_ble_eq_true rfl)⟩ hP hS hl.1 (Nat.le_of_ble_eq_true rfl) dX11_declareVar_69 rfl ⟨(Nat.le_of_ble_eq_true rfl), (Nat.le_of_ble_eq_true rfl)⟩) ?_
    refine lv_icmp_gt (tgt := 115) hx hb dX11_declareVar_72 rfl (fun hc => ?_) (fun hc => ?_)
    · have h := ip hc h
      refine c_aload_n hx hb dX11_declareVar_115 rfl (lv_at hl 0 rfl) ?_
      refine lv_iload_n hx hb dX11_declareVar_116 rfl (lv_at hl 1 rfl) ?_
      obtain ⟨v2, hv2, h⟩ := ob h
      obtain ⟨v3, hv3, h⟩ := ob h
      refine c_cw (c_runV X (K_X11_markDeclaration l D Φ σ v2 (x1) hv3) hv2 ⟨Nat.le_of_ble_eq_true rfl, by decide⟩ ⟨w_1326, ww_X11_markDeclaration⟩ rfl hy_X11_markDeclaration rfl ⟨(Nat.le_of_ble_eq_true rfl), (Nat.le_of_ble_eq_true rfl)⟩ hP hS hl.1 (Nat.le_of_ble_eq_true rfl) dX11_declareVar_117 rfl ⟨(Nat.le_of_ble_eq_true rfl), (Nat.le_of_ble_eq_true rfl)⟩) hS (fun H locs hP hS => ?_)
      refine W.eq (g2 := F0 m 120 ls []) rfl ?_
      refine c_aload hx hb dX11_declareVar_120 (lv_at hl 7 rfl) ?_
      obtain ⟨v4, hv4, h⟩ := ob h
      obtain ⟨v5, hv5, h⟩ := ob h
      refine c_cr (c_runV X (K_X6_countDeclared l D Φ v3 v4  hv5) hv4 ⟨Nat.le_of_ble_eq_true rfl, by decide⟩ ⟨w_1330, ww_X6_countDeclared⟩ rfl hy_X6_countDeclared rfl ⟨(Nat.le_of_ble_eq_true rfl), (Nat.le_of_ble_eq_true rfl)⟩ hP hS hl.1 (Nat.le_of_ble_eq_true rfl) dX11_declareVar_122 rfl ⟨(Nat.le_of_ble_eq_true rfl), (Nat.le_of_ble_eq_true rfl)⟩) ?_
      exact c_ti X hP hS (sj h).symm (Nat.le_of_ble_eq_true rfl) (Nat.le_of_ble_eq_true rfl) dX11_declareVar_125
    · have h := ine hc h
      refine c_aload hx hb dX11_declareVar_75 (lv_at hl 7 rfl) ?_
      refine lv_iload hx hb dX11_declareVar_77 (lv_at hl 8 rfl) ?_
      refine lv_bipush (v := (11:Int32)) hx hb dX11_declareVar_79 (by decide) ?_
      refine lv_iload hx hb dX11_declareVar_81 (lv_at hl 4 rfl) ?_
      refine lv_bipush (v := (6:Int32)) hx hb dX11_declareVar_83 (by decide) ?_
      refine lv_icmp_ge (tgt := 93) hx hb dX11_declareVar_85 rfl (fun hc => ?_) (fun hc => ?_)
      · have h := ip hc h
        refine lv_iconst (v := (0:Int32)) hx hb dX11_declareVar_93 (by decide) ?_
        exact N_X11_declareVar_94 X hl9 hnt hP hS ih (lv_sub hl [0, 1, 2, 3, 4, 5, 6, 7, 8] rfl) h
      · have h := ine hc h
        refine lv_iload hx hb dX11_declareVar_88 (lv_at hl 5 rfl) ?_
        refine lv_goto (tgt := 94) hx hb dX11_declareVar_90 rfl ?_
        exact N_X11_declareVar_94 X hl9 hnt hP hS ih (lv_sub hl [0, 1, 2, 3, 4, 5, 6, 7, 8] rfl) h
set_option maxRecDepth 20000 in
set_option maxHeartbeats 4000000 in
theorem N_X11_declareVar_57 {p : Program} {l : Launch} {e : Env} {s : State} {m : MethodId} {args : Array Value} {below : List Frame} {meth : Method} {c : Code} {D : cD} {Φ : cG} {x0 : Nat}   {x1 : Int32} {x2 : Int32} {x3 : Int32} {x4 : Int32} {x5 : Int32} {x6 : Int32} {x7 : Option Nat} {y0 : Int32} {σ : cS} {H : Heap} {locs : List Loc} {ls : Array Slot} {q : (Nat ⊕ Int32) × cS} (X : cX p s m args meth c cX11_declareVar 9 (some .int) RX11 D Φ) (hl9 : l.stackTraces = false) (hnt : ∀ x ∈ c.exceptionTable.toList, False) (hP : cP D Φ σ H) (hS : va_S (cReg Φ) s.heap H locs)  (hl : lv_has ls 9 [(0, cv Φ (some x0)), (1, .int x1), (2, .int x2), (3, .int x3), (4, .int x4), (5, .int x5), (6, .int x6), (7, cv Φ x7)]) (h : f_X11_declareVar_57  x0 x1 x2 x3 x4 x5 x6 x7 y0 σ = some q) : cWt p l e 8 2 12 133 s m args below meth c D Φ vlI q H locs 1 6 (F0 m 57 ls [.int y0]) := by
  have hx := X.1
  have hb := X.2.1
  have hown := X.2.2.2.1
  have hts := X.2.2.2.2.1
  have h : ((f_X11_refuseArgument (y0) σ).bind (fun v1 => v1.1.elim (fun k => some (.inl k, v1.2)) (fun w2 => (f_X11_firstOf (x2)).bind (fun v3 => f_X11_declareVar_66 x0 4000 (x1) (x2) (x3) (x4) (x5) (x6) (x7) (v3) v1.2)))) = some q := h
  obtain ⟨v1, hv1, h⟩ := ob h
  refine c_ct (c_tS X (K_X11_refuseArgument l hl9 D Φ σ (y0) hv1) ⟨w_638, ww_X11_refuseArgument⟩ hy_X11_refuseArgument rfl ⟨(Nat.le_of_ble_eq_true rfl), (Nat.le_of_ble_eq_true rfl)⟩ hP hS hl.1 (Nat.le_of_ble_eq_true rfl) dX11_declareVar_57 rfl ⟨(Nat.le_of_ble_eq_true rfl), (Nat.le_of_ble_eq_true rfl)⟩) X hnt hS ⟨(Nat.le_of_ble_eq_true rfl), (Nat.le_of_ble_eq_true rfl)⟩ (fun k e => by have h9 := el_l e h; exact (sj h9).symm) (fun w2 H locs e hP hS => ?_)
  have h := el_r e h
  refine W.eq (g2 := F0 m 60 ls []) rfl ?_
  refine lv_iload_n hx hb dX11_declareVar_60 rfl (lv_at hl 2 rfl) ?_
  obtain ⟨v3, hv3, h⟩ := ob h
  refine c_cr (c_runS X (K_X11_firstOf l D Φ v1.2 (x2) hv3) ⟨w_1314, ww_X11_firstOf⟩ hy_X11_firstOf rfl ⟨(Nat.le_of_ble_eq_true rfl), (Nat.le_of_ble_eq_true rfl)⟩ hP hS hl.1 (Nat.le_of_ble_eq_true rfl) dX11_declareVar_61 rfl ⟨(Nat.le_of_ble_eq_true rfl), (Nat.le_of_ble_eq_true rfl)⟩) ?_
  refine c_istore hx hb dX11_declareVar_64 hl (Nat.le_of_ble_eq_true rfl) (lvKa rfl (lvKa rfl (lvKa rfl (lvKa rfl (lvKa rfl (lvKa rfl (lvKa rfl (lvKr lvK0)))))))) rfl (fun ls (hl : lv_has ls 9 [(8, .int v3), (0, cv Φ (some x0)), (1, .int x1), (2, .int x2), (3, .int x3), (4, .int x4), (5, .int x5), (6, .int x6), (7, cv Φ x7)]) => ?_)
  exact N_X11_declareVar_66 X hl9 hnt hP hS (lv_sub hl [1, 2, 3, 4, 5, 6, 7, 8, 0] rfl) h
set_option maxRecDepth 20000 in
set_option maxHeartbeats 4000000 in
theorem N_X11_declareVar_52 {p : Program} {l : Launch} {e : Env} {s : State} {m : MethodId} {args : Array Value} {below : List Frame} {meth : Method} {c : Code} {D : cD} {Φ : cG} {x0 : Nat}   {x1 : Int32} {x2 : Int32} {x3 : Int32} {x4 : Int32} {x5 : Int32} {x6 : Int32} {x7 : Option Nat} {σ : cS} {H : Heap} {locs : List Loc} {ls : Array Slot} {q : (Nat ⊕ Int32) × cS} (X : cX p s m args meth c cX11_declareVar 9 (some .int) RX11 D Φ) (hl9 : l.stackTraces = false) (hnt : ∀ x ∈ c.exceptionTable.toList, False) (hP : cP D Φ σ H) (hS : va_S (cReg Φ) s.heap H locs)  (hl : lv_has ls 9 [(0, cv Φ (some x0)), (1, .int x1), (2, .int x2), (3, .int x3), (4, .int x4), (5, .int x5), (6, .int x6), (7, cv Φ x7)]) (h : f_X11_declareVar_52  x0 x1 x2 x3 x4 x5 x6 x7 σ = some q) : cWt p l e 8 2 12 133 s m args below meth c D Φ vlI q H locs 1 6 (F0 m 52 ls []) := by
  have hx := X.1
  have hb := X.2.1
  have hown := X.2.2.2.1
  have hts := X.2.2.2.2.1
  have h : (f_X11_declareVar_57 x0 (x1) (x2) (x3) (x4) (x5) (x6) (x7) ((1:Int32)) σ) = some q := h
  refine lv_iconst (v := (1:Int32)) hx hb dX11_declareVar_52 (by decide) ?_
  refine lv_goto (tgt := 57) hx hb dX11_declareVar_53 rfl ?_
  exact N_X11_declareVar_57 X hl9 hnt hP hS (lv_sub hl [0, 1, 2, 3, 4, 5, 6, 7] rfl) h
set_option maxRecDepth 20000 in
set_option maxHeartbeats 4000000 in
theorem N_X11_declareVar_44 {p : Program} {l : Launch} {e : Env} {s : State} {m : MethodId} {args : Array Value} {below : List Frame} {meth : Method} {c : Code} {D : cD} {Φ : cG} {x0 : Nat}   {x1 : Int32} {x2 : Int32} {x3 : Int32} {x4 : Int32} {x5 : Int32} {x6 : Int32} {x7 : Option Nat} {σ : cS} {H : Heap} {locs : List Loc} {ls : Array Slot} {q : (Nat ⊕ Int32) × cS} (X : cX p s m args meth c cX11_declareVar 9 (some .int) RX11 D Φ) (hl9 : l.stackTraces = false) (hnt : ∀ x ∈ c.exceptionTable.toList, False) (hP : cP D Φ σ H) (hS : va_S (cReg Φ) s.heap H locs)  (hl : lv_has ls 9 [(0, cv Φ (some x0)), (1, .int x1), (2, .int x2), (3, .int x3), (4, .int x4), (5, .int x5), (6, .int x6), (7, cv Φ x7)]) (h : f_X11_declareVar_44  x0 x1 x2 x3 x4 x5 x6 x7 σ = some q) : cWt p l e 8 2 12 133 s m args below meth c D Φ vlI q H locs 1 6 (F0 m 44 ls []) := by
  have hx := X.1
  have hb := X.2.1
  have hown := X.2.2.2.1
  have hts := X.2.2.2.2.1
  have h : ((f_X11_isNumber (x5)).bind (fun v1 => if v1 = (0:Int32) then (f_X11_declareVar_52 x0 (x1) (x2) (x3) (x4) (x5) (x6) (x7) σ) else (f_X11_declareVar_57 x0 (x1) (x2) (x3) (x4) (x5) (x6) (x7) ((0:Int32)) σ))) = some q := h
  refine lv_iload hx hb dX11_declareVar_44 (lv_at hl 5 rfl) ?_
  obtain ⟨v1, hv1, h⟩ := ob h
  refine c_cr (c_runS X (K_X11_isNumber l D Φ σ (x5) hv1) ⟨w_1311, ww_X11_isNumber⟩ hy_X11_isNumber rfl ⟨(Nat.le_of_ble_eq_true rfl), (Nat.le_of_ble_eq_true rfl)⟩ hP hS hl.1 (Nat.le_of_ble_eq_true rfl) dX11_declareVar_46 rfl ⟨(Nat.le_of_ble_eq_true rfl), (Nat.le_of_ble_eq_true rfl)⟩) ?_
  refine lv_if_ne (tgt := 56) hx hb dX11_declareVar_49 rfl (fun hc => ?_) (fun hc => ?_)
  · have h := ine hc h
    refine lv_iconst (v := (0:Int32)) hx hb dX11_declareVar_56 (by decide) ?_
    exact N_X11_declareVar_57 X hl9 hnt hP hS (lv_sub hl [0, 1, 2, 3, 4, 5, 6, 7] rfl) h
  · have h := ip hc h
    exact N_X11_declareVar_52 X hl9 hnt hP hS (lv_sub hl [0, 1, 2, 3, 4, 5, 6, 7] rfl) h
set_option maxRecDepth 20000 in
set_option maxHeartbeats 4000000 in
theorem K_X11_declareVar (l : Launch) (hl9 : l.stackTraces = false) (D : cD) (Φ : cG) (σ : cS) (x0 : Nat) (x1 : Int32) (x2 : Int32) (x3 : Int32) (x4 : Int32) (x5 : Int32) (x6 : Int32) {q : (Nat ⊕ Int32) × cS} (h : f_X11_declareVar x0 x1 x2 x3 x4 x5 x6 σ = some q) : vx_Met l yX11_declareVar (Cond.code yX11_declareVar cX11_declareVar 9 (some .int) :: BG) (rA 8 2 12 133) (cPc D Φ σ [cv Φ (some x0), .int x1, .int x2, .int x3, .int x4, .int x5, .int x6]) (cQt vlI D Φ q) (cXC D Φ q) 2 12 (cReg Φ) := by
  refine vx_ofW (cc := cX11_declareVar) (maxL := 9) (ret := (some .int)) (by decide) rfl ?_
  intro p e s m args below meth c s₁ B hml hnt hv
  obtain ⟨rfl, hP, hK, hZ⟩ := hv
  have X : cX p s m [cv Φ (some x0), .int x1, .int x2, .int x3, .int x4, .int x5, .int x6].toArray meth c cX11_declareVar 9 (some .int) RX11 D Φ := cX_of B hml hK hZ
  have hx := X.1
  have hb := X.2.1
  have hown := X.2.2.2.1
  have hts := X.2.2.2.2.1
  have hl := lv_entry [cv Φ (some x0), .int x1, .int x2, .int x3, .int x4, .int x5, .int x6] (n := 9) (by simp only [lgs_r, lgs_i, lgs_l, lgs_0, List.length]; exact Nat.le_of_ble_eq_true rfl)
  rw [lg_entry_eq]
  generalize (lg_sl [cv Φ (some x0), .int x1, .int x2, .int x3, .int x4, .int x5, .int x6] ++ List.replicate (9 - (lg_sl [cv Φ (some x0), .int x1, .int x2, .int x3, .int x4, .int x5, .int x6]).length) Slot.unset).toArray = ls at hl ⊢
  simp only [lv_args_r, lv_args_i, lv_args_l, lv_args_0] at hl
  have hl : lv_has ls 9 [(0, cv Φ (some x0)), (1, .int x1), (2, .int x2), (3, .int x3), (4, .int x4), (5, .int x5), (6, .int x6)] := hl
  have hS : va_S (cReg Φ) s.heap s.heap [] := va_S.rf
  show cWt p l e 8 2 12 133 s m [cv Φ (some x0), .int x1, .int x2, .int x3, .int x4, .int x5, .int x6].toArray below meth c D Φ vlI q s.heap [] 0 0 (F0 m 0 ls [])
  have h : ((rc σ (some x0) 11).bind (fun v1 => (f_X11_blockAt v1 (x1) σ).bind (fun v2 => v2.1.elim (fun k => some (.inl k, v2.2)) (fun w3 => (f_X11_isBelow (x2) ((16:Int32))).bind (fun v4 => if v4 = (0:Int32) then (f_X11_declareVar_52 x0 (x1) (x2) (x3) (x4) (x5) (x6) (w3) v2.2) else (if x3 < (12:Int32) then (f_X11_declareVar_52 x0 (x1) (x2) (x3) (x4) (x5) (x6) (w3) v2.2) else (if (15:Int32) ≤ x3 then (f_X11_declareVar_52 x0 (x1) (x2) (x3) (x4) (x5) (x6) (w3) v2.2) else (if x4 = ((-1):Int32) then (f_X11_declareVar_44 x0 (x1) (x2) (x3) (x4) (x5) (x6) (w3) v2.2) else ((f_X11_isBelow (x4) ((7:Int32))).bind (fun v5 => if v5 = (0:Int32) then (f_X11_declareVar_52 x0 (x1) (x2) (x3) (x4) (x5) (x6) (w3) v2.2) else (f_X11_declareVar_44 x0 (x1) (x2) (x3) (x4) (x5) (x6) (w3) v2.2))))))))))) = some q := h
  refine c_aload_n hx hb dX11_declareVar_0 rfl (lv_at hl 0 rfl) ?_
  refine lv_iload_n hx hb dX11_declareVar_1 rfl (lv_at hl 1 rfl) ?_
  obtain ⟨v1, hv1, h⟩ := ob h
  obtain ⟨v2, hv2, h⟩ := ob h
  refine c_ct (c_tV X (K_X11_blockAt l hl9 D Φ σ v1 (x1) hv2) hv1 ⟨Nat.le_of_ble_eq_true rfl, by decide⟩ ⟨w_1307, ww_X11_blockAt⟩ rfl hy_X11_blockAt rfl ⟨(Nat.le_of_ble_eq_true rfl), (Nat.le_of_ble_eq_true rfl)⟩ hP hS hl.1 (Nat.le_of_ble_eq_true rfl) dX11_declareVar_2 rfl ⟨(Nat.le_of_ble_eq_true rfl), (Nat.le_of_ble_eq_true rfl)⟩) X hnt hS ⟨(Nat.le_of_ble_eq_true rfl), (Nat.le_of_ble_eq_true rfl)⟩ (fun k e => by have h9 := el_l e h; exact (sj h9).symm) (fun w3 H locs e hP hS => ?_)
  have h := el_r e h
  refine W.eq (g2 := F0 m 5 ls [cv Φ w3]) rfl ?_
  refine c_astore hx hb dX11_declareVar_5 hl (Nat.le_of_ble_eq_true rfl) (lvKa rfl (lvKa rfl (lvKa rfl (lvKa rfl (lvKa rfl (lvKa rfl (lvKi lvK0))))))) rfl (fun ls (hl : lv_has ls 9 [(7, cv Φ w3), (0, cv Φ (some x0)), (1, .int x1), (2, .int x2), (3, .int x3), (4, .int x4), (5, .int x5), (6, .int x6)]) => ?_)
  refine lv_iload_n hx hb dX11_declareVar_7 rfl (lv_at hl 3 rfl) ?_
  refine lv_bipush (v := (16:Int32)) hx hb dX11_declareVar_8 (by decide) ?_
  obtain ⟨v4, hv4, h⟩ := ob h
  refine c_cr (c_runS X (K_X11_isBelow l D Φ v2.2 (x2) ((16:Int32)) hv4) ⟨w_635, ww_X11_isBelow⟩ hy_X11_isBelow rfl ⟨(Nat.le_of_ble_eq_true rfl), (Nat.le_of_ble_eq_true rfl)⟩ hP hS hl.1 (Nat.le_of_ble_eq_true rfl) dX11_declareVar_10 rfl ⟨(Nat.le_of_ble_eq_true rfl), (Nat.le_of_ble_eq_true rfl)⟩) ?_
  refine lv_if_eq (tgt := 52) hx hb dX11_declareVar_13 rfl (fun hc => ?_) (fun hc => ?_)
  · have h := ip hc h
    exact N_X11_declareVar_52 X hl9 hnt hP hS (lv_sub hl [1, 2, 3, 4, 5, 6, 7, 0] rfl) h
  · have h := ine hc h
    refine lv_iload_n hx hb dX11_declareVar_16 rfl (lv_at hl 4 rfl) ?_
    refine lv_bipush (v := (12:Int32)) hx hb dX11_declareVar_17 (by decide) ?_
    refine lv_icmp_lt (tgt := 52) hx hb dX11_declareVar_19 rfl (fun hc => ?_) (fun hc => ?_)
    · have h := ip hc h
      exact N_X11_declareVar_52 X hl9 hnt hP hS (lv_sub hl [1, 2, 3, 4, 5, 6, 7, 0] rfl) h
    · have h := ine hc h
      refine lv_iload_n hx hb dX11_declareVar_22 rfl (lv_at hl 4 rfl) ?_
      refine lv_bipush (v := (15:Int32)) hx hb dX11_declareVar_23 (by decide) ?_
      refine lv_icmp_ge (tgt := 52) hx hb dX11_declareVar_25 rfl (fun hc => ?_) (fun hc => ?_)
      · have h := ip hc h
        exact N_X11_declareVar_52 X hl9 hnt hP hS (lv_sub hl [1, 2, 3, 4, 5, 6, 7, 0] rfl) h
      · have h := ine hc h
        refine lv_iload hx hb dX11_declareVar_28 (lv_at hl 5 rfl) ?_
        refine lv_iconst (v := ((-1):Int32)) hx hb dX11_declareVar_30 (by decide) ?_
        refine lv_icmp_eq (tgt := 44) hx hb dX11_declareVar_31 rfl (fun hc => ?_) (fun hc => ?_)
        · have h := ip hc h
          exact N_X11_declareVar_44 X hl9 hnt hP hS (lv_sub hl [1, 2, 3, 4, 5, 6, 7, 0] rfl) h
        · have h := ine hc h
          refine lv_iload hx hb dX11_declareVar_34 (lv_at hl 5 rfl) ?_
          refine lv_bipush (v := (7:Int32)) hx hb dX11_declareVar_36 (by decide) ?_
          obtain ⟨v5, hv5, h⟩ := ob h
          refine c_cr (c_runS X (K_X11_isBelow l D Φ v2.2 (x4) ((7:Int32)) hv5) ⟨w_635, ww_X11_isBelow⟩ hy_X11_isBelow rfl ⟨(Nat.le_of_ble_eq_true rfl), (Nat.le_of_ble_eq_true rfl)⟩ hP hS hl.1 (Nat.le_of_ble_eq_true rfl) dX11_declareVar_38 rfl ⟨(Nat.le_of_ble_eq_true rfl), (Nat.le_of_ble_eq_true rfl)⟩) ?_
          refine lv_if_eq (tgt := 52) hx hb dX11_declareVar_41 rfl (fun hc => ?_) (fun hc => ?_)
          · have h := ip hc h
            exact N_X11_declareVar_52 X hl9 hnt hP hS (lv_sub hl [1, 2, 3, 4, 5, 6, 7, 0] rfl) h
          · have h := ine hc h
            exact N_X11_declareVar_44 X hl9 hnt hP hS (lv_sub hl [1, 2, 3, 4, 5, 6, 7, 0] rfl) h
theorem ww_X11_declareVar : Cond.instanceMethod yX11_declareVar ∈ BG ∧ Cond.selects (yX11_declareVar).cls yX11_declareVar yX11_declareVar ∈ BG ∧ Cond.initialized (yX11_declareVar).cls ∈ BG ∧ Cond.code yX11_declareVar cX11_declareVar 9 (some .int) ∈ BG := ⟨w_1347, w_1348, w_56, w_1349⟩
theorem hy_X11_declareVar : (yX11_declareVar).cls ≠ "java/lang/invoke/MethodHandle" ∧ (yX11_declareVar).cls ≠ "java/lang/invoke/VarHandle" ∧ (parseMethodDescriptor (yX11_declareVar).desc).map (fun d => d.parameters.length) = some 6 := ⟨by decide, by decide, by decide +kernel⟩
def f_X11_setWidth_15  (x0 : Nat) (x1 : Int32) (y0 : Int32) (σ : cS) : Option ((Nat ⊕ Int32) × cS) := (f_X11_refuseArgument (y0) σ).bind (fun v1 => v1.1.elim (fun k => some (.inl k, v1.2)) (fun w2 => (gR v1.2 (some x0) 11 2).bind (fun v3 => (gI v1.2 v3 1 8).bind (fun v4 => (gR v1.2 (some x0) 11 2).bind (fun v5 => (pI v1.2 v5 1 8 x1).bind (fun v6 => (rc v6 (some x0) 11).bind (fun v7 => (f_X11_markAll v7  v6).bind (fun v8 => some (.inr v4, v8)))))))))
def f_X11_setWidth (x0 : Nat) (x1 : Int32) (σ : cS) : Option ((Nat ⊕ Int32) × cS) := (f_X11_isBelow (x1) ((10000:Int32))).bind (fun v1 => if v1 = (0:Int32) then (f_X11_setWidth_15 x0 (x1) ((1:Int32)) σ) else (f_X11_setWidth_15 x0 (x1) ((0:Int32)) σ))
set_option maxRecDepth 20000 in
set_option maxHeartbeats 4000000 in
theorem N_X11_setWidth_15 {p : Program} {l : Launch} {e : Env} {s : State} {m : MethodId} {args : Array Value} {below : List Frame} {meth : Method} {c : Code} {D : cD} {Φ : cG} {x0 : Nat}   {x1 : Int32} {y0 : Int32} {σ : cS} {H : Heap} {locs : List Loc} {ls : Array Slot} {q : (Nat ⊕ Int32) × cS} (X : cX p s m args meth c cX11_setWidth 3 (some .int) RX11 D Φ) (hl9 : l.stackTraces = false) (hnt : ∀ x ∈ c.exceptionTable.toList, False) (hP : cP D Φ σ H) (hS : va_S (cReg Φ) s.heap H locs)  (hl : lv_has ls 3 [(0, cv Φ (some x0)), (1, .int x1)]) (h : f_X11_setWidth_15  x0 x1 y0 σ = some q) : cWt p l e 7 1 6 110 s m args below meth c D Φ vlI q H locs 0 0 (F0 m 15 ls [.int y0]) := by
  have hx := X.1
  have hb := X.2.1
  have hown := X.2.2.2.1
  have hts := X.2.2.2.2.1
  have h : ((f_X11_refuseArgument (y0) σ).bind (fun v1 => v1.1.elim (fun k => some (.inl k, v1.2)) (fun w2 => (gR v1.2 (some x0) 11 2).bind (fun v3 => (gI v1.2 v3 1 8).bind (fun v4 => (gR v1.2 (some x0) 11 2).bind (fun v5 => (pI v1.2 v5 1 8 x1).bind (fun v6 => (rc v6 (some x0) 11).bind (fun v7 => (f_X11_markAll v7  v6).bind (fun v8 => some (.inr v4, v8)))))))))) = some q := h
  obtain ⟨v1, hv1, h⟩ := ob h
  refine c_ct (c_tS X (K_X11_refuseArgument l hl9 D Φ σ (y0) hv1) ⟨w_638, ww_X11_refuseArgument⟩ hy_X11_refuseArgument rfl ⟨(Nat.le_of_ble_eq_true rfl), (Nat.le_of_ble_eq_true rfl)⟩ hP hS hl.1 (Nat.le_of_ble_eq_true rfl) dX11_setWidth_15 rfl ⟨(Nat.le_of_ble_eq_true rfl), (Nat.le_of_ble_eq_true rfl)⟩) X hnt hS ⟨(Nat.le_of_ble_eq_true rfl), (Nat.le_of_ble_eq_true rfl)⟩ (fun k e => by have h9 := el_l e h; exact (sj h9).symm) (fun w2 H locs e hP hS => ?_)
  have h := el_r e h
  refine W.eq (g2 := F0 m 18 ls []) rfl ?_
  refine c_aload_n hx hb dX11_setWidth_18 rfl (lv_at hl 0 rfl) ?_
  obtain ⟨v3, hv3, h⟩ := ob h
  refine c_gR X hP hv3 (Nat.le_of_ble_eq_true rfl) (Nat.le_of_ble_eq_true rfl) rfl w_573 dX11_setWidth_19 ?_
  obtain ⟨v4, hv4, h⟩ := ob h
  refine c_gI X hP hv4 (Nat.le_of_ble_eq_true rfl) (Nat.le_of_ble_eq_true rfl) rfl w_509 dX11_setWidth_22 ?_
  refine c_istore_n hx hb dX11_setWidth_25 rfl hl (Nat.le_of_ble_eq_true rfl) (lvKa rfl (lvKi lvK0)) rfl (fun ls (hl : lv_has ls 3 [(2, .int v4), (0, cv Φ (some x0)), (1, .int x1)]) => ?_)
  refine c_aload_n hx hb dX11_setWidth_26 rfl (lv_at hl 1 rfl) ?_
  obtain ⟨v5, hv5, h⟩ := ob h
  refine c_gR X hP hv5 (Nat.le_of_ble_eq_true rfl) (Nat.le_of_ble_eq_true rfl) rfl w_573 dX11_setWidth_27 ?_
  refine lv_iload_n hx hb dX11_setWidth_30 rfl (lv_at hl 2 rfl) ?_
  obtain ⟨v6, hv6, h⟩ := ob h
  refine c_pI X hP hS hv6 (Nat.le_of_ble_eq_true rfl) (Nat.le_of_ble_eq_true rfl) rfl rfl (Or.inl rfl) w_509 dX11_setWidth_31 (fun H locs hP hS => ?_)
  refine c_aload_n hx hb dX11_setWidth_34 rfl (lv_at hl 1 rfl) ?_
  obtain ⟨v7, hv7, h⟩ := ob h
  obtain ⟨v8, hv8, h⟩ := ob h
  refine c_cw (c_runV X (K_X11_markAll l D Φ v6 v7  hv8) hv7 ⟨Nat.le_of_ble_eq_true rfl, by decide⟩ ⟨w_830, ww_X11_markAll⟩ rfl hy_X11_markAll rfl ⟨(Nat.le_of_ble_eq_true rfl), (Nat.le_of_ble_eq_true rfl)⟩ hP hS hl.1 (Nat.le_of_ble_eq_true rfl) dX11_setWidth_35 rfl ⟨(Nat.le_of_ble_eq_true rfl), (Nat.le_of_ble_eq_true rfl)⟩) hS (fun H locs hP hS => ?_)
  refine W.eq (g2 := F0 m 38 ls []) rfl ?_
  refine lv_iload_n hx hb dX11_setWidth_38 rfl (lv_at hl 0 rfl) ?_
  exact c_ti X hP hS (sj h).symm (Nat.le_of_ble_eq_true rfl) (Nat.le_of_ble_eq_true rfl) dX11_setWidth_39
set_option maxRecDepth 20000 in
set_option maxHeartbeats 4000000 in
theorem K_X11_setWidth (l : Launch) (hl9 : l.stackTraces = false) (D : cD) (Φ : cG) (σ : cS) (x0 : Nat) (x1 : Int32) {q : (Nat ⊕ Int32) × cS} (h : f_X11_setWidth x0 x1 σ = some q) : vx_Met l yX11_setWidth (Cond.code yX11_setWidth cX11_setWidth 3 (some .int) :: BG) (rA 7 1 6 110) (cPc D Φ σ [cv Φ (some x0), .int x1]) (cQt vlI D Φ q) (cXC D Φ q) 1 6 (cReg Φ) := by
  refine vx_ofW (cc := cX11_setWidth) (maxL := 3) (ret := (some .int)) (by decide) rfl ?_
  intro p e s m args below meth c s₁ B hml hnt hv
  obtain ⟨rfl, hP, hK, hZ⟩ := hv
  have X : cX p s m [cv Φ (some x0), .int x1].toArray meth c cX11_setWidth 3 (some .int) RX11 D Φ := cX_of B hml hK hZ
  have hx := X.1
  have hb := X.2.1
  have hown := X.2.2.2.1
  have hts := X.2.2.2.2.1
  have hl := lv_entry [cv Φ (some x0), .int x1] (n := 3) (by simp only [lgs_r, lgs_i, lgs_l, lgs_0, List.length]; exact Nat.le_of_ble_eq_true rfl)
  rw [lg_entry_eq]
  generalize (lg_sl [cv Φ (some x0), .int x1] ++ List.replicate (3 - (lg_sl [cv Φ (some x0), .int x1]).length) Slot.unset).toArray = ls at hl ⊢
  simp only [lv_args_r, lv_args_i, lv_args_l, lv_args_0] at hl
  have hl : lv_has ls 3 [(0, cv Φ (some x0)), (1, .int x1)] := hl
  have hS : va_S (cReg Φ) s.heap s.heap [] := va_S.rf
  show cWt p l e 7 1 6 110 s m [cv Φ (some x0), .int x1].toArray below meth c D Φ vlI q s.heap [] 0 0 (F0 m 0 ls [])
  have h : ((f_X11_isBelow (x1) ((10000:Int32))).bind (fun v1 => if v1 = (0:Int32) then (f_X11_setWidth_15 x0 (x1) ((1:Int32)) σ) else (f_X11_setWidth_15 x0 (x1) ((0:Int32)) σ))) = some q := h
  refine lv_iload_n hx hb dX11_setWidth_0 rfl (lv_at hl 1 rfl) ?_
  refine lv_sipush (v := (10000:Int32)) hx hb dX11_setWidth_1 (by decide) ?_
  obtain ⟨v1, hv1, h⟩ := ob h
  refine c_cr (c_runS X (K_X11_isBelow l D Φ σ (x1) ((10000:Int32)) hv1) ⟨w_635, ww_X11_isBelow⟩ hy_X11_isBelow rfl ⟨(Nat.le_of_ble_eq_true rfl), (Nat.le_of_ble_eq_true rfl)⟩ hP hS hl.1 (Nat.le_of_ble_eq_true rfl) dX11_setWidth_4 rfl ⟨(Nat.le_of_ble_eq_true rfl), (Nat.le_of_ble_eq_true rfl)⟩) ?_
  refine lv_if_ne (tgt := 14) hx hb dX11_setWidth_7 rfl (fun hc => ?_) (fun hc => ?_)
  · have h := ine hc h
    refine lv_iconst (v := (0:Int32)) hx hb dX11_setWidth_14 (by decide) ?_
    exact N_X11_setWidth_15 X hl9 hnt hP hS (lv_sub hl [0, 1] rfl) h
  · have h := ip hc h
    refine lv_iconst (v := (1:Int32)) hx hb dX11_setWidth_10 (by decide) ?_
    refine lv_goto (tgt := 15) hx hb dX11_setWidth_11 rfl ?_
    exact N_X11_setWidth_15 X hl9 hnt hP hS (lv_sub hl [0, 1] rfl) h
theorem ww_X11_setWidth : Cond.instanceMethod yX11_setWidth ∈ BG ∧ Cond.selects (yX11_setWidth).cls yX11_setWidth yX11_setWidth ∈ BG ∧ Cond.initialized (yX11_setWidth).cls ∈ BG ∧ Cond.code yX11_setWidth cX11_setWidth 3 (some .int) ∈ BG := ⟨w_1366, w_1367, w_56, w_1368⟩
theorem hy_X11_setWidth : (yX11_setWidth).cls ≠ "java/lang/invoke/MethodHandle" ∧ (yX11_setWidth).cls ≠ "java/lang/invoke/VarHandle" ∧ (parseMethodDescriptor (yX11_setWidth).desc).map (fun d => d.parameters.length) = some 1 := ⟨by decide, by decide, by decide +kernel⟩
def f_X11_value_39  (x0 : Nat) (x2 : Int32) (x3 : Option Nat) (y0 : Int32) (σ : cS) : Option ((Nat ⊕ Int32) × cS) := (f_X11_refuseState (y0) σ).bind (fun v1 => v1.1.elim (fun k => some (.inl k, v1.2)) (fun w2 => (rc v1.2 (some x0) 11).bind (fun v3 => (f_X11_read v3  v1.2).bind (fun v4 => (gR v4 x3 3 19).bind (fun v5 => (gR v4 v5 9 0).bind (fun v6 => (aI v4 v6 x2).bind (fun v7 => some (.inr v7, v4))))))))
def f_X11_value_20  (x0 : Nat) (x2 : Int32) (x3 : Option Nat) (y0 : Int32) (σ : cS) : Option ((Nat ⊕ Int32) × cS) := (f_X11_refuseArgument (y0) σ).bind (fun v1 => v1.1.elim (fun k => some (.inl k, v1.2)) (fun w2 => (gR v1.2 (some x0) 11 0).bind (fun v3 => (rc v1.2 v3 10).bind (fun v4 => (f_X10_holdsElement v4 (x3) v1.2).bind (fun v5 => if v5 = (0:Int32) then (f_X11_value_39 x0 (x2) (x3) ((1:Int32)) v1.2) else (f_X11_value_39 x0 (x2) (x3) ((0:Int32)) v1.2))))))
def f_X11_value (x0 : Nat) (x1 : Int32) (x2 : Int32) (σ : cS) : Option ((Nat ⊕ Int32) × cS) := (rc σ (some x0) 11).bind (fun v1 => (f_X11_elementAt v1 (x1) σ).bind (fun v2 => v2.1.elim (fun k => some (.inl k, v2.2)) (fun w3 => (f_X11_isBelow (x2) ((15:Int32))).bind (fun v4 => if v4 = (0:Int32) then (f_X11_value_20 x0 (x2) (w3) ((1:Int32)) v2.2) else (f_X11_value_20 x0 (x2) (w3) ((0:Int32)) v2.2)))))
set_option maxRecDepth 20000 in
set_option maxHeartbeats 4000000 in
theorem N_X11_value_39 {p : Program} {l : Launch} {e : Env} {s : State} {m : MethodId} {args : Array Value} {below : List Frame} {meth : Method} {c : Code} {D : cD} {Φ : cG} {x0 : Nat}   {x2 : Int32} {x3 : Option Nat} {y0 : Int32} {σ : cS} {H : Heap} {locs : List Loc} {ls : Array Slot} {q : (Nat ⊕ Int32) × cS} (X : cX p s m args meth c cX11_value 4 (some .int) RX11 D Φ) (hl9 : l.stackTraces = false) (hnt : ∀ x ∈ c.exceptionTable.toList, False) (hP : cP D Φ σ H) (hS : va_S (cReg Φ) s.heap H locs)  (hl : lv_has ls 4 [(0, cv Φ (some x0)), (2, .int x2), (3, cv Φ x3)]) (h : f_X11_value_39  x0 x2 x3 y0 σ = some q) : cWt p l e 7 3 18 178 s m args below meth c D Φ vlI q H locs 2 12 (F0 m 39 ls [.int y0]) := by
  have hx := X.1
  have hb := X.2.1
  have hown := X.2.2.2.1
  have hts := X.2.2.2.2.1
  have h : ((f_X11_refuseState (y0) σ).bind (fun v1 => v1.1.elim (fun k => some (.inl k, v1.2)) (fun w2 => (rc v1.2 (some x0) 11).bind (fun v3 => (f_X11_read v3  v1.2).bind (fun v4 => (gR v4 x3 3 19).bind (fun v5 => (gR v4 v5 9 0).bind (fun v6 => (aI v4 v6 x2).bind (fun v7 => some (.inr v7, v4))))))))) = some q := h
  obtain ⟨v1, hv1, h⟩ := ob h
  refine c_ct (c_tS X (K_X11_refuseState l hl9 D Φ σ (y0) hv1) ⟨w_704, ww_X11_refuseState⟩ hy_X11_refuseState rfl ⟨(Nat.le_of_ble_eq_true rfl), (Nat.le_of_ble_eq_true rfl)⟩ hP hS hl.1 (Nat.le_of_ble_eq_true rfl) dX11_value_39 rfl ⟨(Nat.le_of_ble_eq_true rfl), (Nat.le_of_ble_eq_true rfl)⟩) X hnt hS ⟨(Nat.le_of_ble_eq_true rfl), (Nat.le_of_ble_eq_true rfl)⟩ (fun k e => by have h9 := el_l e h; exact (sj h9).symm) (fun w2 H locs e hP hS => ?_)
  have h := el_r e h
  refine W.eq (g2 := F0 m 42 ls []) rfl ?_
  refine c_aload_n hx hb dX11_value_42 rfl (lv_at hl 0 rfl) ?_
  obtain ⟨v3, hv3, h⟩ := ob h
  obtain ⟨v4, hv4, h⟩ := ob h
  refine c_cw (c_runV X (K_X11_read l D Φ v1.2 v3  hv4) hv3 ⟨Nat.le_of_ble_eq_true rfl, by decide⟩ ⟨w_901, ww_X11_read⟩ rfl hy_X11_read rfl ⟨(Nat.le_of_ble_eq_true rfl), (Nat.le_of_ble_eq_true rfl)⟩ hP hS hl.1 (Nat.le_of_ble_eq_true rfl) dX11_value_43 rfl ⟨(Nat.le_of_ble_eq_true rfl), (Nat.le_of_ble_eq_true rfl)⟩) hS (fun H locs hP hS => ?_)
  refine W.eq (g2 := F0 m 46 ls []) rfl ?_
  refine c_aload_n hx hb dX11_value_46 rfl (lv_at hl 2 rfl) ?_
  obtain ⟨v5, hv5, h⟩ := ob h
  refine c_gR X hP hv5 (Nat.le_of_ble_eq_true rfl) (Nat.le_of_ble_eq_true rfl) rfl w_283 dX11_value_47 ?_
  obtain ⟨v6, hv6, h⟩ := ob h
  refine c_gR X hP hv6 (Nat.le_of_ble_eq_true rfl) (Nat.le_of_ble_eq_true rfl) rfl w_94 dX11_value_50 ?_
  refine lv_iload_n hx hb dX11_value_53 rfl (lv_at hl 1 rfl) ?_
  obtain ⟨v7, hv7, h⟩ := ob h
  refine c_ald X hP hv7 dX11_value_54 ?_
  exact c_ti X hP hS (sj h).symm (Nat.le_of_ble_eq_true rfl) (Nat.le_of_ble_eq_true rfl) dX11_value_55
set_option maxRecDepth 20000 in
set_option maxHeartbeats 4000000 in
theorem N_X11_value_20 {p : Program} {l : Launch} {e : Env} {s : State} {m : MethodId} {args : Array Value} {below : List Frame} {meth : Method} {c : Code} {D : cD} {Φ : cG} {x0 : Nat}   {x2 : Int32} {x3 : Option Nat} {y0 : Int32} {σ : cS} {H : Heap} {locs : List Loc} {ls : Array Slot} {q : (Nat ⊕ Int32) × cS} (X : cX p s m args meth c cX11_value 4 (some .int) RX11 D Φ) (hl9 : l.stackTraces = false) (hnt : ∀ x ∈ c.exceptionTable.toList, False) (hP : cP D Φ σ H) (hS : va_S (cReg Φ) s.heap H locs)  (hl : lv_has ls 4 [(0, cv Φ (some x0)), (2, .int x2), (3, cv Φ x3)]) (h : f_X11_value_20  x0 x2 x3 y0 σ = some q) : cWt p l e 7 3 18 178 s m args below meth c D Φ vlI q H locs 1 6 (F0 m 20 ls [.int y0]) := by
  have hx := X.1
  have hb := X.2.1
  have hown := X.2.2.2.1
  have hts := X.2.2.2.2.1
  have h : ((f_X11_refuseArgument (y0) σ).bind (fun v1 => v1.1.elim (fun k => some (.inl k, v1.2)) (fun w2 => (gR v1.2 (some x0) 11 0).bind (fun v3 => (rc v1.2 v3 10).bind (fun v4 => (f_X10_holdsElement v4 (x3) v1.2).bind (fun v5 => if v5 = (0:Int32) then (f_X11_value_39 x0 (x2) (x3) ((1:Int32)) v1.2) else (f_X11_value_39 x0 (x2) (x3) ((0:Int32)) v1.2))))))) = some q := h
  obtain ⟨v1, hv1, h⟩ := ob h
  refine c_ct (c_tS X (K_X11_refuseArgument l hl9 D Φ σ (y0) hv1) ⟨w_638, ww_X11_refuseArgument⟩ hy_X11_refuseArgument rfl ⟨(Nat.le_of_ble_eq_true rfl), (Nat.le_of_ble_eq_true rfl)⟩ hP hS hl.1 (Nat.le_of_ble_eq_true rfl) dX11_value_20 rfl ⟨(Nat.le_of_ble_eq_true rfl), (Nat.le_of_ble_eq_true rfl)⟩) X hnt hS ⟨(Nat.le_of_ble_eq_true rfl), (Nat.le_of_ble_eq_true rfl)⟩ (fun k e => by have h9 := el_l e h; exact (sj h9).symm) (fun w2 H locs e hP hS => ?_)
  have h := el_r e h
  refine W.eq (g2 := F0 m 23 ls []) rfl ?_
  refine c_aload_n hx hb dX11_value_23 rfl (lv_at hl 0 rfl) ?_
  obtain ⟨v3, hv3, h⟩ := ob h
  refine c_gR X hP hv3 (Nat.le_of_ble_eq_true rfl) (Nat.le_of_ble_eq_true rfl) rfl w_571 dX11_value_24 ?_
  refine c_aload_n hx hb dX11_value_27 rfl (lv_at hl 2 rfl) ?_
  obtain ⟨v4, hv4, h⟩ := ob h
  obtain ⟨v5, hv5, h⟩ := ob h
  refine c_cr (c_runV X (K_X10_holdsElement l D Φ v1.2 v4 (x3) hv5) hv4 ⟨Nat.le_of_ble_eq_true rfl, by decide⟩ ⟨w_897, ww_X10_holdsElement⟩ rfl hy_X10_holdsElement rfl ⟨(Nat.le_of_ble_eq_true rfl), (Nat.le_of_ble_eq_true rfl)⟩ hP hS hl.1 (Nat.le_of_ble_eq_true rfl) dX11_value_28 rfl ⟨(Nat.le_of_ble_eq_true rfl), (Nat.le_of_ble_eq_true rfl)⟩) ?_
  refine lv_if_ne (tgt := 38) hx hb dX11_value_31 rfl (fun hc => ?_) (fun hc => ?_)
  · have h := ine hc h
    refine lv_iconst (v := (0:Int32)) hx hb dX11_value_38 (by decide) ?_
    exact N_X11_value_39 X hl9 hnt hP hS (lv_sub hl [0, 1, 2] rfl) h
  · have h := ip hc h
    refine lv_iconst (v := (1:Int32)) hx hb dX11_value_34 (by decide) ?_
    refine lv_goto (tgt := 39) hx hb dX11_value_35 rfl ?_
    exact N_X11_value_39 X hl9 hnt hP hS (lv_sub hl [0, 1, 2] rfl) h
set_option maxRecDepth 20000 in
set_option maxHeartbeats 4000000 in
theorem K_X11_value (l : Launch) (hl9 : l.stackTraces = false) (D : cD) (Φ : cG) (σ : cS) (x0 : Nat) (x1 : Int32) (x2 : Int32) {q : (Nat ⊕ Int32) × cS} (h : f_X11_value x0 x1 x2 σ = some q) : vx_Met l yX11_value (Cond.code yX11_value cX11_value 4 (some .int) :: BG) (rA 7 3 18 178) (cPc D Φ σ [cv Φ (some x0), .int x1, .int x2]) (cQt vlI D Φ q) (cXC D Φ q) 3 18 (cReg Φ) := by
  refine vx_ofW (cc := cX11_value) (maxL := 4) (ret := (some .int)) (by decide) rfl ?_
  intro p e s m args below meth c s₁ B hml hnt hv
  obtain ⟨rfl, hP, hK, hZ⟩ := hv
  have X : cX p s m [cv Φ (some x0), .int x1, .int x2].toArray meth c cX11_value 4 (some .int) RX11 D Φ := cX_of B hml hK hZ
  have hx := X.1
  have hb := X.2.1
  have hown := X.2.2.2.1
  have hts := X.2.2.2.2.1
  have hl := lv_entry [cv Φ (some x0), .int x1, .int x2] (n := 4) (by simp only [lgs_r, lgs_i, lgs_l, lgs_0, List.length]; exact Nat.le_of_ble_eq_true rfl)
  rw [lg_entry_eq]
  generalize (lg_sl [cv Φ (some x0), .int x1, .int x2] ++ List.replicate (4 - (lg_sl [cv Φ (some x0), .int x1, .int x2]).length) Slot.unset).toArray = ls at hl ⊢
  simp only [lv_args_r, lv_args_i, lv_args_l, lv_args_0] at hl
  have hl : lv_has ls 4 [(0, cv Φ (some x0)), (1, .int x1), (2, .int x2)] := hl
  have hS : va_S (cReg Φ) s.heap s.heap [] := va_S.rf
  show cWt p l e 7 3 18 178 s m [cv Φ (some x0), .int x1, .int x2].toArray below meth c D Φ vlI q s.heap [] 0 0 (F0 m 0 ls [])
  have h : ((rc σ (some x0) 11).bind (fun v1 => (f_X11_elementAt v1 (x1) σ).bind (fun v2 => v2.1.elim (fun k => some (.inl k, v2.2)) (fun w3 => (f_X11_isBelow (x2) ((15:Int32))).bind (fun v4 => if v4 = (0:Int32) then (f_X11_value_20 x0 (x2) (w3) ((1:Int32)) v2.2) else (f_X11_value_20 x0 (x2) (w3) ((0:Int32)) v2.2)))))) = some q := h
  refine c_aload_n hx hb dX11_value_0 rfl (lv_at hl 0 rfl) ?_
  refine lv_iload_n hx hb dX11_value_1 rfl (lv_at hl 1 rfl) ?_
  obtain ⟨v1, hv1, h⟩ := ob h
  obtain ⟨v2, hv2, h⟩ := ob h
  refine c_ct (c_tV X (K_X11_elementAt l hl9 D Φ σ v1 (x1) hv2) hv1 ⟨Nat.le_of_ble_eq_true rfl, by decide⟩ ⟨w_735, ww_X11_elementAt⟩ rfl hy_X11_elementAt rfl ⟨(Nat.le_of_ble_eq_true rfl), (Nat.le_of_ble_eq_true rfl)⟩ hP hS hl.1 (Nat.le_of_ble_eq_true rfl) dX11_value_2 rfl ⟨(Nat.le_of_ble_eq_true rfl), (Nat.le_of_ble_eq_true rfl)⟩) X hnt hS ⟨(Nat.le_of_ble_eq_true rfl), (Nat.le_of_ble_eq_true rfl)⟩ (fun k e => by have h9 := el_l e h; exact (sj h9).symm) (fun w3 H locs e hP hS => ?_)
  have h := el_r e h
  refine W.eq (g2 := F0 m 5 ls [cv Φ w3]) rfl ?_
  refine c_astore_n hx hb dX11_value_5 rfl hl (Nat.le_of_ble_eq_true rfl) (lvKa rfl (lvKa rfl (lvKi lvK0))) rfl (fun ls (hl : lv_has ls 4 [(3, cv Φ w3), (0, cv Φ (some x0)), (1, .int x1), (2, .int x2)]) => ?_)
  refine lv_iload_n hx hb dX11_value_6 rfl (lv_at hl 3 rfl) ?_
  refine lv_bipush (v := (15:Int32)) hx hb dX11_value_7 (by decide) ?_
  obtain ⟨v4, hv4, h⟩ := ob h
  refine c_cr (c_runS X (K_X11_isBelow l D Φ v2.2 (x2) ((15:Int32)) hv4) ⟨w_635, ww_X11_isBelow⟩ hy_X11_isBelow rfl ⟨(Nat.le_of_ble_eq_true rfl), (Nat.le_of_ble_eq_true rfl)⟩ hP hS hl.1 (Nat.le_of_ble_eq_true rfl) dX11_value_9 rfl ⟨(Nat.le_of_ble_eq_true rfl), (Nat.le_of_ble_eq_true rfl)⟩) ?_
  refine lv_if_ne (tgt := 19) hx hb dX11_value_12 rfl (fun hc => ?_) (fun hc => ?_)
  · have h := ine hc h
    refine lv_iconst (v := (0:Int32)) hx hb dX11_value_19 (by decide) ?_
    exact N_X11_value_20 X hl9 hnt hP hS (lv_sub hl [1, 3, 0] rfl) h
  · have h := ip hc h
    refine lv_iconst (v := (1:Int32)) hx hb dX11_value_15 (by decide) ?_
    refine lv_goto (tgt := 20) hx hb dX11_value_16 rfl ?_
    exact N_X11_value_20 X hl9 hnt hP hS (lv_sub hl [1, 3, 0] rfl) h
theorem ww_X11_value : Cond.instanceMethod yX11_value ∈ BG ∧ Cond.selects (yX11_value).cls yX11_value yX11_value ∈ BG ∧ Cond.initialized (yX11_value).cls ∈ BG ∧ Cond.code yX11_value cX11_value 4 (some .int) ∈ BG := ⟨w_894, w_895, w_56, w_896⟩
theorem hy_X11_value : (yX11_value).cls ≠ "java/lang/invoke/MethodHandle" ∧ (yX11_value).cls ≠ "java/lang/invoke/VarHandle" ∧ (parseMethodDescriptor (yX11_value).desc).map (fun d => d.parameters.length) = some 2 := ⟨by decide, by decide, by decide +kernel⟩
def f_X11_size_53  (x0 : Nat) (y0 : Int32) (σ : cS) : Option ((Nat ⊕ Int32) × cS) := some (.inr y0, σ)
def f_X11_size_22  (x0 : Nat) (x2 : Option Nat) (y0 : Int32) (σ : cS) : Option ((Nat ⊕ Int32) × cS) := (f_X11_refuseState (y0) σ).bind (fun v1 => v1.1.elim (fun k => some (.inl k, v1.2)) (fun w2 => (rc v1.2 (some x0) 11).bind (fun v3 => (f_X11_read v3  v1.2).bind (fun v4 => (gR v4 x2 3 19).bind (fun v5 => (gR v4 v5 9 0).bind (fun v6 => (aI v4 v6 (6:Int32)).bind (fun v7 => if v7 ≤ (0:Int32) then (f_X11_size_53 x0 (((-1):Int32)) v4) else ((gR v4 x2 3 19).bind (fun v8 => (gI v4 v8 9 2).bind (fun v9 => f_X11_size_53 x0 (v9) v4))))))))))
def f_X11_size (x0 : Nat) (x1 : Int32) (σ : cS) : Option ((Nat ⊕ Int32) × cS) := (rc σ (some x0) 11).bind (fun v1 => (f_X11_elementAt v1 (x1) σ).bind (fun v2 => v2.1.elim (fun k => some (.inl k, v2.2)) (fun w3 => (gR v2.2 (some x0) 11 0).bind (fun v4 => (rc v2.2 v4 10).bind (fun v5 => (f_X10_holdsElement v5 (w3) v2.2).bind (fun v6 => if v6 = (0:Int32) then (f_X11_size_22 x0 (w3) ((1:Int32)) v2.2) else (f_X11_size_22 x0 (w3) ((0:Int32)) v2.2)))))))
set_option maxRecDepth 20000 in
set_option maxHeartbeats 4000000 in
theorem N_X11_size_53 {p : Program} {l : Launch} {e : Env} {s : State} {m : MethodId} {args : Array Value} {below : List Frame} {meth : Method} {c : Code} {D : cD} {Φ : cG} {x0 : Nat}   {y0 : Int32} {σ : cS} {H : Heap} {locs : List Loc} {ls : Array Slot} {q : (Nat ⊕ Int32) × cS} (X : cX p s m args meth c cX11_size 3 (some .int) RX11 D Φ) (hl9 : l.stackTraces = false) (hnt : ∀ x ∈ c.exceptionTable.toList, False) (hP : cP D Φ σ H) (hS : va_S (cReg Φ) s.heap H locs)  (hl : lv_has ls 3 []) (h : f_X11_size_53  x0 y0 σ = some q) : cWt p l e 7 2 12 178 s m args below meth c D Φ vlI q H locs 2 12 (F0 m 53 ls [.int y0]) := by
  have hx := X.1
  have hb := X.2.1
  have hown := X.2.2.2.1
  have hts := X.2.2.2.2.1
  have h : (some (.inr y0, σ)) = some q := h
  exact c_ti X hP hS (sj h).symm (Nat.le_of_ble_eq_true rfl) (Nat.le_of_ble_eq_true rfl) dX11_size_53
set_option maxRecDepth 20000 in
set_option maxHeartbeats 4000000 in
theorem N_X11_size_22 {p : Program} {l : Launch} {e : Env} {s : State} {m : MethodId} {args : Array Value} {below : List Frame} {meth : Method} {c : Code} {D : cD} {Φ : cG} {x0 : Nat}   {x2 : Option Nat} {y0 : Int32} {σ : cS} {H : Heap} {locs : List Loc} {ls : Array Slot} {q : (Nat ⊕ Int32) × cS} (X : cX p s m args meth c cX11_size 3 (some .int) RX11 D Φ) (hl9 : l.stackTraces = false) (hnt : ∀ x ∈ c.exceptionTable.toList, False) (hP : cP D Φ σ H) (hS : va_S (cReg Φ) s.heap H locs)  (hl : lv_has ls 3 [(0, cv Φ (some x0)), (2, cv Φ x2)]) (h : f_X11_size_22  x0 x2 y0 σ = some q) : cWt p l e 7 2 12 178 s m args below meth c D Φ vlI q H locs 1 6 (F0 m 22 ls [.int y0]) := by
  have hx := X.1
  have hb := X.2.1
  have hown := X.2.2.2.1
  have hts := X.2.2.2.2.1
  have h : ((f_X11_refuseState (y0) σ).bind (fun v1 => v1.1.elim (fun k => some (.inl k, v1.2)) (fun w2 => (rc v1.2 (some x0) 11).bind (fun v3 => (f_X11_read v3  v1.2).bind (fun v4 => (gR v4 x2 3 19).bind (fun v5 => (gR v4 v5 9 0).bind (fun v6 => (aI v4 v6 (6:Int32)).bind (fun v7 => if v7 ≤ (0:Int32) then (f_X11_size_53 x0 (((-1):Int32)) v4) else ((gR v4 x2 3 19).bind (fun v8 => (gI v4 v8 9 2).bind (fun v9 => f_X11_size_53 x0 (v9) v4))))))))))) = some q := h
  obtain ⟨v1, hv1, h⟩ := ob h
  refine c_ct (c_tS X (K_X11_refuseState l hl9 D Φ σ (y0) hv1) ⟨w_704, ww_X11_refuseState⟩ hy_X11_refuseState rfl ⟨(Nat.le_of_ble_eq_true rfl), (Nat.le_of_ble_eq_true rfl)⟩ hP hS hl.1 (Nat.le_of_ble_eq_true rfl) dX11_size_22 rfl ⟨(Nat.le_of_ble_eq_true rfl), (Nat.le_of_ble_eq_true rfl)⟩) X hnt hS ⟨(Nat.le_of_ble_eq_true rfl), (Nat.le_of_ble_eq_true rfl)⟩ (fun k e => by have h9 := el_l e h; exact (sj h9).symm) (fun w2 H locs e hP hS => ?_)
  have h := el_r e h
  refine W.eq (g2 := F0 m 25 ls []) rfl ?_
  refine c_aload_n hx hb dX11_size_25 rfl (lv_at hl 0 rfl) ?_
  obtain ⟨v3, hv3, h⟩ := ob h
  obtain ⟨v4, hv4, h⟩ := ob h
  refine c_cw (c_runV X (K_X11_read l D Φ v1.2 v3  hv4) hv3 ⟨Nat.le_of_ble_eq_true rfl, by decide⟩ ⟨w_901, ww_X11_read⟩ rfl hy_X11_read rfl ⟨(Nat.le_of_ble_eq_true rfl), (Nat.le_of_ble_eq_true rfl)⟩ hP hS hl.1 (Nat.le_of_ble_eq_true rfl) dX11_size_26 rfl ⟨(Nat.le_of_ble_eq_true rfl), (Nat.le_of_ble_eq_true rfl)⟩) hS (fun H locs hP hS => ?_)
  refine W.eq (g2 := F0 m 29 ls []) rfl ?_
  refine c_aload_n hx hb dX11_size_29 rfl (lv_at hl 1 rfl) ?_
  obtain ⟨v5, hv5, h⟩ := ob h
  refine c_gR X hP hv5 (Nat.le_of_ble_eq_true rfl) (Nat.le_of_ble_eq_true rfl) rfl w_283 dX11_size_30 ?_
  obtain ⟨v6, hv6, h⟩ := ob h
  refine c_gR X hP hv6 (Nat.le_of_ble_eq_true rfl) (Nat.le_of_ble_eq_true rfl) rfl w_94 dX11_size_33 ?_
  refine lv_bipush (v := (6:Int32)) hx hb dX11_size_36 (by decide) ?_
  obtain ⟨v7, hv7, h⟩ := ob h
  refine c_ald X hP hv7 dX11_size_38 ?_
  refine lv_if_le (tgt := 52) hx hb dX11_size_39 rfl (fun hc => ?_) (fun hc => ?_)
  · have h := ip hc h
    refine lv_iconst (v := ((-1):Int32)) hx hb dX11_size_52 (by decide) ?_
    exact N_X11_size_53 X hl9 hnt hP hS (lv_sub hl [] rfl) h
  · have h := ine hc h
    refine c_aload_n hx hb dX11_size_42 rfl (lv_at hl 1 rfl) ?_
    obtain ⟨v8, hv8, h⟩ := ob h
    refine c_gR X hP hv8 (Nat.le_of_ble_eq_true rfl) (Nat.le_of_ble_eq_true rfl) rfl w_283 dX11_size_43 ?_
    obtain ⟨v9, hv9, h⟩ := ob h
    refine c_gI X hP hv9 (Nat.le_of_ble_eq_true rfl) (Nat.le_of_ble_eq_true rfl) rfl w_99 dX11_size_46 ?_
    refine lv_goto (tgt := 53) hx hb dX11_size_49 rfl ?_
    exact N_X11_size_53 X hl9 hnt hP hS (lv_sub hl [] rfl) h
set_option maxRecDepth 20000 in
set_option maxHeartbeats 4000000 in
theorem K_X11_size (l : Launch) (hl9 : l.stackTraces = false) (D : cD) (Φ : cG) (σ : cS) (x0 : Nat) (x1 : Int32) {q : (Nat ⊕ Int32) × cS} (h : f_X11_size x0 x1 σ = some q) : vx_Met l yX11_size (Cond.code yX11_size cX11_size 3 (some .int) :: BG) (rA 7 2 12 178) (cPc D Φ σ [cv Φ (some x0), .int x1]) (cQt vlI D Φ q) (cXC D Φ q) 2 12 (cReg Φ) := by
  refine vx_ofW (cc := cX11_size) (maxL := 3) (ret := (some .int)) (by decide) rfl ?_
  intro p e s m args below meth c s₁ B hml hnt hv
  obtain ⟨rfl, hP, hK, hZ⟩ := hv
  have X : cX p s m [cv Φ (some x0), .int x1].toArray meth c cX11_size 3 (some .int) RX11 D Φ := cX_of B hml hK hZ
  have hx := X.1
  have hb := X.2.1
  have hown := X.2.2.2.1
  have hts := X.2.2.2.2.1
  have hl := lv_entry [cv Φ (some x0), .int x1] (n := 3) (by simp only [lgs_r, lgs_i, lgs_l, lgs_0, List.length]; exact Nat.le_of_ble_eq_true rfl)
  rw [lg_entry_eq]
  generalize (lg_sl [cv Φ (some x0), .int x1] ++ List.replicate (3 - (lg_sl [cv Φ (some x0), .int x1]).length) Slot.unset).toArray = ls at hl ⊢
  simp only [lv_args_r, lv_args_i, lv_args_l, lv_args_0] at hl
  have hl : lv_has ls 3 [(0, cv Φ (some x0)), (1, .int x1)] := hl
  have hS : va_S (cReg Φ) s.heap s.heap [] := va_S.rf
  show cWt p l e 7 2 12 178 s m [cv Φ (some x0), .int x1].toArray below meth c D Φ vlI q s.heap [] 0 0 (F0 m 0 ls [])
  have h : ((rc σ (some x0) 11).bind (fun v1 => (f_X11_elementAt v1 (x1) σ).bind (fun v2 => v2.1.elim (fun k => some (.inl k, v2.2)) (fun w3 => (gR v2.2 (some x0) 11 0).bind (fun v4 => (rc v2.2 v4 10).bind (fun v5 => (f_X10_holdsElement v5 (w3) v2.2).bind (fun v6 => if v6 = (0:Int32) then (f_X11_size_22 x0 (w3) ((1:Int32)) v2.2) else (f_X11_size_22 x0 (w3) ((0:Int32)) v2.2)))))))) = some q := h
  refine c_aload_n hx hb dX11_size_0 rfl (lv_at hl 0 rfl) ?_
  refine lv_iload_n hx hb dX11_size_1 rfl (lv_at hl 1 rfl) ?_
  obtain ⟨v1, hv1, h⟩ := ob h
  obtain ⟨v2, hv2, h⟩ := ob h
  refine c_ct (c_tV X (K_X11_elementAt l hl9 D Φ σ v1 (x1) hv2) hv1 ⟨Nat.le_of_ble_eq_true rfl, by decide⟩ ⟨w_735, ww_X11_elementAt⟩ rfl hy_X11_elementAt rfl ⟨(Nat.le_of_ble_eq_true rfl), (Nat.le_of_ble_eq_true rfl)⟩ hP hS hl.1 (Nat.le_of_ble_eq_true rfl) dX11_size_2 rfl ⟨(Nat.le_of_ble_eq_true rfl), (Nat.le_of_ble_eq_true rfl)⟩) X hnt hS ⟨(Nat.le_of_ble_eq_true rfl), (Nat.le_of_ble_eq_true rfl)⟩ (fun k e => by have h9 := el_l e h; exact (sj h9).symm) (fun w3 H locs e hP hS => ?_)
  have h := el_r e h
  refine W.eq (g2 := F0 m 5 ls [cv Φ w3]) rfl ?_
  refine c_astore_n hx hb dX11_size_5 rfl hl (Nat.le_of_ble_eq_true rfl) (lvKa rfl (lvKi lvK0)) rfl (fun ls (hl : lv_has ls 3 [(2, cv Φ w3), (0, cv Φ (some x0)), (1, .int x1)]) => ?_)
  refine c_aload_n hx hb dX11_size_6 rfl (lv_at hl 1 rfl) ?_
  obtain ⟨v4, hv4, h⟩ := ob h
  refine c_gR X hP hv4 (Nat.le_of_ble_eq_true rfl) (Nat.le_of_ble_eq_true rfl) rfl w_571 dX11_size_7 ?_
  refine c_aload_n hx hb dX11_size_10 rfl (lv_at hl 0 rfl) ?_
  obtain ⟨v5, hv5, h⟩ := ob h
  obtain ⟨v6, hv6, h⟩ := ob h
  refine c_cr (c_runV X (K_X10_holdsElement l D Φ v2.2 v5 (w3) hv6) hv5 ⟨Nat.le_of_ble_eq_true rfl, by decide⟩ ⟨w_897, ww_X10_holdsElement⟩ rfl hy_X10_holdsElement rfl ⟨(Nat.le_of_ble_eq_true rfl), (Nat.le_of_ble_eq_true rfl)⟩ hP hS hl.1 (Nat.le_of_ble_eq_true rfl) dX11_size_11 rfl ⟨(Nat.le_of_ble_eq_true rfl), (Nat.le_of_ble_eq_true rfl)⟩) ?_
  refine lv_if_ne (tgt := 21) hx hb dX11_size_14 rfl (fun hc => ?_) (fun hc => ?_)
  · have h := ine hc h
    refine lv_iconst (v := (0:Int32)) hx hb dX11_size_21 (by decide) ?_
    exact N_X11_size_22 X hl9 hnt hP hS (lv_sub hl [1, 0] rfl) h
  · have h := ip hc h
    refine lv_iconst (v := (1:Int32)) hx hb dX11_size_17 (by decide) ?_
    refine lv_goto (tgt := 22) hx hb dX11_size_18 rfl ?_
    exact N_X11_size_22 X hl9 hnt hP hS (lv_sub hl [1, 0] rfl) h
theorem ww_X11_size : Cond.instanceMethod yX11_size ∈ BG ∧ Cond.selects (yX11_size).cls yX11_size yX11_size ∈ BG ∧ Cond.initialized (yX11_size).cls ∈ BG ∧ Cond.code yX11_size cX11_size 3 (some .int) ∈ BG := ⟨w_1173, w_1174, w_56, w_1175⟩
theorem hy_X11_size : (yX11_size).cls ≠ "java/lang/invoke/MethodHandle" ∧ (yX11_size).cls ≠ "java/lang/invoke/VarHandle" ∧ (parseMethodDescriptor (yX11_size).desc).map (fun d => d.parameters.length) = some 1 := ⟨by decide, by decide, by decide +kernel⟩
def f_X11_seen_38  (x0 : Nat) (x2 : Int32) (x3 : Option Nat) (y0 : Int32) (σ : cS) : Option ((Nat ⊕ Int32) × cS) := (f_X11_refuseState (y0) σ).bind (fun v1 => v1.1.elim (fun k => some (.inl k, v1.2)) (fun w2 => (rc v1.2 (some x0) 11).bind (fun v3 => (f_X11_read v3  v1.2).bind (fun v4 => (gR v4 x3 3 19).bind (fun v5 => (gI v4 (some x0) 11 6).bind (fun v6 => (gR v4 x3 3 19).bind (fun v7 => (rc v4 (some x0) 11).bind (fun v8 => (f_X11_playedFor v8 (v7) v4).bind (fun v9 => (rc v4 v5 9).bind (fun v10 => (f_X9_seenAt v10 (x2) (v6) (v9) v4).bind (fun v11 => some (.inr v11, v4))))))))))))
def f_X11_seen_19  (x0 : Nat) (x2 : Int32) (x3 : Option Nat) (y0 : Int32) (σ : cS) : Option ((Nat ⊕ Int32) × cS) := (f_X11_refuseArgument (y0) σ).bind (fun v1 => v1.1.elim (fun k => some (.inl k, v1.2)) (fun w2 => (gR v1.2 (some x0) 11 0).bind (fun v3 => (rc v1.2 v3 10).bind (fun v4 => (f_X10_holdsElement v4 (x3) v1.2).bind (fun v5 => if v5 = (0:Int32) then (f_X11_seen_38 x0 (x2) (x3) ((1:Int32)) v1.2) else (f_X11_seen_38 x0 (x2) (x3) ((0:Int32)) v1.2))))))
def f_X11_seen (x0 : Nat) (x1 : Int32) (x2 : Int32) (σ : cS) : Option ((Nat ⊕ Int32) × cS) := (rc σ (some x0) 11).bind (fun v1 => (f_X11_elementAt v1 (x1) σ).bind (fun v2 => v2.1.elim (fun k => some (.inl k, v2.2)) (fun w3 => (f_X11_isBelow (x2) ((5:Int32))).bind (fun v4 => if v4 = (0:Int32) then (f_X11_seen_19 x0 (x2) (w3) ((1:Int32)) v2.2) else (f_X11_seen_19 x0 (x2) (w3) ((0:Int32)) v2.2)))))
set_option maxRecDepth 20000 in
set_option maxHeartbeats 4000000 in
theorem N_X11_seen_38 {p : Program} {l : Launch} {e : Env} {s : State} {m : MethodId} {args : Array Value} {below : List Frame} {meth : Method} {c : Code} {D : cD} {Φ : cG} {x0 : Nat}   {x2 : Int32} {x3 : Option Nat} {y0 : Int32} {σ : cS} {H : Heap} {locs : List Loc} {ls : Array Slot} {q : (Nat ⊕ Int32) × cS} (X : cX p s m args meth c cX11_seen 4 (some .int) RX11 D Φ) (hl9 : l.stackTraces = false) (hnt : ∀ x ∈ c.exceptionTable.toList, False) (hP : cP D Φ σ H) (hS : va_S (cReg Φ) s.heap H locs)  (hl : lv_has ls 4 [(0, cv Φ (some x0)), (2, .int x2), (3, cv Φ x3)]) (h : f_X11_seen_38  x0 x2 x3 y0 σ = some q) : cWt p l e 7 3 18 178 s m args below meth c D Φ vlI q H locs 2 12 (F0 m 38 ls [.int y0]) := by
  have hx := X.1
  have hb := X.2.1
  have hown := X.2.2.2.1
  have hts := X.2.2.2.2.1
  have h : ((f_X11_refuseState (y0) σ).bind (fun v1 => v1.1.elim (fun k => some (.inl k, v1.2)) (fun w2 => (rc v1.2 (some x0) 11).bind (fun v3 => (f_X11_read v3  v1.2).bind (fun v4 => (gR v4 x3 3 19).bind (fun v5 => (gI v4 (some x0) 11 6).bind (fun v6 => (gR v4 x3 3 19).bind (fun v7 => (rc v4 (some x0) 11).bind (fun v8 => (f_X11_playedFor v8 (v7) v4).bind (fun v9 => (rc v4 v5 9).bind (fun v10 => (f_X9_seenAt v10 (x2) (v6) (v9) v4).bind (fun v11 => some (.inr v11, v4))))))))))))) = some q := h
  obtain ⟨v1, hv1, h⟩ := ob h
  refine c_ct (c_tS X (K_X11_refuseState l hl9 D Φ σ (y0) hv1) ⟨w_704, ww_X11_refuseState⟩ hy_X11_refuseState rfl ⟨(Nat.le_of_ble_eq_true rfl), (Nat.le_of_ble_eq_true rfl)⟩ hP hS hl.1 (Nat.le_of_ble_eq_true rfl) dX11_seen_38 rfl ⟨(Nat.le_of_ble_eq_true rfl), (Nat.le_of_ble_eq_true rfl)⟩) X hnt hS ⟨(Nat.le_of_ble_eq_true rfl), (Nat.le_of_ble_eq_true rfl)⟩ (fun k e => by have h9 := el_l e h; exact (sj h9).symm) (fun w2 H locs e hP hS => ?_)
  have h := el_r e h
  refine W.eq (g2 := F0 m 41 ls []) rfl ?_
  refine c_aload_n hx hb dX11_seen_41 rfl (lv_at hl 0 rfl) ?_
  obtain ⟨v3, hv3, h⟩ := ob h
  obtain ⟨v4, hv4, h⟩ := ob h
  refine c_cw (c_runV X (K_X11_read l D Φ v1.2 v3  hv4) hv3 ⟨Nat.le_of_ble_eq_true rfl, by decide⟩ ⟨w_901, ww_X11_read⟩ rfl hy_X11_read rfl ⟨(Nat.le_of_ble_eq_true rfl), (Nat.le_of_ble_eq_true rfl)⟩ hP hS hl.1 (Nat.le_of_ble_eq_true rfl) dX11_seen_42 rfl ⟨(Nat.le_of_ble_eq_true rfl), (Nat.le_of_ble_eq_true rfl)⟩) hS (fun H locs hP hS => ?_)
  refine W.eq (g2 := F0 m 45 ls []) rfl ?_
  refine c_aload_n hx hb dX11_seen_45 rfl (lv_at hl 2 rfl) ?_
  obtain ⟨v5, hv5, h⟩ := ob h
  refine c_gR X hP hv5 (Nat.le_of_ble_eq_true rfl) (Nat.le_of_ble_eq_true rfl) rfl w_283 dX11_seen_46 ?_
  refine lv_iload_n hx hb dX11_seen_49 rfl (lv_at hl 1 rfl) ?_
  refine c_aload_n hx hb dX11_seen_50 rfl (lv_at hl 0 rfl) ?_
  obtain ⟨v6, hv6, h⟩ := ob h
  refine c_gI X hP hv6 (Nat.le_of_ble_eq_true rfl) (Nat.le_of_ble_eq_true rfl) rfl w_577 dX11_seen_51 ?_
  refine c_aload_n hx hb dX11_seen_54 rfl (lv_at hl 0 rfl) ?_
  refine c_aload_n hx hb dX11_seen_55 rfl (lv_at hl 2 rfl) ?_
  obtain ⟨v7, hv7, h⟩ := ob h
  refine c_gR X hP hv7 (Nat.le_of_ble_eq_true rfl) (Nat.le_of_ble_eq_true rfl) rfl w_283 dX11_seen_56 ?_
  obtain ⟨v8, hv8, h⟩ := ob h
  obtain ⟨v9, hv9, h⟩ := ob h
  refine c_cr (c_runV X (K_X11_playedFor l D Φ v4 v8 (v7) hv9) hv8 ⟨Nat.le_of_ble_eq_true rfl, by decide⟩ ⟨w_1047, ww_X11_playedFor⟩ rfl hy_X11_playedFor rfl ⟨(Nat.le_of_ble_eq_true rfl), (Nat.le_of_ble_eq_true rfl)⟩ hP hS hl.1 (Nat.le_of_ble_eq_true rfl) dX11_seen_59 rfl ⟨(Nat.le_of_ble_eq_true rfl), (Nat.le_of_ble_eq_true rfl)⟩) ?_
  obtain ⟨v10, hv10, h⟩ := ob h
  obtain ⟨v11, hv11, h⟩ := ob h
  refine c_cr (c_runV X (K_X9_seenAt l D Φ v4 v10 (x2) (v6) (v9) hv11) hv10 ⟨Nat.le_of_ble_eq_true rfl, by decide⟩ ⟨w_1171, ww_X9_seenAt⟩ rfl hy_X9_seenAt rfl ⟨(Nat.le_of_ble_eq_true rfl), (Nat.le_of_ble_eq_true rfl)⟩ hP hS hl.1 (Nat.le_of_ble_eq_true rfl) dX11_seen_62 rfl ⟨(Nat.le_of_ble_eq_true rfl), (Nat.le_of_ble_eq_true rfl)⟩) ?_
  exact c_ti X hP hS (sj h).symm (Nat.le_of_ble_eq_true rfl) (Nat.le_of_ble_eq_true rfl) dX11_seen_65
set_option maxRecDepth 20000 in
set_option maxHeartbeats 4000000 in
theorem N_X11_seen_19 {p : Program} {l : Launch} {e : Env} {s : State} {m : MethodId} {args : Array Value} {below : List Frame} {meth : Method} {c : Code} {D : cD} {Φ : cG} {x0 : Nat}   {x2 : Int32} {x3 : Option Nat} {y0 : Int32} {σ : cS} {H : Heap} {locs : List Loc} {ls : Array Slot} {q : (Nat ⊕ Int32) × cS} (X : cX p s m args meth c cX11_seen 4 (some .int) RX11 D Φ) (hl9 : l.stackTraces = false) (hnt : ∀ x ∈ c.exceptionTable.toList, False) (hP : cP D Φ σ H) (hS : va_S (cReg Φ) s.heap H locs)  (hl : lv_has ls 4 [(0, cv Φ (some x0)), (2, .int x2), (3, cv Φ x3)]) (h : f_X11_seen_19  x0 x2 x3 y0 σ = some q) : cWt p l e 7 3 18 178 s m args below meth c D Φ vlI q H locs 1 6 (F0 m 19 ls [.int y0]) := by
  have hx := X.1
  have hb := X.2.1
  have hown := X.2.2.2.1
  have hts := X.2.2.2.2.1
  have h : ((f_X11_refuseArgument (y0) σ).bind (fun v1 => v1.1.elim (fun k => some (.inl k, v1.2)) (fun w2 => (gR v1.2 (some x0) 11 0).bind (fun v3 => (rc v1.2 v3 10).bind (fun v4 => (f_X10_holdsElement v4 (x3) v1.2).bind (fun v5 => if v5 = (0:Int32) then (f_X11_seen_38 x0 (x2) (x3) ((1:Int32)) v1.2) else (f_X11_seen_38 x0 (x2) (x3) ((0:Int32)) v1.2))))))) = some q := h
  obtain ⟨v1, hv1, h⟩ := ob h
  refine c_ct (c_tS X (K_X11_refuseArgument l hl9 D Φ σ (y0) hv1) ⟨w_638, ww_X11_refuseArgument⟩ hy_X11_refuseArgument rfl ⟨(Nat.le_of_ble_eq_true rfl), (Nat.le_of_ble_eq_true rfl)⟩ hP hS hl.1 (Nat.le_of_ble_eq_true rfl) dX11_seen_19 rfl ⟨(Nat.le_of_ble_eq_true rfl), (Nat.le_of_ble_eq_true rfl)⟩) X hnt hS ⟨(Nat.le_of_ble_eq_true rfl), (Nat.le_of_ble_eq_true rfl)⟩ (fun k e => by have h9 := el_l e h; exact (sj h9).symm) (fun w2 H locs e hP hS => ?_)
  have h := el_r e h
  refine W.eq (g2 := F0 m 22 ls []) rfl ?_
  refine c_aload_n hx hb dX11_seen_22 rfl (lv_at hl 0 rfl) ?_
  obtain ⟨v3, hv3, h⟩ := ob h
  refine c_gR X hP hv3 (Nat.le_of_ble_eq_true rfl) (Nat.le_of_ble_eq_true rfl) rfl w_571 dX11_seen_23 ?_
  refine c_aload_n hx hb dX11_seen_26 rfl (lv_at hl 2 rfl) ?_
  obtain ⟨v4, hv4, h⟩ := ob h
  obtain ⟨v5, hv5, h⟩ := ob h
  refine c_cr (c_runV X (K_X10_holdsElement l D Φ v1.2 v4 (x3) hv5) hv4 ⟨Nat.le_of_ble_eq_true rfl, by decide⟩ ⟨w_897, ww_X10_holdsElement⟩ rfl hy_X10_holdsElement rfl ⟨(Nat.le_of_ble_eq_true rfl), (Nat.le_of_ble_eq_true rfl)⟩ hP hS hl.1 (Nat.le_of_ble_eq_true rfl) dX11_seen_27 rfl ⟨(Nat.le_of_ble_eq_true rfl), (Nat.le_of_ble_eq_true rfl)⟩) ?_
  refine lv_if_ne (tgt := 37) hx hb dX11_seen_30 rfl (fun hc => ?_) (fun hc => ?_)
  · have h := ine hc h
    refine lv_iconst (v := (0:Int32)) hx hb dX11_seen_37 (by decide) ?_
    exact N_X11_seen_38 X hl9 hnt hP hS (lv_sub hl [0, 1, 2] rfl) h
  · have h := ip hc h
    refine lv_iconst (v := (1:Int32)) hx hb dX11_seen_33 (by decide) ?_
    refine lv_goto (tgt := 38) hx hb dX11_seen_34 rfl ?_
    exact N_X11_seen_38 X hl9 hnt hP hS (lv_sub hl [0, 1, 2] rfl) h
set_option maxRecDepth 20000 in
set_option maxHeartbeats 4000000 in
theorem K_X11_seen (l : Launch) (hl9 : l.stackTraces = false) (D : cD) (Φ : cG) (σ : cS) (x0 : Nat) (x1 : Int32) (x2 : Int32) {q : (Nat ⊕ Int32) × cS} (h : f_X11_seen x0 x1 x2 σ = some q) : vx_Met l yX11_seen (Cond.code yX11_seen cX11_seen 4 (some .int) :: BG) (rA 7 3 18 178) (cPc D Φ σ [cv Φ (some x0), .int x1, .int x2]) (cQt vlI D Φ q) (cXC D Φ q) 3 18 (cReg Φ) := by
  refine vx_ofW (cc := cX11_seen) (maxL := 4) (ret := (some .int)) (by decide) rfl ?_
  intro p e s m args below meth c s₁ B hml hnt hv
  obtain ⟨rfl, hP, hK, hZ⟩ := hv
  have X : cX p s m [cv Φ (some x0), .int x1, .int x2].toArray meth c cX11_seen 4 (some .int) RX11 D Φ := cX_of B hml hK hZ
  have hx := X.1
  have hb := X.2.1
  have hown := X.2.2.2.1
  have hts := X.2.2.2.2.1
  have hl := lv_entry [cv Φ (some x0), .int x1, .int x2] (n := 4) (by simp only [lgs_r, lgs_i, lgs_l, lgs_0, List.length]; exact Nat.le_of_ble_eq_true rfl)
  rw [lg_entry_eq]
  generalize (lg_sl [cv Φ (some x0), .int x1, .int x2] ++ List.replicate (4 - (lg_sl [cv Φ (some x0), .int x1, .int x2]).length) Slot.unset).toArray = ls at hl ⊢
  simp only [lv_args_r, lv_args_i, lv_args_l, lv_args_0] at hl
  have hl : lv_has ls 4 [(0, cv Φ (some x0)), (1, .int x1), (2, .int x2)] := hl
  have hS : va_S (cReg Φ) s.heap s.heap [] := va_S.rf
  show cWt p l e 7 3 18 178 s m [cv Φ (some x0), .int x1, .int x2].toArray below meth c D Φ vlI q s.heap [] 0 0 (F0 m 0 ls [])
  have h : ((rc σ (some x0) 11).bind (fun v1 => (f_X11_elementAt v1 (x1) σ).bind (fun v2 => v2.1.elim (fun k => some (.inl k, v2.2)) (fun w3 => (f_X11_isBelow (x2) ((5:Int32))).bind (fun v4 => if v4 = (0:Int32) then (f_X11_seen_19 x0 (x2) (w3) ((1:Int32)) v2.2) else (f_X11_seen_19 x0 (x2) (w3) ((0:Int32)) v2.2)))))) = some q := h
  refine c_aload_n hx hb dX11_seen_0 rfl (lv_at hl 0 rfl) ?_
  refine lv_iload_n hx hb dX11_seen_1 rfl (lv_at hl 1 rfl) ?_
  obtain ⟨v1, hv1, h⟩ := ob h
  obtain ⟨v2, hv2, h⟩ := ob h
  refine c_ct (c_tV X (K_X11_elementAt l hl9 D Φ σ v1 (x1) hv2) hv1 ⟨Nat.le_of_ble_eq_true rfl, by decide⟩ ⟨w_735, ww_X11_elementAt⟩ rfl hy_X11_elementAt rfl ⟨(Nat.le_of_ble_eq_true rfl), (Nat.le_of_ble_eq_true rfl)⟩ hP hS hl.1 (Nat.le_of_ble_eq_true rfl) dX11_seen_2 rfl ⟨(Nat.le_of_ble_eq_true rfl), (Nat.le_of_ble_eq_true rfl)⟩) X hnt hS ⟨(Nat.le_of_ble_eq_true rfl), (Nat.le_of_ble_eq_true rfl)⟩ (fun k e => by have h9 := el_l e h; exact (sj h9).symm) (fun w3 H locs e hP hS => ?_)
  have h := el_r e h
  refine W.eq (g2 := F0 m 5 ls [cv Φ w3]) rfl ?_
  refine c_astore_n hx hb dX11_seen_5 rfl hl (Nat.le_of_ble_eq_true rfl) (lvKa rfl (lvKa rfl (lvKi lvK0))) rfl (fun ls (hl : lv_has ls 4 [(3, cv Φ w3), (0, cv Φ (some x0)), (1, .int x1), (2, .int x2)]) => ?_)
  refine lv_iload_n hx hb dX11_seen_6 rfl (lv_at hl 3 rfl) ?_
  refine lv_iconst (v := (5:Int32)) hx hb dX11_seen_7 (by decide) ?_
  obtain ⟨v4, hv4, h⟩ := ob h
  refine c_cr (c_runS X (K_X11_isBelow l D Φ v2.2 (x2) ((5:Int32)) hv4) ⟨w_635, ww_X11_isBelow⟩ hy_X11_isBelow rfl ⟨(Nat.le_of_ble_eq_true rfl), (Nat.le_of_ble_eq_true rfl)⟩ hP hS hl.1 (Nat.le_of_ble_eq_true rfl) dX11_seen_8 rfl ⟨(Nat.le_of_ble_eq_true rfl), (Nat.le_of_ble_eq_true rfl)⟩) ?_
  refine lv_if_ne (tgt := 18) hx hb dX11_seen_11 rfl (fun hc => ?_) (fun hc => ?_)
  · have h := ine hc h
    refine lv_iconst (v := (0:Int32)) hx hb dX11_seen_18 (by decide) ?_
    exact N_X11_seen_19 X hl9 hnt hP hS (lv_sub hl [1, 3, 0] rfl) h
  · have h := ip hc h
    refine lv_iconst (v := (1:Int32)) hx hb dX11_seen_14 (by decide) ?_
    refine lv_goto (tgt := 19) hx hb dX11_seen_15 rfl ?_
    exact N_X11_seen_19 X hl9 hnt hP hS (lv_sub hl [1, 3, 0] rfl) h
theorem ww_X11_seen : Cond.instanceMethod yX11_seen ∈ BG ∧ Cond.selects (yX11_seen).cls yX11_seen yX11_seen ∈ BG ∧ Cond.initialized (yX11_seen).cls ∈ BG ∧ Cond.code yX11_seen cX11_seen 4 (some .int) ∈ BG := ⟨w_1168, w_1169, w_56, w_1170⟩
theorem hy_X11_seen : (yX11_seen).cls ≠ "java/lang/invoke/MethodHandle" ∧ (yX11_seen).cls ≠ "java/lang/invoke/VarHandle" ∧ (parseMethodDescriptor (yX11_seen).desc).map (fun d => d.parameters.length) = some 2 := ⟨by decide, by decide, by decide +kernel⟩
def f_X11_why_48  (x0 : Nat) (x2 : Int32) (x4 : Option Nat) (x5 : Option Nat) (y0 : Int32) (σ : cS) : Option ((Nat ⊕ Int32) × cS) := (f_X11_refuseState (y0) σ).bind (fun v1 => v1.1.elim (fun k => some (.inl k, v1.2)) (fun w2 => (rc v1.2 (some x0) 11).bind (fun v3 => (f_X11_read v3  v1.2).bind (fun v4 => (gR v4 (some x0) 11 2).bind (fun v5 => (rc v4 v5 1).bind (fun v6 => (f_X1_prepare v6  v4).bind (fun v7 => (gR v7 (some x0) 11 2).bind (fun v8 => (rc v7 (some x0) 11).bind (fun v9 => (f_X11_holderOf v9 (x4) ((0:Int32)) v7).bind (fun v10 => (rc v7 v8 1).bind (fun v11 => (f_X1_reason v11 (x5) (x4) (x2) (v10) v7).bind (fun v12 => some (.inr v12, v7)))))))))))))
def f_X11_why_28  (x0 : Nat) (x2 : Int32) (x4 : Option Nat) (x5 : Option Nat) (y0 : Int32) (σ : cS) : Option ((Nat ⊕ Int32) × cS) := (f_X11_refuseArgument (y0) σ).bind (fun v1 => v1.1.elim (fun k => some (.inl k, v1.2)) (fun w2 => (gR v1.2 (some x0) 11 0).bind (fun v3 => (rc v1.2 v3 10).bind (fun v4 => (f_X10_holdsElement v4 (x4) v1.2).bind (fun v5 => if v5 = (0:Int32) then (f_X11_why_48 x0 (x2) (x4) (x5) ((1:Int32)) v1.2) else (f_X11_why_48 x0 (x2) (x4) (x5) ((0:Int32)) v1.2))))))
def f_X11_why (x0 : Nat) (x1 : Int32) (x2 : Int32) (x3 : Int32) (σ : cS) : Option ((Nat ⊕ Int32) × cS) := (rc σ (some x0) 11).bind (fun v1 => (f_X11_elementAt v1 (x1) σ).bind (fun v2 => v2.1.elim (fun k => some (.inl k, v2.2)) (fun w3 => (rc v2.2 (some x0) 11).bind (fun v4 => (f_X11_ruleAt v4 (x3) v2.2).bind (fun v5 => v5.1.elim (fun k => some (.inl k, v5.2)) (fun w6 => (f_X11_isBelow (x2) ((15:Int32))).bind (fun v7 => if v7 = (0:Int32) then (f_X11_why_28 x0 (x2) (w3) (w6) ((1:Int32)) v5.2) else (f_X11_why_28 x0 (x2) (w3) (w6) ((0:Int32)) v5.2))))))))
set_option maxRecDepth 20000 in
set_option maxHeartbeats 4000000 in
theorem N_X11_why_48 {p : Program} {l : Launch} {e : Env} {s : State} {m : MethodId} {args : Array Value} {below : List Frame} {meth : Method} {c : Code} {D : cD} {Φ : cG} {x0 : Nat}   {x2 : Int32} {x4 : Option Nat} {x5 : Option Nat} {y0 : Int32} {σ : cS} {H : Heap} {locs : List Loc} {ls : Array Slot} {q : (Nat ⊕ Int32) × cS} (X : cX p s m args meth c cX11_why 6 (some .int) RX11 D Φ) (hl9 : l.stackTraces = false) (hnt : ∀ x ∈ c.exceptionTable.toList, False) (hP : cP D Φ σ H) (hS : va_S (cReg Φ) s.heap H locs)  (hl : lv_has ls 6 [(0, cv Φ (some x0)), (2, .int x2), (4, cv Φ x4), (5, cv Φ x5)]) (h : f_X11_why_48  x0 x2 x4 x5 y0 σ = some q) : cWt p l e 7 4 24 178 s m args below meth c D Φ vlI q H locs 3 18 (F0 m 48 ls [.int y0]) := by
  have hx := X.1
  have hb := X.2.1
  have hown := X.2.2.2.1
  have hts := X.2.2.2.2.1
  have h : ((f_X11_refuseState (y0) σ).bind (fun v1 => v1.1.elim (fun k => some (.inl k, v1.2)) (fun w2 => (rc v1.2 (some x0) 11).bind (fun v3 => (f_X11_read v3  v1.2).bind (fun v4 => (gR v4 (some x0) 11 2).bind (fun v5 => (rc v4 v5 1).bind (fun v6 => (f_X1_prepare v6  v4).bind (fun v7 => (gR v7 (some x0) 11 2).bind (fun v8 => (rc v7 (some x0) 11).bind (fun v9 => (f_X11_holderOf v9 (x4) ((0:Int32)) v7).bind (fun v10 => (rc v7 v8 1).bind (fun v11 => (f_X1_reason v11 (x5) (x4) (x2) (v10) v7).bind (fun v12 => some (.inr v12, v7)))))))))))))) = some q := h
  obtain ⟨v1, hv1, h⟩ := ob h
  refine c_ct (c_tS X (K_X11_refuseState l hl9 D Φ σ (y0) hv1) ⟨w_704, ww_X11_refuseState⟩ hy_X11_refuseState rfl ⟨(Nat.le_of_ble_eq_true rfl), (Nat.le_of_ble_eq_true rfl)⟩ hP hS hl.1 (Nat.le_of_ble_eq_true rfl) dX11_why_48 rfl ⟨(Nat.le_of_ble_eq_true rfl), (Nat.le_of_ble_eq_true rfl)⟩) X hnt hS ⟨(Nat.le_of_ble_eq_true rfl), (Nat.le_of_ble_eq_true rfl)⟩ (fun k e => by have h9 := el_l e h; exact (sj h9).symm) (fun w2 H locs e hP hS => ?_)
  have h := el_r e h
  refine W.eq (g2 := F0 m 51 ls []) rfl ?_
  refine c_aload_n hx hb dX11_why_51 rfl (lv_at hl 0 rfl) ?_
  obtain ⟨v3, hv3, h⟩ := ob h
  obtain ⟨v4, hv4, h⟩ := ob h
  refine c_cw (c_runV X (K_X11_read l D Φ v1.2 v3  hv4) hv3 ⟨Nat.le_of_ble_eq_true rfl, by decide⟩ ⟨w_901, ww_X11_read⟩ rfl hy_X11_read rfl ⟨(Nat.le_of_ble_eq_true rfl), (Nat.le_of_ble_eq_true rfl)⟩ hP hS hl.1 (Nat.le_of_ble_eq_true rfl) dX11_why_52 rfl ⟨(Nat.le_of_ble_eq_true rfl), (Nat.le_of_ble_eq_true rfl)⟩) hS (fun H locs hP hS => ?_)
  refine W.eq (g2 := F0 m 55 ls []) rfl ?_
  refine c_aload_n hx hb dX11_why_55 rfl (lv_at hl 0 rfl) ?_
  obtain ⟨v5, hv5, h⟩ := ob h
  refine c_gR X hP hv5 (Nat.le_of_ble_eq_true rfl) (Nat.le_of_ble_eq_true rfl) rfl w_573 dX11_why_56 ?_
  obtain ⟨v6, hv6, h⟩ := ob h
  obtain ⟨v7, hv7, h⟩ := ob h
  refine c_cw (c_runV X (K_X1_prepare l D Φ v4 v6  hv7) hv6 ⟨Nat.le_of_ble_eq_true rfl, by decide⟩ ⟨w_909, ww_X1_prepare⟩ rfl hy_X1_prepare rfl ⟨(Nat.le_of_ble_eq_true rfl), (Nat.le_of_ble_eq_true rfl)⟩ hP hS hl.1 (Nat.le_of_ble_eq_true rfl) dX11_why_59 rfl ⟨(Nat.le_of_ble_eq_true rfl), (Nat.le_of_ble_eq_true rfl)⟩) hS (fun H locs hP hS => ?_)
  refine W.eq (g2 := F0 m 62 ls []) rfl ?_
  refine c_aload_n hx hb dX11_why_62 rfl (lv_at hl 0 rfl) ?_
  obtain ⟨v8, hv8, h⟩ := ob h
  refine c_gR X hP hv8 (Nat.le_of_ble_eq_true rfl) (Nat.le_of_ble_eq_true rfl) rfl w_573 dX11_why_63 ?_
  refine c_aload hx hb dX11_why_66 (lv_at hl 3 rfl) ?_
  refine c_aload hx hb dX11_why_68 (lv_at hl 2 rfl) ?_
  refine lv_iload_n hx hb dX11_why_70 rfl (lv_at hl 1 rfl) ?_
  refine c_aload_n hx hb dX11_why_71 rfl (lv_at hl 0 rfl) ?_
  refine c_aload hx hb dX11_why_72 (lv_at hl 2 rfl) ?_
  refine lv_iconst (v := (0:Int32)) hx hb dX11_why_74 (by decide) ?_
  obtain ⟨v9, hv9, h⟩ := ob h
  obtain ⟨v10, hv10, h⟩ := ob h
  refine c_cr (c_runV X (K_X11_holderOf l D Φ v7 v9 (x4) ((0:Int32)) hv10) hv9 ⟨Nat.le_of_ble_eq_true rfl, by decide⟩ ⟨w_977, ww_X11_holderOf⟩ rfl hy_X11_holderOf rfl ⟨(Nat.le_of_ble_eq_true rfl), (Nat.le_of_ble_eq_true rfl)⟩ hP hS hl.1 (Nat.le_of_ble_eq_true rfl) dX11_why_75 rfl ⟨(Nat.le_of_ble_eq_true rfl), (Nat.le_of_ble_eq_true rfl)⟩) ?_
  obtain ⟨v11, hv11, h⟩ := ob h
  obtain ⟨v12, hv12, h⟩ := ob h
  refine c_cr (c_runV X (K_X1_reason l D Φ v7 v11 (x5) (x4) (x2) (v10) hv12) hv11 ⟨Nat.le_of_ble_eq_true rfl, by decide⟩ ⟨w_1188, ww_X1_reason⟩ rfl hy_X1_reason rfl ⟨(Nat.le_of_ble_eq_true rfl), (Nat.le_of_ble_eq_true rfl)⟩ hP hS hl.1 (Nat.le_of_ble_eq_true rfl) dX11_why_78 rfl ⟨(Nat.le_of_ble_eq_true rfl), (Nat.le_of_ble_eq_true rfl)⟩) ?_
  exact c_ti X hP hS (sj h).symm (Nat.le_of_ble_eq_true rfl) (Nat.le_of_ble_eq_true rfl) dX11_why_81
set_option maxRecDepth 20000 in
set_option maxHeartbeats 4000000 in
theorem N_X11_why_28 {p : Program} {l : Launch} {e : Env} {s : State} {m : MethodId} {args : Array Value} {below : List Frame} {meth : Method} {c : Code} {D : cD} {Φ : cG} {x0 : Nat}   {x2 : Int32} {x4 : Option Nat} {x5 : Option Nat} {y0 : Int32} {σ : cS} {H : Heap} {locs : List Loc} {ls : Array Slot} {q : (Nat ⊕ Int32) × cS} (X : cX p s m args meth c cX11_why 6 (some .int) RX11 D Φ) (hl9 : l.stackTraces = false) (hnt : ∀ x ∈ c.exceptionTable.toList, False) (hP : cP D Φ σ H) (hS : va_S (cReg Φ) s.heap H locs)  (hl : lv_has ls 6 [(0, cv Φ (some x0)), (2, .int x2), (4, cv Φ x4), (5, cv Φ x5)]) (h : f_X11_why_28  x0 x2 x4 x5 y0 σ = some q) : cWt p l e 7 4 24 178 s m args below meth c D Φ vlI q H locs 2 12 (F0 m 28 ls [.int y0]) := by
  have hx := X.1
  have hb := X.2.1
  have hown := X.2.2.2.1
  have hts := X.2.2.2.2.1
  have h : ((f_X11_refuseArgument (y0) σ).bind (fun v1 => v1.1.elim (fun k => some (.inl k, v1.2)) (fun w2 => (gR v1.2 (some x0) 11 0).bind (fun v3 => (rc v1.2 v3 10).bind (fun v4 => (f_X10_holdsElement v4 (x4) v1.2).bind (fun v5 => if v5 = (0:Int32) then (f_X11_why_48 x0 (x2) (x4) (x5) ((1:Int32)) v1.2) else (f_X11_why_48 x0 (x2) (x4) (x5) ((0:Int32)) v1.2))))))) = some q := h
  obtain ⟨v1, hv1, h⟩ := ob h
  refine c_ct (c_tS X (K_X11_refuseArgument l hl9 D Φ σ (y0) hv1) ⟨w_638, ww_X11_refuseArgument⟩ hy_X11_refuseArgument rfl ⟨(Nat.le_of_ble_eq_true rfl), (Nat.le_of_ble_eq_true rfl)⟩ hP hS hl.1 (Nat.le_of_ble_eq_true rfl) dX11_why_28 rfl ⟨(Nat.le_of_ble_eq_true rfl), (Nat.le_of_ble_eq_true rfl)⟩) X hnt hS ⟨(Nat.le_of_ble_eq_true rfl), (Nat.le_of_ble_eq_true rfl)⟩ (fun k e => by have h9 := el_l e h; exact (sj h9).symm) (fun w2 H locs e hP hS => ?_)
  have h := el_r e h
  refine W.eq (g2 := F0 m 31 ls []) rfl ?_
  refine c_aload_n hx hb dX11_why_31 rfl (lv_at hl 0 rfl) ?_
  obtain ⟨v3, hv3, h⟩ := ob h
  refine c_gR X hP hv3 (Nat.le_of_ble_eq_true rfl) (Nat.le_of_ble_eq_true rfl) rfl w_571 dX11_why_32 ?_
  refine c_aload hx hb dX11_why_35 (lv_at hl 2 rfl) ?_
  obtain ⟨v4, hv4, h⟩ := ob h
  obtain ⟨v5, hv5, h⟩ := ob h
  refine c_cr (c_runV X (K_X10_holdsElement l D Φ v1.2 v4 (x4) hv5) hv4 ⟨Nat.le_of_ble_eq_true rfl, by decide⟩ ⟨w_897, ww_X10_holdsElement⟩ rfl hy_X10_holdsElement rfl ⟨(Nat.le_of_ble_eq_true rfl), (Nat.le_of_ble_eq_true rfl)⟩ hP hS hl.1 (Nat.le_of_ble_eq_true rfl) dX11_why_37 rfl ⟨(Nat.le_of_ble_eq_true rfl), (Nat.le_of_ble_eq_true rfl)⟩) ?_
  refine lv_if_ne (tgt := 47) hx hb dX11_why_40 rfl (fun hc => ?_) (fun hc => ?_)
  · have h := ine hc h
    refine lv_iconst (v := (0:Int32)) hx hb dX11_why_47 (by decide) ?_
    exact N_X11_why_48 X hl9 hnt hP hS (lv_sub hl [0, 1, 2, 3] rfl) h
  · have h := ip hc h
    refine lv_iconst (v := (1:Int32)) hx hb dX11_why_43 (by decide) ?_
    refine lv_goto (tgt := 48) hx hb dX11_why_44 rfl ?_
    exact N_X11_why_48 X hl9 hnt hP hS (lv_sub hl [0, 1, 2, 3] rfl) h
set_option maxRecDepth 20000 in
set_option maxHeartbeats 4000000 in
theorem K_X11_why (l : Launch) (hl9 : l.stackTraces = false) (D : cD) (Φ : cG) (σ : cS) (x0 : Nat) (x1 : Int32) (x2 : Int32) (x3 : Int32) {q : (Nat ⊕ Int32) × cS} (h : f_X11_why x0 x1 x2 x3 σ = some q) : vx_Met l yX11_why (Cond.code yX11_why cX11_why 6 (some .int) :: BG) (rA 7 4 24 178) (cPc D Φ σ [cv Φ (some x0), .int x1, .int x2, .int x3]) (cQt vlI D Φ q) (cXC D Φ q) 4 24 (cReg Φ) := by
  refine vx_ofW (cc := cX11_why) (maxL := 6) (ret := (some .int)) (by decide) rfl ?_
  intro p e s m args below meth c s₁ B hml hnt hv
  obtain ⟨rfl, hP, hK, hZ⟩ := hv
  have X : cX p s m [cv Φ (some x0), .int x1, .int x2, .int x3].toArray meth c cX11_why 6 (some .int) RX11 D Φ := cX_of B hml hK hZ
  have hx := X.1
  have hb := X.2.1
  have hown := X.2.2.2.1
  have hts := X.2.2.2.2.1
  have hl := lv_entry [cv Φ (some x0), .int x1, .int x2, .int x3] (n := 6) (by simp only [lgs_r, lgs_i, lgs_l, lgs_0, List.length]; exact Nat.le_of_ble_eq_true rfl)
  rw [lg_entry_eq]
  generalize (lg_sl [cv Φ (some x0), .int x1, .int x2, .int x3] ++ List.replicate (6 - (lg_sl [cv Φ (some x0), .int x1, .int x2, .int x3]).length) Slot.unset).toArray = ls at hl ⊢
  simp only [lv_args_r, lv_args_i, lv_args_l, lv_args_0] at hl
  have hl : lv_has ls 6 [(0, cv Φ (some x0)), (1, .int x1), (2, .int x2), (3, .int x3)] := hl
  have hS : va_S (cReg Φ) s.heap s.heap [] := va_S.rf
  show cWt p l e 7 4 24 178 s m [cv Φ (some x0), .int x1, .int x2, .int x3].toArray below meth c D Φ vlI q s.heap [] 0 0 (F0 m 0 ls [])
  have h : ((rc σ (some x0) 11).bind (fun v1 => (f_X11_elementAt v1 (x1) σ).bind (fun v2 => v2.1.elim (fun k => some (.inl k, v2.2)) (fun w3 => (rc v2.2 (some x0) 11).bind (fun v4 => (f_X11_ruleAt v4 (x3) v2.2).bind (fun v5 => v5.1.elim (fun k => some (.inl k, v5.2)) (fun w6 => (f_X11_isBelow (x2) ((15:Int32))).bind (fun v7 => if v7 = (0:Int32) then (f_X11_why_28 x0 (x2) (w3) (w6) ((1:Int32)) v5.2) else (f_X11_why_28 x0 (x2) (w3) (w6) ((0:Int32)) v5.2))))))))) = some q := h
  refine c_aload_n hx hb dX11_why_0 rfl (lv_at hl 0 rfl) ?_
  refine lv_iload_n hx hb dX11_why_1 rfl (lv_at hl 1 rfl) ?_
  obtain ⟨v1, hv1, h⟩ := ob h
  obtain ⟨v2, hv2, h⟩ := ob h
  refine c_ct (c_tV X (K_X11_elementAt l hl9 D Φ σ v1 (x1) hv2) hv1 ⟨Nat.le_of_ble_eq_true rfl, by decide⟩ ⟨w_735, ww_X11_elementAt⟩ rfl hy_X11_elementAt rfl ⟨(Nat.le_of_ble_eq_true rfl), (Nat.le_of_ble_eq_true rfl)⟩ hP hS hl.1 (Nat.le_of_ble_eq_true rfl) dX11_why_2 rfl ⟨(Nat.le_of_ble_eq_true rfl), (Nat.le_of_ble_eq_true rfl)⟩) X hnt hS ⟨(Nat.le_of_ble_eq_true rfl), (Nat.le_of_ble_eq_true rfl)⟩ (fun k e => by have h9 := el_l e h; exact (sj h9).symm) (fun w3 H locs e hP hS => ?_)
  have h := el_r e h
  refine W.eq (g2 := F0 m 5 ls [cv Φ w3]) rfl ?_
  refine c_astore hx hb dX11_why_5 hl (Nat.le_of_ble_eq_true rfl) (lvKa rfl (lvKa rfl (lvKa rfl (lvKi lvK0)))) rfl (fun ls (hl : lv_has ls 6 [(4, cv Φ w3), (0, cv Φ (some x0)), (1, .int x1), (2, .int x2), (3, .int x3)]) => ?_)
  refine c_aload_n hx hb dX11_why_7 rfl (lv_at hl 1 rfl) ?_
  refine lv_iload_n hx hb dX11_why_8 rfl (lv_at hl 4 rfl) ?_
  obtain ⟨v4, hv4, h⟩ := ob h
  obtain ⟨v5, hv5, h⟩ := ob h
  refine c_ct (c_tV X (K_X11_ruleAt l hl9 D Φ v2.2 v4 (x3) hv5) hv4 ⟨Nat.le_of_ble_eq_true rfl, by decide⟩ ⟨w_1180, ww_X11_ruleAt⟩ rfl hy_X11_ruleAt rfl ⟨(Nat.le_of_ble_eq_true rfl), (Nat.le_of_ble_eq_true rfl)⟩ hP hS hl.1 (Nat.le_of_ble_eq_true rfl) dX11_why_9 rfl ⟨(Nat.le_of_ble_eq_true rfl), (Nat.le_of_ble_eq_true rfl)⟩) X hnt hS ⟨(Nat.le_of_ble_eq_true rfl), (Nat.le_of_ble_eq_true rfl)⟩ (fun k e => by have h9 := el_l e h; exact (sj h9).symm) (fun w6 H locs e hP hS => ?_)
  have h := el_r e h
  refine W.eq (g2 := F0 m 12 ls [cv Φ w6]) rfl ?_
  refine c_astore hx hb dX11_why_12 hl (Nat.le_of_ble_eq_true rfl) (lvKr (lvKa rfl (lvKa rfl (lvKa rfl (lvKa rfl lvK0))))) rfl (fun ls (hl : lv_has ls 6 [(5, cv Φ w6), (4, cv Φ w3), (0, cv Φ (some x0)), (1, .int x1), (2, .int x2), (3, .int x3)]) => ?_)
  refine lv_iload_n hx hb dX11_why_14 rfl (lv_at hl 4 rfl) ?_
  refine lv_bipush (v := (15:Int32)) hx hb dX11_why_15 (by decide) ?_
  obtain ⟨v7, hv7, h⟩ := ob h
  refine c_cr (c_runS X (K_X11_isBelow l D Φ v5.2 (x2) ((15:Int32)) hv7) ⟨w_635, ww_X11_isBelow⟩ hy_X11_isBelow rfl ⟨(Nat.le_of_ble_eq_true rfl), (Nat.le_of_ble_eq_true rfl)⟩ hP hS hl.1 (Nat.le_of_ble_eq_true rfl) dX11_why_17 rfl ⟨(Nat.le_of_ble_eq_true rfl), (Nat.le_of_ble_eq_true rfl)⟩) ?_
  refine lv_if_ne (tgt := 27) hx hb dX11_why_20 rfl (fun hc => ?_) (fun hc => ?_)
  · have h := ine hc h
    refine lv_iconst (v := (0:Int32)) hx hb dX11_why_27 (by decide) ?_
    exact N_X11_why_28 X hl9 hnt hP hS (lv_sub hl [2, 4, 1, 0] rfl) h
  · have h := ip hc h
    refine lv_iconst (v := (1:Int32)) hx hb dX11_why_23 (by decide) ?_
    refine lv_goto (tgt := 28) hx hb dX11_why_24 rfl ?_
    exact N_X11_why_28 X hl9 hnt hP hS (lv_sub hl [2, 4, 1, 0] rfl) h
theorem ww_X11_why : Cond.instanceMethod yX11_why ∈ BG ∧ Cond.selects (yX11_why).cls yX11_why yX11_why ∈ BG ∧ Cond.initialized (yX11_why).cls ∈ BG ∧ Cond.code yX11_why cX11_why 6 (some .int) ∈ BG := ⟨w_1177, w_1178, w_56, w_1179⟩
theorem hy_X11_why : (yX11_why).cls ≠ "java/lang/invoke/MethodHandle" ∧ (yX11_why).cls ≠ "java/lang/invoke/VarHandle" ∧ (parseMethodDescriptor (yX11_why).desc).map (fun d => d.parameters.length) = some 3 := ⟨by decide, by decide, by decide +kernel⟩
def f_X11_valueAnew_39  (x0 : Nat) (x2 : Int32) (x3 : Option Nat) (y0 : Int32) (σ : cS) : Option ((Nat ⊕ Int32) × cS) := (f_X11_refuseState (y0) σ).bind (fun v1 => v1.1.elim (fun k => some (.inl k, v1.2)) (fun w2 => (gR v1.2 (some x0) 11 2).bind (fun v3 => (rc v1.2 v3 1).bind (fun v4 => (f_X1_prepare v4  v1.2).bind (fun v5 => (rc v5 (some x0) 11).bind (fun v6 => (f_X11_findAnew v6 (x3) v5).bind (fun v7 => (rc v7 (some x0) 11).bind (fun v8 => (f_X11_styleOf v8 (x3) ((1:Int32)) v7).bind (fun v9 => (gR v7 v9 9 0).bind (fun v10 => (aI v7 v10 x2).bind (fun v11 => some (.inr v11, v7))))))))))))
def f_X11_valueAnew_20  (x0 : Nat) (x2 : Int32) (x3 : Option Nat) (y0 : Int32) (σ : cS) : Option ((Nat ⊕ Int32) × cS) := (f_X11_refuseArgument (y0) σ).bind (fun v1 => v1.1.elim (fun k => some (.inl k, v1.2)) (fun w2 => (gR v1.2 (some x0) 11 0).bind (fun v3 => (rc v1.2 v3 10).bind (fun v4 => (f_X10_holdsElement v4 (x3) v1.2).bind (fun v5 => if v5 = (0:Int32) then (f_X11_valueAnew_39 x0 (x2) (x3) ((1:Int32)) v1.2) else (f_X11_valueAnew_39 x0 (x2) (x3) ((0:Int32)) v1.2))))))
def f_X11_valueAnew (x0 : Nat) (x1 : Int32) (x2 : Int32) (σ : cS) : Option ((Nat ⊕ Int32) × cS) := (rc σ (some x0) 11).bind (fun v1 => (f_X11_elementAt v1 (x1) σ).bind (fun v2 => v2.1.elim (fun k => some (.inl k, v2.2)) (fun w3 => (f_X11_isBelow (x2) ((15:Int32))).bind (fun v4 => if v4 = (0:Int32) then (f_X11_valueAnew_20 x0 (x2) (w3) ((1:Int32)) v2.2) else (f_X11_valueAnew_20 x0 (x2) (w3) ((0:Int32)) v2.2)))))
set_option maxRecDepth 20000 in
set_option maxHeartbeats 4000000 in
theorem N_X11_valueAnew_39 {p : Program} {l : Launch} {e : Env} {s : State} {m : MethodId} {args : Array Value} {below : List Frame} {meth : Method} {c : Code} {D : cD} {Φ : cG} {x0 : Nat}   {x2 : Int32} {x3 : Option Nat} {y0 : Int32} {σ : cS} {H : Heap} {locs : List Loc} {ls : Array Slot} {q : (Nat ⊕ Int32) × cS} (X : cX p s m args meth c cX11_valueAnew 4 (some .int) RX11 D Φ) (hl9 : l.stackTraces = false) (hnt : ∀ x ∈ c.exceptionTable.toList, False) (hP : cP D Φ σ H) (hS : va_S (cReg Φ) s.heap H locs)  (hl : lv_has ls 4 [(0, cv Φ (some x0)), (2, .int x2), (3, cv Φ x3)]) (h : f_X11_valueAnew_39  x0 x2 x3 y0 σ = some q) : cWt p l e 7 3 18 155 s m args below meth c D Φ vlI q H locs 2 12 (F0 m 39 ls [.int y0]) := by
  have hx := X.1
  have hb := X.2.1
  have hown := X.2.2.2.1
  have hts := X.2.2.2.2.1
  have h : ((f_X11_refuseState (y0) σ).bind (fun v1 => v1.1.elim (fun k => some (.inl k, v1.2)) (fun w2 => (gR v1.2 (some x0) 11 2).bind (fun v3 => (rc v1.2 v3 1).bind (fun v4 => (f_X1_prepare v4  v1.2).bind (fun v5 => (rc v5 (some x0) 11).bind (fun v6 => (f_X11_findAnew v6 (x3) v5).bind (fun v7 => (rc v7 (some x0) 11).bind (fun v8 => (f_X11_styleOf v8 (x3) ((1:Int32)) v7).bind (fun v9 => (gR v7 v9 9 0).bind (fun v10 => (aI v7 v10 x2).bind (fun v11 => some (.inr v11, v7))))))))))))) = some q := h
  obtain ⟨v1, hv1, h⟩ := ob h
  refine c_ct (c_tS X (K_X11_refuseState l hl9 D Φ σ (y0) hv1) ⟨w_704, ww_X11_refuseState⟩ hy_X11_refuseState rfl ⟨(Nat.le_of_ble_eq_true rfl), (Nat.le_of_ble_eq_true rfl)⟩ hP hS hl.1 (Nat.le_of_ble_eq_true rfl) dX11_valueAnew_39 rfl ⟨(Nat.le_of_ble_eq_true rfl), (Nat.le_of_ble_eq_true rfl)⟩) X hnt hS ⟨(Nat.le_of_ble_eq_true rfl), (Nat.le_of_ble_eq_true rfl)⟩ (fun k e => by have h9 := el_l e h; exact (sj h9).symm) (fun w2 H locs e hP hS => ?_)
  have h := el_r e h
  refine W.eq (g2 := F0 m 42 ls []) rfl ?_
  refine c_aload_n hx hb dX11_valueAnew_42 rfl (lv_at hl 0 rfl) ?_
  obtain ⟨v3, hv3, h⟩ := ob h
  refine c_gR X hP hv3 (Nat.le_of_ble_eq_true rfl) (Nat.le_of_ble_eq_true rfl) rfl w_573 dX11_valueAnew_43 ?_
  obtain ⟨v4, hv4, h⟩ := ob h
  obtain ⟨v5, hv5, h⟩ := ob h
  refine c_cw (c_runV X (K_X1_prepare l D Φ v1.2 v4  hv5) hv4 ⟨Nat.le_of_ble_eq_true rfl, by decide⟩ ⟨w_909, ww_X1_prepare⟩ rfl hy_X1_prepare rfl ⟨(Nat.le_of_ble_eq_true rfl), (Nat.le_of_ble_eq_true rfl)⟩ hP hS hl.1 (Nat.le_of_ble_eq_true rfl) dX11_valueAnew_46 rfl ⟨(Nat.le_of_ble_eq_true rfl), (Nat.le_of_ble_eq_true rfl)⟩) hS (fun H locs hP hS => ?_)
  refine W.eq (g2 := F0 m 49 ls []) rfl ?_
  refine c_aload_n hx hb dX11_valueAnew_49 rfl (lv_at hl 0 rfl) ?_
  refine c_aload_n hx hb dX11_valueAnew_50 rfl (lv_at hl 2 rfl) ?_
  obtain ⟨v6, hv6, h⟩ := ob h
  obtain ⟨v7, hv7, h⟩ := ob h
  refine c_cw (c_runV X (K_X11_findAnew l D Φ v5 v6 (x3) hv7) hv6 ⟨Nat.le_of_ble_eq_true rfl, by decide⟩ ⟨w_1124, ww_X11_findAnew⟩ rfl hy_X11_findAnew rfl ⟨(Nat.le_of_ble_eq_true rfl), (Nat.le_of_ble_eq_true rfl)⟩ hP hS hl.1 (Nat.le_of_ble_eq_true rfl) dX11_valueAnew_51 rfl ⟨(Nat.le_of_ble_eq_true rfl), (Nat.le_of_ble_eq_true rfl)⟩) hS (fun H locs hP hS => ?_)
  refine W.eq (g2 := F0 m 54 ls []) rfl ?_
  refine c_aload_n hx hb dX11_valueAnew_54 rfl (lv_at hl 0 rfl) ?_
  refine c_aload_n hx hb dX11_valueAnew_55 rfl (lv_at hl 2 rfl) ?_
  refine lv_iconst (v := (1:Int32)) hx hb dX11_valueAnew_56 (by decide) ?_
  obtain ⟨v8, hv8, h⟩ := ob h
  obtain ⟨v9, hv9, h⟩ := ob h
  refine c_cr (c_runV X (K_X11_styleOf l D Φ v7 v8 (x3) ((1:Int32)) hv9) hv8 ⟨Nat.le_of_ble_eq_true rfl, by decide⟩ ⟨w_981, ww_X11_styleOf⟩ rfl hy_X11_styleOf rfl ⟨(Nat.le_of_ble_eq_true rfl), (Nat.le_of_ble_eq_true rfl)⟩ hP hS hl.1 (Nat.le_of_ble_eq_true rfl) dX11_valueAnew_57 rfl ⟨(Nat.le_of_ble_eq_true rfl), (Nat.le_of_ble_eq_true rfl)⟩) ?_
  obtain ⟨v10, hv10, h⟩ := ob h
  refine c_gR X hP hv10 (Nat.le_of_ble_eq_true rfl) (Nat.le_of_ble_eq_true rfl) rfl w_94 dX11_valueAnew_60 ?_
  refine lv_iload_n hx hb dX11_valueAnew_63 rfl (lv_at hl 1 rfl) ?_
  obtain ⟨v11, hv11, h⟩ := ob h
  refine c_ald X hP hv11 dX11_valueAnew_64 ?_
  exact c_ti X hP hS (sj h).symm (Nat.le_of_ble_eq_true rfl) (Nat.le_of_ble_eq_true rfl) dX11_valueAnew_65
set_option maxRecDepth 20000 in
set_option maxHeartbeats 4000000 in
theorem N_X11_valueAnew_20 {p : Program} {l : Launch} {e : Env} {s : State} {m : MethodId} {args : Array Value} {below : List Frame} {meth : Method} {c : Code} {D : cD} {Φ : cG} {x0 : Nat}   {x2 : Int32} {x3 : Option Nat} {y0 : Int32} {σ : cS} {H : Heap} {locs : List Loc} {ls : Array Slot} {q : (Nat ⊕ Int32) × cS} (X : cX p s m args meth c cX11_valueAnew 4 (some .int) RX11 D Φ) (hl9 : l.stackTraces = false) (hnt : ∀ x ∈ c.exceptionTable.toList, False) (hP : cP D Φ σ H) (hS : va_S (cReg Φ) s.heap H locs)  (hl : lv_has ls 4 [(0, cv Φ (some x0)), (2, .int x2), (3, cv Φ x3)]) (h : f_X11_valueAnew_20  x0 x2 x3 y0 σ = some q) : cWt p l e 7 3 18 155 s m args below meth c D Φ vlI q H locs 1 6 (F0 m 20 ls [.int y0]) := by
  have hx := X.1
  have hb := X.2.1
  have hown := X.2.2.2.1
  have hts := X.2.2.2.2.1
  have h : ((f_X11_refuseArgument (y0) σ).bind (fun v1 => v1.1.elim (fun k => some (.inl k, v1.2)) (fun w2 => (gR v1.2 (some x0) 11 0).bind (fun v3 => (rc v1.2 v3 10).bind (fun v4 => (f_X10_holdsElement v4 (x3) v1.2).bind (fun v5 => if v5 = (0:Int32) then (f_X11_valueAnew_39 x0 (x2) (x3) ((1:Int32)) v1.2) else (f_X11_valueAnew_39 x0 (x2) (x3) ((0:Int32)) v1.2))))))) = some q := h
  obtain ⟨v1, hv1, h⟩ := ob h
  refine c_ct (c_tS X (K_X11_refuseArgument l hl9 D Φ σ (y0) hv1) ⟨w_638, ww_X11_refuseArgument⟩ hy_X11_refuseArgument rfl ⟨(Nat.le_of_ble_eq_true rfl), (Nat.le_of_ble_eq_true rfl)⟩ hP hS hl.1 (Nat.le_of_ble_eq_true rfl) dX11_valueAnew_20 rfl ⟨(Nat.le_of_ble_eq_true rfl), (Nat.le_of_ble_eq_true rfl)⟩) X hnt hS ⟨(Nat.le_of_ble_eq_true rfl), (Nat.le_of_ble_eq_true rfl)⟩ (fun k e => by have h9 := el_l e h; exact (sj h9).symm) (fun w2 H locs e hP hS => ?_)
  have h := el_r e h
  refine W.eq (g2 := F0 m 23 ls []) rfl ?_
  refine c_aload_n hx hb dX11_valueAnew_23 rfl (lv_at hl 0 rfl) ?_
  obtain ⟨v3, hv3, h⟩ := ob h
  refine c_gR X hP hv3 (Nat.le_of_ble_eq_true rfl) (Nat.le_of_ble_eq_true rfl) rfl w_571 dX11_valueAnew_24 ?_
  refine c_aload_n hx hb dX11_valueAnew_27 rfl (lv_at hl 2 rfl) ?_
  obtain ⟨v4, hv4, h⟩ := ob h
  obtain ⟨v5, hv5, h⟩ := ob h
  refine c_cr (c_runV X (K_X10_holdsElement l D Φ v1.2 v4 (x3) hv5) hv4 ⟨Nat.le_of_ble_eq_true rfl, by decide⟩ ⟨w_897, ww_X10_holdsElement⟩ rfl hy_X10_holdsElement rfl ⟨(Nat.le_of_ble_eq_true rfl), (Nat.le_of_ble_eq_true rfl)⟩ hP hS hl.1 (Nat.le_of_ble_eq_true rfl) dX11_valueAnew_28 rfl ⟨(Nat.le_of_ble_eq_true rfl), (Nat.le_of_ble_eq_true rfl)⟩) ?_
  refine lv_if_ne (tgt := 38) hx hb dX11_valueAnew_31 rfl (fun hc => ?_) (fun hc => ?_)
  · have h := ine hc h
    refine lv_iconst (v := (0:Int32)) hx hb dX11_valueAnew_38 (by decide) ?_
    exact N_X11_valueAnew_39 X hl9 hnt hP hS (lv_sub hl [0, 1, 2] rfl) h
  · have h := ip hc h
    refine lv_iconst (v := (1:Int32)) hx hb dX11_valueAnew_34 (by decide) ?_
    refine lv_goto (tgt := 39) hx hb dX11_valueAnew_35 rfl ?_
    exact N_X11_valueAnew_39 X hl9 hnt hP hS (lv_sub hl [0, 1, 2] rfl) h
set_option maxRecDepth 20000 in
set_option maxHeartbeats 4000000 in
theorem K_X11_valueAnew (l : Launch) (hl9 : l.stackTraces = false) (D : cD) (Φ : cG) (σ : cS) (x0 : Nat) (x1 : Int32) (x2 : Int32) {q : (Nat ⊕ Int32) × cS} (h : f_X11_valueAnew x0 x1 x2 σ = some q) : vx_Met l yX11_valueAnew (Cond.code yX11_valueAnew cX11_valueAnew 4 (some .int) :: BG) (rA 7 3 18 155) (cPc D Φ σ [cv Φ (some x0), .int x1, .int x2]) (cQt vlI D Φ q) (cXC D Φ q) 3 18 (cReg Φ) := by
  refine vx_ofW (cc := cX11_valueAnew) (maxL := 4) (ret := (some .int)) (by decide) rfl ?_
  intro p e s m args below meth c s₁ B hml hnt hv
  obtain ⟨rfl, hP, hK, hZ⟩ := hv
  have X : cX p s m [cv Φ (some x0), .int x1, .int x2].toArray meth c cX11_valueAnew 4 (some .int) RX11 D Φ := cX_of B hml hK hZ
  have hx := X.1
  have hb := X.2.1
  have hown := X.2.2.2.1
  have hts := X.2.2.2.2.1
  have hl := lv_entry [cv Φ (some x0), .int x1, .int x2] (n := 4) (by simp only [lgs_r, lgs_i, lgs_l, lgs_0, List.length]; exact Nat.le_of_ble_eq_true rfl)
  rw [lg_entry_eq]
  generalize (lg_sl [cv Φ (some x0), .int x1, .int x2] ++ List.replicate (4 - (lg_sl [cv Φ (some x0), .int x1, .int x2]).length) Slot.unset).toArray = ls at hl ⊢
  simp only [lv_args_r, lv_args_i, lv_args_l, lv_args_0] at hl
  have hl : lv_has ls 4 [(0, cv Φ (some x0)), (1, .int x1), (2, .int x2)] := hl
  have hS : va_S (cReg Φ) s.heap s.heap [] := va_S.rf
  show cWt p l e 7 3 18 155 s m [cv Φ (some x0), .int x1, .int x2].toArray below meth c D Φ vlI q s.heap [] 0 0 (F0 m 0 ls [])
  have h : ((rc σ (some x0) 11).bind (fun v1 => (f_X11_elementAt v1 (x1) σ).bind (fun v2 => v2.1.elim (fun k => some (.inl k, v2.2)) (fun w3 => (f_X11_isBelow (x2) ((15:Int32))).bind (fun v4 => if v4 = (0:Int32) then (f_X11_valueAnew_20 x0 (x2) (w3) ((1:Int32)) v2.2) else (f_X11_valueAnew_20 x0 (x2) (w3) ((0:Int32)) v2.2)))))) = some q := h
  refine c_aload_n hx hb dX11_valueAnew_0 rfl (lv_at hl 0 rfl) ?_
  refine lv_iload_n hx hb dX11_valueAnew_1 rfl (lv_at hl 1 rfl) ?_
  obtain ⟨v1, hv1, h⟩ := ob h
  obtain ⟨v2, hv2, h⟩ := ob h
  refine c_ct (c_tV X (K_X11_elementAt l hl9 D Φ σ v1 (x1) hv2) hv1 ⟨Nat.le_of_ble_eq_true rfl, by decide⟩ ⟨w_735, ww_X11_elementAt⟩ rfl hy_X11_elementAt rfl ⟨(Nat.le_of_ble_eq_true rfl), (Nat.le_of_ble_eq_true rfl)⟩ hP hS hl.1 (Nat.le_of_ble_eq_true rfl) dX11_valueAnew_2 rfl ⟨(Nat.le_of_ble_eq_true rfl), (Nat.le_of_ble_eq_true rfl)⟩) X hnt hS ⟨(Nat.le_of_ble_eq_true rfl), (Nat.le_of_ble_eq_true rfl)⟩ (fun k e => by have h9 := el_l e h; exact (sj h9).symm) (fun w3 H locs e hP hS => ?_)
  have h := el_r e h
  refine W.eq (g2 := F0 m 5 ls [cv Φ w3]) rfl ?_
  refine c_astore_n hx hb dX11_valueAnew_5 rfl hl (Nat.le_of_ble_eq_true rfl) (lvKa rfl (lvKa rfl (lvKi lvK0))) rfl (fun ls (hl : lv_has ls 4 [(3, cv Φ w3), (0, cv Φ (some x0)), (1, .int x1), (2, .int x2)]) => ?_)
  refine lv_iload_n hx hb dX11_valueAnew_6 rfl (lv_at hl 3 rfl) ?_
  refine lv_bipush (v := (15:Int32)) hx hb dX11_valueAnew_7 (by decide) ?_
  obtain ⟨v4, hv4, h⟩ := ob h
  refine c_cr (c_runS X (K_X11_isBelow l D Φ v2.2 (x2) ((15:Int32)) hv4) ⟨w_635, ww_X11_isBelow⟩ hy_X11_isBelow rfl ⟨(Nat.le_of_ble_eq_true rfl), (Nat.le_of_ble_eq_true rfl)⟩ hP hS hl.1 (Nat.le_of_ble_eq_true rfl) dX11_valueAnew_9 rfl ⟨(Nat.le_of_ble_eq_true rfl), (Nat.le_of_ble_eq_true rfl)⟩) ?_
  refine lv_if_ne (tgt := 19) hx hb dX11_valueAnew_12 rfl (fun hc => ?_) (fun hc => ?_)
  · have h := ine hc h
    refine lv_iconst (v := (0:Int32)) hx hb dX11_valueAnew_19 (by decide) ?_
    exact N_X11_valueAnew_20 X hl9 hnt hP hS (lv_sub hl [1, 3, 0] rfl) h
  · have h := ip hc h
    refine lv_iconst (v := (1:Int32)) hx hb dX11_valueAnew_15 (by decide) ?_
    refine lv_goto (tgt := 20) hx hb dX11_valueAnew_16 rfl ?_
    exact N_X11_valueAnew_20 X hl9 hnt hP hS (lv_sub hl [1, 3, 0] rfl) h
theorem ww_X11_valueAnew : Cond.instanceMethod yX11_valueAnew ∈ BG ∧ Cond.selects (yX11_valueAnew).cls yX11_valueAnew yX11_valueAnew ∈ BG ∧ Cond.initialized (yX11_valueAnew).cls ∈ BG ∧ Cond.code yX11_valueAnew cX11_valueAnew 4 (some .int) ∈ BG := ⟨w_1121, w_1122, w_56, w_1123⟩
theorem hy_X11_valueAnew : (yX11_valueAnew).cls ≠ "java/lang/invoke/MethodHandle" ∧ (yX11_valueAnew).cls ≠ "java/lang/invoke/VarHandle" ∧ (parseMethodDescriptor (yX11_valueAnew).desc).map (fun d => d.parameters.length) = some 2 := ⟨by decide, by decide, by decide +kernel⟩
