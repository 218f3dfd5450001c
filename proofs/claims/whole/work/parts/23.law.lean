set_option maxRecDepth 100000 in
theorem w_736 : Cond.methodLink "CascaderyLaw" 7 yX11_make ∈ BG := bg_in 736 (by decide +kernel) (by decide +kernel)
set_option maxRecDepth 100000 in
theorem w_734 : Cond.classLink "CascaderyLaw" 13 "java/lang/IllegalArgumentException" ∈ BG := bg_in 734 (by decide +kernel) (by decide +kernel)
theorem cn_9 : Cond.castable "java/lang/IllegalArgumentException" "java/lang/IllegalArgumentException" ∈ cNest := List.mem_of_getElem? (i := 9) rfl
set_option maxRecDepth 100000 in
theorem w_735 : Cond.classLink "CascaderyLaw" 15 "java/lang/IllegalStateException" ∈ BG := bg_in 735 (by decide +kernel) (by decide +kernel)
theorem cn_10 : Cond.castable "java/lang/IllegalStateException" "java/lang/IllegalStateException" ∈ cNest := List.mem_of_getElem? (i := 10) rfl
set_option maxRecDepth 100000 in
theorem w_733 : Cond.codeWith yL_make cL_make 4 (some .int) [(0, 9, 12, 13), (0, 9, 15, 15)] ∈ BG := bg_in 733 (by rfl) (by decide +kernel)
set_option maxRecDepth 100000 in
theorem w_732 : Cond.static yL_make ∈ BG := bg_in 732 (by decide +kernel) (by decide +kernel)
set_option maxRecDepth 100000 in
theorem w_143 : Cond.initialized "CascaderyLaw" ∈ BG := bg_in 143 (by decide +kernel) (by decide +kernel)
set_option maxRecDepth 100000 in
theorem w_835 : Cond.methodLink "CascaderyLaw" 17 yX11_shadow ∈ BG := bg_in 835 (by decide +kernel) (by decide +kernel)
set_option maxRecDepth 100000 in
theorem w_834 : Cond.classLink "CascaderyLaw" 21 "java/lang/IndexOutOfBoundsException" ∈ BG := bg_in 834 (by decide +kernel) (by decide +kernel)
theorem cn_11 : Cond.castable "java/lang/IndexOutOfBoundsException" "java/lang/IndexOutOfBoundsException" ∈ cNest := List.mem_of_getElem? (i := 11) rfl
set_option maxRecDepth 100000 in
theorem w_833 : Cond.codeWith yL_shadow cL_shadow 3 (some .int) [(0, 5, 8, 21), (0, 5, 11, 15)] ∈ BG := bg_in 833 (by rfl) (by decide +kernel)
set_option maxRecDepth 100000 in
theorem w_832 : Cond.static yL_shadow ∈ BG := bg_in 832 (by decide +kernel) (by decide +kernel)
set_option maxRecDepth 100000 in
theorem w_914 : Cond.methodLink "CascaderyLaw" 23 yX11_put ∈ BG := bg_in 914 (by decide +kernel) (by decide +kernel)
set_option maxRecDepth 100000 in
theorem w_913 : Cond.codeWith yL_put cL_put 5 (some .int) [(0, 7, 10, 21), (0, 7, 14, 15)] ∈ BG := bg_in 913 (by rfl) (by decide +kernel)
set_option maxRecDepth 100000 in
theorem w_912 : Cond.static yL_put ∈ BG := bg_in 912 (by decide +kernel) (by decide +kernel)
set_option maxRecDepth 100000 in
theorem w_953 : Cond.methodLink "CascaderyLaw" 27 yX11_putTop ∈ BG := bg_in 953 (by decide +kernel) (by decide +kernel)
set_option maxRecDepth 100000 in
theorem w_952 : Cond.codeWith yL_putTop cL_putTop 5 (some .int) [(0, 7, 10, 21), (0, 7, 14, 15)] ∈ BG := bg_in 952 (by rfl) (by decide +kernel)
set_option maxRecDepth 100000 in
theorem w_951 : Cond.static yL_putTop ∈ BG := bg_in 951 (by decide +kernel) (by decide +kernel)
set_option maxRecDepth 100000 in
theorem w_960 : Cond.methodLink "CascaderyLaw" 30 yX11_take ∈ BG := bg_in 960 (by decide +kernel) (by decide +kernel)
set_option maxRecDepth 100000 in
theorem w_959 : Cond.codeWith yL_take cL_take 4 (some .int) [(0, 9, 12, 21), (0, 9, 15, 15)] ∈ BG := bg_in 959 (by rfl) (by decide +kernel)
set_option maxRecDepth 100000 in
theorem w_958 : Cond.static yL_take ∈ BG := bg_in 958 (by decide +kernel) (by decide +kernel)
set_option maxRecDepth 100000 in
theorem w_971 : Cond.methodLink "CascaderyLaw" 33 yX11_setClass ∈ BG := bg_in 971 (by decide +kernel) (by decide +kernel)
set_option maxRecDepth 100000 in
theorem w_970 : Cond.codeWith yL_setClass cL_setClass 6 (some .int) [(0, 19, 22, 21), (0, 19, 26, 13)] ∈ BG := bg_in 970 (by rfl) (by decide +kernel)
set_option maxRecDepth 100000 in
theorem w_969 : Cond.static yL_setClass ∈ BG := bg_in 969 (by decide +kernel) (by decide +kernel)
set_option maxRecDepth 100000 in
theorem w_1000 : Cond.methodLink "CascaderyLaw" 37 yX11_setState ∈ BG := bg_in 1000 (by decide +kernel) (by decide +kernel)
set_option maxRecDepth 100000 in
theorem w_999 : Cond.codeWith yL_setState cL_setState 6 (some .int) [(0, 19, 22, 21), (0, 19, 26, 13)] ∈ BG := bg_in 999 (by rfl) (by decide +kernel)
set_option maxRecDepth 100000 in
theorem w_998 : Cond.static yL_setState ∈ BG := bg_in 998 (by decide +kernel) (by decide +kernel)
set_option maxRecDepth 100000 in
theorem w_1007 : Cond.methodLink "CascaderyLaw" 40 yX11_setAttribute ∈ BG := bg_in 1007 (by decide +kernel) (by decide +kernel)
set_option maxRecDepth 100000 in
theorem w_1006 : Cond.codeWith yL_setAttribute cL_setAttribute 6 (some .int) [(0, 12, 15, 21), (0, 12, 19, 13)] ∈ BG := bg_in 1006 (by rfl) (by decide +kernel)
set_option maxRecDepth 100000 in
theorem w_1005 : Cond.static yL_setAttribute ∈ BG := bg_in 1005 (by decide +kernel) (by decide +kernel)
set_option maxRecDepth 100000 in
theorem w_1014 : Cond.methodLink "CascaderyLaw" 44 yX11_setPart ∈ BG := bg_in 1014 (by decide +kernel) (by decide +kernel)
set_option maxRecDepth 100000 in
theorem w_1013 : Cond.codeWith yL_setPart cL_setPart 5 (some .int) [(0, 10, 13, 21), (0, 10, 17, 13)] ∈ BG := bg_in 1013 (by rfl) (by decide +kernel)
set_option maxRecDepth 100000 in
theorem w_1012 : Cond.static yL_setPart ∈ BG := bg_in 1012 (by decide +kernel) (by decide +kernel)
set_option maxRecDepth 100000 in
theorem w_1021 : Cond.methodLink "CascaderyLaw" 48 yX11_shownParent ∈ BG := bg_in 1021 (by decide +kernel) (by decide +kernel)
set_option maxRecDepth 100000 in
theorem w_1020 : Cond.codeWith yL_shownParent cL_shownParent 4 (some .int) [(0, 9, 12, 21)] ∈ BG := bg_in 1020 (by rfl) (by decide +kernel)
set_option maxRecDepth 100000 in
theorem w_1019 : Cond.static yL_shownParent ∈ BG := bg_in 1019 (by decide +kernel) (by decide +kernel)
set_option maxRecDepth 100000 in
theorem w_1028 : Cond.methodLink "CascaderyLaw" 51 yX11_isIn ∈ BG := bg_in 1028 (by decide +kernel) (by decide +kernel)
set_option maxRecDepth 100000 in
theorem w_1027 : Cond.codeWith yL_isIn cL_isIn 4 (some .int) [(0, 16, 19, 21)] ∈ BG := bg_in 1027 (by rfl) (by decide +kernel)
set_option maxRecDepth 100000 in
theorem w_1026 : Cond.static yL_isIn ∈ BG := bg_in 1026 (by decide +kernel) (by decide +kernel)
set_option maxRecDepth 100000 in
theorem w_1036 : Cond.methodLink "CascaderyLaw" 55 yX11_test ∈ BG := bg_in 1036 (by decide +kernel) (by decide +kernel)
set_option maxRecDepth 100000 in
theorem w_1035 : Cond.codeWith yL_test cL_test 6 (some .int) [(0, 12, 15, 13), (0, 12, 19, 21), (0, 12, 23, 15)] ∈ BG := bg_in 1035 (by rfl) (by decide +kernel)
set_option maxRecDepth 100000 in
theorem w_1034 : Cond.static yL_test ∈ BG := bg_in 1034 (by decide +kernel) (by decide +kernel)
set_option maxRecDepth 100000 in
theorem w_1063 : Cond.methodLink "CascaderyLaw" 58 yX11_join ∈ BG := bg_in 1063 (by decide +kernel) (by decide +kernel)
set_option maxRecDepth 100000 in
theorem w_1062 : Cond.codeWith yL_join cL_join 4 (some .int) [(0, 9, 12, 13), (0, 9, 15, 15)] ∈ BG := bg_in 1062 (by rfl) (by decide +kernel)
set_option maxRecDepth 100000 in
theorem w_1061 : Cond.static yL_join ∈ BG := bg_in 1061 (by decide +kernel) (by decide +kernel)
set_option maxRecDepth 100000 in
theorem w_1074 : Cond.methodLink "CascaderyLaw" 61 yX11_select ∈ BG := bg_in 1074 (by decide +kernel) (by decide +kernel)
set_option maxRecDepth 100000 in
theorem w_1073 : Cond.codeWith yL_select cL_select 3 (some .int) [(0, 8, 11, 15)] ∈ BG := bg_in 1073 (by rfl) (by decide +kernel)
set_option maxRecDepth 100000 in
theorem w_1072 : Cond.static yL_select ∈ BG := bg_in 1072 (by decide +kernel) (by decide +kernel)
set_option maxRecDepth 100000 in
theorem w_1090 : Cond.methodLink "CascaderyLaw" 65 yX11_weight ∈ BG := bg_in 1090 (by decide +kernel) (by decide +kernel)
set_option maxRecDepth 100000 in
theorem w_1089 : Cond.codeWith yL_weight cL_weight 4 (some .int) [(0, 9, 12, 21)] ∈ BG := bg_in 1089 (by rfl) (by decide +kernel)
set_option maxRecDepth 100000 in
theorem w_1088 : Cond.static yL_weight ∈ BG := bg_in 1088 (by decide +kernel) (by decide +kernel)
set_option maxRecDepth 100000 in
theorem w_1101 : Cond.methodLink "CascaderyLaw" 68 yX11_matches ∈ BG := bg_in 1101 (by decide +kernel) (by decide +kernel)
set_option maxRecDepth 100000 in
theorem w_1100 : Cond.codeWith yL_matches cL_matches 6 (some .int) [(0, 19, 22, 21)] ∈ BG := bg_in 1100 (by rfl) (by decide +kernel)
set_option maxRecDepth 100000 in
theorem w_1099 : Cond.static yL_matches ∈ BG := bg_in 1099 (by decide +kernel) (by decide +kernel)
set_option maxRecDepth 100000 in
theorem w_1155 : Cond.methodLink "CascaderyLaw" 72 yX11_allThat ∈ BG := bg_in 1155 (by decide +kernel) (by decide +kernel)
set_option maxRecDepth 100000 in
theorem w_1154 : Cond.codeWith yL_allThat cL_allThat 5 (some .int) [(0, 10, 13, 21)] ∈ BG := bg_in 1154 (by rfl) (by decide +kernel)
set_option maxRecDepth 100000 in
theorem w_1153 : Cond.static yL_allThat ∈ BG := bg_in 1153 (by decide +kernel) (by decide +kernel)
set_option maxRecDepth 100000 in
theorem w_1162 : Cond.methodLink "CascaderyLaw" 75 yX11_sheet ∈ BG := bg_in 1162 (by decide +kernel) (by decide +kernel)
set_option maxRecDepth 100000 in
theorem w_1161 : Cond.codeWith yL_sheet cL_sheet 6 (some .int) [(0, 12, 15, 13), (0, 12, 19, 21), (0, 12, 23, 15)] ∈ BG := bg_in 1161 (by rfl) (by decide +kernel)
set_option maxRecDepth 100000 in
theorem w_1160 : Cond.static yL_sheet ∈ BG := bg_in 1160 (by decide +kernel) (by decide +kernel)
set_option maxRecDepth 100000 in
theorem w_1200 : Cond.methodLink "CascaderyLaw" 78 yX11_turn ∈ BG := bg_in 1200 (by decide +kernel) (by decide +kernel)
set_option maxRecDepth 100000 in
theorem w_1199 : Cond.codeWith yL_turn cL_turn 5 (some .int) [(0, 17, 20, 21)] ∈ BG := bg_in 1199 (by rfl) (by decide +kernel)
set_option maxRecDepth 100000 in
theorem w_1198 : Cond.static yL_turn ∈ BG := bg_in 1198 (by decide +kernel) (by decide +kernel)
set_option maxRecDepth 100000 in
theorem w_1215 : Cond.methodLink "CascaderyLaw" 82 yX11_rule ∈ BG := bg_in 1215 (by decide +kernel) (by decide +kernel)
set_option maxRecDepth 100000 in
theorem w_1214 : Cond.codeWith yL_rule cL_rule 5 (some .int) [(0, 10, 13, 21), (0, 10, 17, 15)] ∈ BG := bg_in 1214 (by rfl) (by decide +kernel)
set_option maxRecDepth 100000 in
theorem w_1213 : Cond.static yL_rule ∈ BG := bg_in 1213 (by decide +kernel) (by decide +kernel)
set_option maxRecDepth 100000 in
theorem w_1227 : Cond.methodLink "CascaderyLaw" 85 yX11_when ∈ BG := bg_in 1227 (by decide +kernel) (by decide +kernel)
set_option maxRecDepth 100000 in
theorem w_1226 : Cond.codeWith yL_when cL_when 5 (some .int) [(0, 7, 10, 21), (0, 7, 14, 13)] ∈ BG := bg_in 1226 (by rfl) (by decide +kernel)
set_option maxRecDepth 100000 in
theorem w_1225 : Cond.static yL_when ∈ BG := bg_in 1225 (by decide +kernel) (by decide +kernel)
set_option maxRecDepth 100000 in
theorem w_1245 : Cond.methodLink "CascaderyLaw" 88 yX11_declare ∈ BG := bg_in 1245 (by decide +kernel) (by decide +kernel)
set_option maxRecDepth 100000 in
theorem w_1244 : Cond.codeWith yL_declare cL_declare 8 (some .int) [(0, 16, 19, 21), (0, 16, 23, 13)] ∈ BG := bg_in 1244 (by rfl) (by decide +kernel)
set_option maxRecDepth 100000 in
theorem w_1243 : Cond.static yL_declare ∈ BG := bg_in 1243 (by decide +kernel) (by decide +kernel)
set_option maxRecDepth 100000 in
theorem w_1284 : Cond.methodLink "CascaderyLaw" 92 yX11_declareVar ∈ BG := bg_in 1284 (by decide +kernel) (by decide +kernel)
set_option maxRecDepth 100000 in
theorem w_1283 : Cond.codeWith yL_declareVar cL_declareVar 9 (some .int) [(0, 18, 21, 21), (0, 18, 25, 13)] ∈ BG := bg_in 1283 (by rfl) (by decide +kernel)
set_option maxRecDepth 100000 in
theorem w_1282 : Cond.static yL_declareVar ∈ BG := bg_in 1282 (by decide +kernel) (by decide +kernel)
set_option maxRecDepth 100000 in
theorem w_1295 : Cond.methodLink "CascaderyLaw" 96 yX11_undeclare ∈ BG := bg_in 1295 (by decide +kernel) (by decide +kernel)
set_option maxRecDepth 100000 in
theorem w_1294 : Cond.codeWith yL_undeclare cL_undeclare 5 (some .int) [(0, 10, 13, 21), (0, 10, 17, 13)] ∈ BG := bg_in 1294 (by rfl) (by decide +kernel)
set_option maxRecDepth 100000 in
theorem w_1293 : Cond.static yL_undeclare ∈ BG := bg_in 1293 (by decide +kernel) (by decide +kernel)
set_option maxRecDepth 100000 in
theorem w_1302 : Cond.methodLink "CascaderyLaw" 99 yX11_setWidth ∈ BG := bg_in 1302 (by decide +kernel) (by decide +kernel)
set_option maxRecDepth 100000 in
theorem w_1301 : Cond.codeWith yL_setWidth cL_setWidth 4 (some .int) [(0, 9, 12, 13)] ∈ BG := bg_in 1301 (by rfl) (by decide +kernel)
set_option maxRecDepth 100000 in
theorem w_1300 : Cond.static yL_setWidth ∈ BG := bg_in 1300 (by decide +kernel) (by decide +kernel)
set_option maxRecDepth 100000 in
theorem w_1309 : Cond.methodLink "CascaderyLaw" 102 yX11_value ∈ BG := bg_in 1309 (by decide +kernel) (by decide +kernel)
set_option maxRecDepth 100000 in
theorem w_1308 : Cond.codeWith yL_value cL_value 5 (some .int) [(0, 10, 13, 21), (0, 10, 17, 13), (0, 10, 21, 15)] ∈ BG := bg_in 1308 (by rfl) (by decide +kernel)
set_option maxRecDepth 100000 in
theorem w_1307 : Cond.static yL_value ∈ BG := bg_in 1307 (by decide +kernel) (by decide +kernel)
set_option maxRecDepth 100000 in
theorem w_1460 : Cond.methodLink "CascaderyLaw" 105 yX11_size ∈ BG := bg_in 1460 (by decide +kernel) (by decide +kernel)
set_option maxRecDepth 100000 in
theorem w_1459 : Cond.codeWith yL_size cL_size 4 (some .int) [(0, 9, 12, 21), (0, 9, 15, 15)] ∈ BG := bg_in 1459 (by rfl) (by decide +kernel)
set_option maxRecDepth 100000 in
theorem w_1458 : Cond.static yL_size ∈ BG := bg_in 1458 (by decide +kernel) (by decide +kernel)
set_option maxRecDepth 100000 in
theorem w_1467 : Cond.methodLink "CascaderyLaw" 108 yX11_seen ∈ BG := bg_in 1467 (by decide +kernel) (by decide +kernel)
set_option maxRecDepth 100000 in
theorem w_1466 : Cond.codeWith yL_seen cL_seen 5 (some .int) [(0, 10, 13, 21), (0, 10, 17, 13), (0, 10, 21, 15)] ∈ BG := bg_in 1466 (by rfl) (by decide +kernel)
set_option maxRecDepth 100000 in
theorem w_1465 : Cond.static yL_seen ∈ BG := bg_in 1465 (by decide +kernel) (by decide +kernel)
set_option maxRecDepth 100000 in
theorem w_1475 : Cond.methodLink "CascaderyLaw" 111 yX11_made ∈ BG := bg_in 1475 (by decide +kernel) (by decide +kernel)
set_option maxRecDepth 100000 in
theorem w_1474 : Cond.codeWith yL_made cL_made 4 (some .int) [(0, 9, 12, 21), (0, 9, 15, 15)] ∈ BG := bg_in 1474 (by rfl) (by decide +kernel)
set_option maxRecDepth 100000 in
theorem w_1473 : Cond.static yL_made ∈ BG := bg_in 1473 (by decide +kernel) (by decide +kernel)
set_option maxRecDepth 100000 in
theorem w_1486 : Cond.methodLink "CascaderyLaw" 114 yX11_why ∈ BG := bg_in 1486 (by decide +kernel) (by decide +kernel)
set_option maxRecDepth 100000 in
theorem w_1485 : Cond.codeWith yL_why cL_why 6 (some .int) [(0, 12, 15, 21), (0, 12, 19, 13), (0, 12, 23, 15)] ∈ BG := bg_in 1485 (by rfl) (by decide +kernel)
set_option maxRecDepth 100000 in
theorem w_1484 : Cond.static yL_why ∈ BG := bg_in 1484 (by decide +kernel) (by decide +kernel)
set_option maxRecDepth 100000 in
theorem w_1501 : Cond.methodLink "CascaderyLaw" 117 yX11_valueAnew ∈ BG := bg_in 1501 (by decide +kernel) (by decide +kernel)
set_option maxRecDepth 100000 in
theorem w_1500 : Cond.codeWith yL_valueAnew cL_valueAnew 5 (some .int) [(0, 10, 13, 21), (0, 10, 17, 13), (0, 10, 21, 15)] ∈ BG := bg_in 1500 (by rfl) (by decide +kernel)
set_option maxRecDepth 100000 in
theorem w_1499 : Cond.static yL_valueAnew ∈ BG := bg_in 1499 (by decide +kernel) (by decide +kernel)
set_option maxRecDepth 100000 in
theorem w_1512 : Cond.methodLink "CascaderyLaw" 120 yX11_tick ∈ BG := bg_in 1512 (by decide +kernel) (by decide +kernel)
set_option maxRecDepth 100000 in
theorem w_1511 : Cond.codeWith yL_tick cL_tick 4 (some .int) [(0, 9, 12, 13)] ∈ BG := bg_in 1511 (by rfl) (by decide +kernel)
set_option maxRecDepth 100000 in
theorem w_1510 : Cond.static yL_tick ∈ BG := bg_in 1510 (by decide +kernel) (by decide +kernel)
set_option maxRecDepth 100000 in
theorem w_1519 : Cond.methodLink "CascaderyLaw" 123 yX11_animation ∈ BG := bg_in 1519 (by decide +kernel) (by decide +kernel)
set_option maxRecDepth 100000 in
theorem w_1518 : Cond.codeWith yL_animation cL_animation 6 (some .int) [(0, 9, 12, 13)] ∈ BG := bg_in 1518 (by rfl) (by decide +kernel)
set_option maxRecDepth 100000 in
theorem w_1517 : Cond.static yL_animation ∈ BG := bg_in 1517 (by decide +kernel) (by decide +kernel)
set_option maxRecDepth 100000 in
theorem w_1526 : Cond.methodLink "CascaderyLaw" 127 yX11_frame ∈ BG := bg_in 1526 (by decide +kernel) (by decide +kernel)
set_option maxRecDepth 100000 in
theorem w_1525 : Cond.codeWith yL_frame cL_frame 7 (some .int) [(0, 14, 17, 13)] ∈ BG := bg_in 1525 (by rfl) (by decide +kernel)
set_option maxRecDepth 100000 in
theorem w_1524 : Cond.static yL_frame ∈ BG := bg_in 1524 (by decide +kernel) (by decide +kernel)
set_option maxRecDepth 100000 in
theorem w_1543 : Cond.methodLink "CascaderyLaw" 131 yX11_listen ∈ BG := bg_in 1543 (by decide +kernel) (by decide +kernel)
set_option maxRecDepth 100000 in
theorem w_1542 : Cond.codeWith yL_listen cL_listen 7 (some .int) [(0, 14, 17, 21), (0, 14, 21, 13), (0, 14, 25, 15)] ∈ BG := bg_in 1542 (by rfl) (by decide +kernel)
set_option maxRecDepth 100000 in
theorem w_1541 : Cond.static yL_listen ∈ BG := bg_in 1541 (by decide +kernel) (by decide +kernel)
theorem dL_make_0 : decode cL_make 0 = .ok (.aload_n 2, 1) := by decide +kernel
theorem dL_make_1 : decode cL_make 1 = .ok (.iconst 0, 1) := by decide +kernel
theorem dL_make_2 : decode cL_make 2 = .ok (.aload_n 0, 1) := by decide +kernel
theorem dL_make_3 : decode cL_make 3 = .ok (.iload_n 1, 1) := by decide +kernel
theorem dL_make_4 : decode cL_make 4 = .ok (.invokevirtual 7, 3) := by decide +kernel
theorem dL_make_7 : decode cL_make 7 = .ok (.i2l, 1) := by decide +kernel
theorem dL_make_8 : decode cL_make 8 = .ok (.lastore, 1) := by decide +kernel
theorem dL_make_9 : decode cL_make 9 = .ok (.goto 9, 3) := by decide +kernel
theorem dL_make_12 : decode cL_make 12 = .ok (.astore_n 3, 1) := by decide +kernel
theorem dL_make_13 : decode cL_make 13 = .ok (.iconst 1, 1) := by decide +kernel
theorem dL_make_14 : decode cL_make 14 = .ok (.ireturn, 1) := by decide +kernel
theorem dL_make_15 : decode cL_make 15 = .ok (.astore_n 3, 1) := by decide +kernel
theorem dL_make_16 : decode cL_make 16 = .ok (.iconst 2, 1) := by decide +kernel
theorem dL_make_17 : decode cL_make 17 = .ok (.ireturn, 1) := by decide +kernel
theorem dL_make_18 : decode cL_make 18 = .ok (.iconst 0, 1) := by decide +kernel
theorem dL_make_19 : decode cL_make 19 = .ok (.ireturn, 1) := by decide +kernel
theorem dL_shadow_0 : decode cL_shadow 0 = .ok (.aload_n 0, 1) := by decide +kernel
theorem dL_shadow_1 : decode cL_shadow 1 = .ok (.iload_n 1, 1) := by decide +kernel
theorem dL_shadow_2 : decode cL_shadow 2 = .ok (.invokevirtual 17, 3) := by decide +kernel
theorem dL_shadow_5 : decode cL_shadow 5 = .ok (.goto 9, 3) := by decide +kernel
theorem dL_shadow_8 : decode cL_shadow 8 = .ok (.astore_n 2, 1) := by decide +kernel
theorem dL_shadow_9 : decode cL_shadow 9 = .ok (.iconst 1, 1) := by decide +kernel
theorem dL_shadow_10 : decode cL_shadow 10 = .ok (.ireturn, 1) := by decide +kernel
theorem dL_shadow_11 : decode cL_shadow 11 = .ok (.astore_n 2, 1) := by decide +kernel
theorem dL_shadow_12 : decode cL_shadow 12 = .ok (.iconst 2, 1) := by decide +kernel
theorem dL_shadow_13 : decode cL_shadow 13 = .ok (.ireturn, 1) := by decide +kernel
theorem dL_shadow_14 : decode cL_shadow 14 = .ok (.iconst 0, 1) := by decide +kernel
theorem dL_shadow_15 : decode cL_shadow 15 = .ok (.ireturn, 1) := by decide +kernel
theorem dL_put_0 : decode cL_put 0 = .ok (.aload_n 0, 1) := by decide +kernel
theorem dL_put_1 : decode cL_put 1 = .ok (.iload_n 1, 1) := by decide +kernel
theorem dL_put_2 : decode cL_put 2 = .ok (.iload_n 2, 1) := by decide +kernel
theorem dL_put_3 : decode cL_put 3 = .ok (.iload_n 3, 1) := by decide +kernel
theorem dL_put_4 : decode cL_put 4 = .ok (.invokevirtual 23, 3) := by decide +kernel
theorem dL_put_7 : decode cL_put 7 = .ok (.goto 11, 3) := by decide +kernel
theorem dL_put_10 : decode cL_put 10 = .ok (.astore 4, 2) := by decide +kernel
theorem dL_put_12 : decode cL_put 12 = .ok (.iconst 1, 1) := by decide +kernel
theorem dL_put_13 : decode cL_put 13 = .ok (.ireturn, 1) := by decide +kernel
theorem dL_put_14 : decode cL_put 14 = .ok (.astore 4, 2) := by decide +kernel
theorem dL_put_16 : decode cL_put 16 = .ok (.iconst 2, 1) := by decide +kernel
theorem dL_put_17 : decode cL_put 17 = .ok (.ireturn, 1) := by decide +kernel
theorem dL_put_18 : decode cL_put 18 = .ok (.iconst 0, 1) := by decide +kernel
theorem dL_put_19 : decode cL_put 19 = .ok (.ireturn, 1) := by decide +kernel
theorem dL_putTop_0 : decode cL_putTop 0 = .ok (.aload_n 0, 1) := by decide +kernel
theorem dL_putTop_1 : decode cL_putTop 1 = .ok (.iload_n 1, 1) := by decide +kernel
theorem dL_putTop_2 : decode cL_putTop 2 = .ok (.iload_n 2, 1) := by decide +kernel
theorem dL_putTop_3 : decode cL_putTop 3 = .ok (.iload_n 3, 1) := by decide +kernel
theorem dL_putTop_4 : decode cL_putTop 4 = .ok (.invokevirtual 27, 3) := by decide +kernel
theorem dL_putTop_7 : decode cL_putTop 7 = .ok (.goto 11, 3) := by decide +kernel
theorem dL_putTop_10 : decode cL_putTop 10 = .ok (.astore 4, 2) := by decide +kernel
theorem dL_putTop_12 : decode cL_putTop 12 = .ok (.iconst 1, 1) := by decide +kernel
theorem dL_putTop_13 : decode cL_putTop 13 = .ok (.ireturn, 1) := by decide +kernel
theorem dL_putTop_14 : decode cL_putTop 14 = .ok (.astore 4, 2) := by decide +kernel
theorem dL_putTop_16 : decode cL_putTop 16 = .ok (.iconst 2, 1) := by decide +kernel
theorem dL_putTop_17 : decode cL_putTop 17 = .ok (.ireturn, 1) := by decide +kernel
theorem dL_putTop_18 : decode cL_putTop 18 = .ok (.iconst 0, 1) := by decide +kernel
theorem dL_putTop_19 : decode cL_putTop 19 = .ok (.ireturn, 1) := by decide +kernel
theorem dL_take_0 : decode cL_take 0 = .ok (.aload_n 2, 1) := by decide +kernel
theorem dL_take_1 : decode cL_take 1 = .ok (.iconst 0, 1) := by decide +kernel
theorem dL_take_2 : decode cL_take 2 = .ok (.aload_n 0, 1) := by decide +kernel
theorem dL_take_3 : decode cL_take 3 = .ok (.iload_n 1, 1) := by decide +kernel
theorem dL_take_4 : decode cL_take 4 = .ok (.invokevirtual 30, 3) := by decide +kernel
theorem dL_take_7 : decode cL_take 7 = .ok (.i2l, 1) := by decide +kernel
theorem dL_take_8 : decode cL_take 8 = .ok (.lastore, 1) := by decide +kernel
theorem dL_take_9 : decode cL_take 9 = .ok (.goto 9, 3) := by decide +kernel
theorem dL_take_12 : decode cL_take 12 = .ok (.astore_n 3, 1) := by decide +kernel
theorem dL_take_13 : decode cL_take 13 = .ok (.iconst 1, 1) := by decide +kernel
theorem dL_take_14 : decode cL_take 14 = .ok (.ireturn, 1) := by decide +kernel
theorem dL_take_15 : decode cL_take 15 = .ok (.astore_n 3, 1) := by decide +kernel
theorem dL_take_16 : decode cL_take 16 = .ok (.iconst 2, 1) := by decide +kernel
theorem dL_take_17 : decode cL_take 17 = .ok (.ireturn, 1) := by decide +kernel
theorem dL_take_18 : decode cL_take 18 = .ok (.iconst 0, 1) := by decide +kernel
theorem dL_take_19 : decode cL_take 19 = .ok (.ireturn, 1) := by decide +kernel
theorem dL_setClass_0 : decode cL_setClass 0 = .ok (.aload 4, 2) := by decide +kernel
theorem dL_setClass_2 : decode cL_setClass 2 = .ok (.iconst 0, 1) := by decide +kernel
theorem dL_setClass_3 : decode cL_setClass 3 = .ok (.aload_n 0, 1) := by decide +kernel
theorem dL_setClass_4 : decode cL_setClass 4 = .ok (.iload_n 1, 1) := by decide +kernel
theorem dL_setClass_5 : decode cL_setClass 5 = .ok (.iload_n 2, 1) := by decide +kernel
theorem dL_setClass_6 : decode cL_setClass 6 = .ok (.iload_n 3, 1) := by decide +kernel
theorem dL_setClass_7 : decode cL_setClass 7 = .ok (.invokevirtual 33, 3) := by decide +kernel
theorem dL_setClass_10 : decode cL_setClass 10 = .ok (.ifCond .eq 7, 3) := by decide +kernel
theorem dL_setClass_13 : decode cL_setClass 13 = .ok (.lconst 1, 1) := by decide +kernel
theorem dL_setClass_14 : decode cL_setClass 14 = .ok (.goto 4, 3) := by decide +kernel
theorem dL_setClass_17 : decode cL_setClass 17 = .ok (.lconst 0, 1) := by decide +kernel
theorem dL_setClass_18 : decode cL_setClass 18 = .ok (.lastore, 1) := by decide +kernel
theorem dL_setClass_19 : decode cL_setClass 19 = .ok (.goto 11, 3) := by decide +kernel
theorem dL_setClass_22 : decode cL_setClass 22 = .ok (.astore 5, 2) := by decide +kernel
theorem dL_setClass_24 : decode cL_setClass 24 = .ok (.iconst 1, 1) := by decide +kernel
theorem dL_setClass_25 : decode cL_setClass 25 = .ok (.ireturn, 1) := by decide +kernel
theorem dL_setClass_26 : decode cL_setClass 26 = .ok (.astore 5, 2) := by decide +kernel
theorem dL_setClass_28 : decode cL_setClass 28 = .ok (.iconst 2, 1) := by decide +kernel
theorem dL_setClass_29 : decode cL_setClass 29 = .ok (.ireturn, 1) := by decide +kernel
theorem dL_setClass_30 : decode cL_setClass 30 = .ok (.iconst 0, 1) := by decide +kernel
theorem dL_setClass_31 : decode cL_setClass 31 = .ok (.ireturn, 1) := by decide +kernel
theorem dL_setState_0 : decode cL_setState 0 = .ok (.aload 4, 2) := by decide +kernel
theorem dL_setState_2 : decode cL_setState 2 = .ok (.iconst 0, 1) := by decide +kernel
theorem dL_setState_3 : decode cL_setState 3 = .ok (.aload_n 0, 1) := by decide +kernel
theorem dL_setState_4 : decode cL_setState 4 = .ok (.iload_n 1, 1) := by decide +kernel
theorem dL_setState_5 : decode cL_setState 5 = .ok (.iload_n 2, 1) := by decide +kernel
theorem dL_setState_6 : decode cL_setState 6 = .ok (.iload_n 3, 1) := by decide +kernel
theorem dL_setState_7 : decode cL_setState 7 = .ok (.invokevirtual 37, 3) := by decide +kernel
theorem dL_setState_10 : decode cL_setState 10 = .ok (.ifCond .eq 7, 3) := by decide +kernel
theorem dL_setState_13 : decode cL_setState 13 = .ok (.lconst 1, 1) := by decide +kernel
theorem dL_setState_14 : decode cL_setState 14 = .ok (.goto 4, 3) := by decide +kernel
theorem dL_setState_17 : decode cL_setState 17 = .ok (.lconst 0, 1) := by decide +kernel
theorem dL_setState_18 : decode cL_setState 18 = .ok (.lastore, 1) := by decide +kernel
theorem dL_setState_19 : decode cL_setState 19 = .ok (.goto 11, 3) := by decide +kernel
theorem dL_setState_22 : decode cL_setState 22 = .ok (.astore 5, 2) := by decide +kernel
theorem dL_setState_24 : decode cL_setState 24 = .ok (.iconst 1, 1) := by decide +kernel
theorem dL_setState_25 : decode cL_setState 25 = .ok (.ireturn, 1) := by decide +kernel
theorem dL_setState_26 : decode cL_setState 26 = .ok (.astore 5, 2) := by decide +kernel
theorem dL_setState_28 : decode cL_setState 28 = .ok (.iconst 2, 1) := by decide +kernel
theorem dL_setState_29 : decode cL_setState 29 = .ok (.ireturn, 1) := by decide +kernel
theorem dL_setState_30 : decode cL_setState 30 = .ok (.iconst 0, 1) := by decide +kernel
theorem dL_setState_31 : decode cL_setState 31 = .ok (.ireturn, 1) := by decide +kernel
theorem dL_setAttribute_0 : decode cL_setAttribute 0 = .ok (.aload 4, 2) := by decide +kernel
theorem dL_setAttribute_2 : decode cL_setAttribute 2 = .ok (.iconst 0, 1) := by decide +kernel
theorem dL_setAttribute_3 : decode cL_setAttribute 3 = .ok (.aload_n 0, 1) := by decide +kernel
theorem dL_setAttribute_4 : decode cL_setAttribute 4 = .ok (.iload_n 1, 1) := by decide +kernel
theorem dL_setAttribute_5 : decode cL_setAttribute 5 = .ok (.iload_n 2, 1) := by decide +kernel
theorem dL_setAttribute_6 : decode cL_setAttribute 6 = .ok (.iload_n 3, 1) := by decide +kernel
theorem dL_setAttribute_7 : decode cL_setAttribute 7 = .ok (.invokevirtual 40, 3) := by decide +kernel
theorem dL_setAttribute_10 : decode cL_setAttribute 10 = .ok (.i2l, 1) := by decide +kernel
theorem dL_setAttribute_11 : decode cL_setAttribute 11 = .ok (.lastore, 1) := by decide +kernel
theorem dL_setAttribute_12 : decode cL_setAttribute 12 = .ok (.goto 11, 3) := by decide +kernel
theorem dL_setAttribute_15 : decode cL_setAttribute 15 = .ok (.astore 5, 2) := by decide +kernel
theorem dL_setAttribute_17 : decode cL_setAttribute 17 = .ok (.iconst 1, 1) := by decide +kernel
theorem dL_setAttribute_18 : decode cL_setAttribute 18 = .ok (.ireturn, 1) := by decide +kernel
theorem dL_setAttribute_19 : decode cL_setAttribute 19 = .ok (.astore 5, 2) := by decide +kernel
theorem dL_setAttribute_21 : decode cL_setAttribute 21 = .ok (.iconst 2, 1) := by decide +kernel
theorem dL_setAttribute_22 : decode cL_setAttribute 22 = .ok (.ireturn, 1) := by decide +kernel
theorem dL_setAttribute_23 : decode cL_setAttribute 23 = .ok (.iconst 0, 1) := by decide +kernel
theorem dL_setAttribute_24 : decode cL_setAttribute 24 = .ok (.ireturn, 1) := by decide +kernel
theorem dL_setPart_0 : decode cL_setPart 0 = .ok (.aload_n 3, 1) := by decide +kernel
theorem dL_setPart_1 : decode cL_setPart 1 = .ok (.iconst 0, 1) := by decide +kernel
theorem dL_setPart_2 : decode cL_setPart 2 = .ok (.aload_n 0, 1) := by decide +kernel
theorem dL_setPart_3 : decode cL_setPart 3 = .ok (.iload_n 1, 1) := by decide +kernel
theorem dL_setPart_4 : decode cL_setPart 4 = .ok (.iload_n 2, 1) := by decide +kernel
theorem dL_setPart_5 : decode cL_setPart 5 = .ok (.invokevirtual 44, 3) := by decide +kernel
theorem dL_setPart_8 : decode cL_setPart 8 = .ok (.i2l, 1) := by decide +kernel
theorem dL_setPart_9 : decode cL_setPart 9 = .ok (.lastore, 1) := by decide +kernel
theorem dL_setPart_10 : decode cL_setPart 10 = .ok (.goto 11, 3) := by decide +kernel
theorem dL_setPart_13 : decode cL_setPart 13 = .ok (.astore 4, 2) := by decide +kernel
theorem dL_setPart_15 : decode cL_setPart 15 = .ok (.iconst 1, 1) := by decide +kernel
theorem dL_setPart_16 : decode cL_setPart 16 = .ok (.ireturn, 1) := by decide +kernel
theorem dL_setPart_17 : decode cL_setPart 17 = .ok (.astore 4, 2) := by decide +kernel
theorem dL_setPart_19 : decode cL_setPart 19 = .ok (.iconst 2, 1) := by decide +kernel
theorem dL_setPart_20 : decode cL_setPart 20 = .ok (.ireturn, 1) := by decide +kernel
theorem dL_setPart_21 : decode cL_setPart 21 = .ok (.iconst 0, 1) := by decide +kernel
theorem dL_setPart_22 : decode cL_setPart 22 = .ok (.ireturn, 1) := by decide +kernel
theorem dL_shownParent_0 : decode cL_shownParent 0 = .ok (.aload_n 2, 1) := by decide +kernel
theorem dL_shownParent_1 : decode cL_shownParent 1 = .ok (.iconst 0, 1) := by decide +kernel
theorem dL_shownParent_2 : decode cL_shownParent 2 = .ok (.aload_n 0, 1) := by decide +kernel
theorem dL_shownParent_3 : decode cL_shownParent 3 = .ok (.iload_n 1, 1) := by decide +kernel
theorem dL_shownParent_4 : decode cL_shownParent 4 = .ok (.invokevirtual 48, 3) := by decide +kernel
theorem dL_shownParent_7 : decode cL_shownParent 7 = .ok (.i2l, 1) := by decide +kernel
theorem dL_shownParent_8 : decode cL_shownParent 8 = .ok (.lastore, 1) := by decide +kernel
theorem dL_shownParent_9 : decode cL_shownParent 9 = .ok (.goto 6, 3) := by decide +kernel
theorem dL_shownParent_12 : decode cL_shownParent 12 = .ok (.astore_n 3, 1) := by decide +kernel
theorem dL_shownParent_13 : decode cL_shownParent 13 = .ok (.iconst 1, 1) := by decide +kernel
theorem dL_shownParent_14 : decode cL_shownParent 14 = .ok (.ireturn, 1) := by decide +kernel
theorem dL_shownParent_15 : decode cL_shownParent 15 = .ok (.iconst 0, 1) := by decide +kernel
theorem dL_shownParent_16 : decode cL_shownParent 16 = .ok (.ireturn, 1) := by decide +kernel
theorem dL_isIn_0 : decode cL_isIn 0 = .ok (.aload_n 2, 1) := by decide +kernel
theorem dL_isIn_1 : decode cL_isIn 1 = .ok (.iconst 0, 1) := by decide +kernel
theorem dL_isIn_2 : decode cL_isIn 2 = .ok (.aload_n 0, 1) := by decide +kernel
theorem dL_isIn_3 : decode cL_isIn 3 = .ok (.iload_n 1, 1) := by decide +kernel
theorem dL_isIn_4 : decode cL_isIn 4 = .ok (.invokevirtual 51, 3) := by decide +kernel
theorem dL_isIn_7 : decode cL_isIn 7 = .ok (.ifCond .eq 7, 3) := by decide +kernel
theorem dL_isIn_10 : decode cL_isIn 10 = .ok (.lconst 1, 1) := by decide +kernel
theorem dL_isIn_11 : decode cL_isIn 11 = .ok (.goto 4, 3) := by decide +kernel
theorem dL_isIn_14 : decode cL_isIn 14 = .ok (.lconst 0, 1) := by decide +kernel
theorem dL_isIn_15 : decode cL_isIn 15 = .ok (.lastore, 1) := by decide +kernel
theorem dL_isIn_16 : decode cL_isIn 16 = .ok (.goto 6, 3) := by decide +kernel
theorem dL_isIn_19 : decode cL_isIn 19 = .ok (.astore_n 3, 1) := by decide +kernel
theorem dL_isIn_20 : decode cL_isIn 20 = .ok (.iconst 1, 1) := by decide +kernel
theorem dL_isIn_21 : decode cL_isIn 21 = .ok (.ireturn, 1) := by decide +kernel
theorem dL_isIn_22 : decode cL_isIn 22 = .ok (.iconst 0, 1) := by decide +kernel
theorem dL_isIn_23 : decode cL_isIn 23 = .ok (.ireturn, 1) := by decide +kernel
theorem dL_test_0 : decode cL_test 0 = .ok (.aload 4, 2) := by decide +kernel
theorem dL_test_2 : decode cL_test 2 = .ok (.iconst 0, 1) := by decide +kernel
theorem dL_test_3 : decode cL_test 3 = .ok (.aload_n 0, 1) := by decide +kernel
theorem dL_test_4 : decode cL_test 4 = .ok (.iload_n 1, 1) := by decide +kernel
theorem dL_test_5 : decode cL_test 5 = .ok (.iload_n 2, 1) := by decide +kernel
theorem dL_test_6 : decode cL_test 6 = .ok (.iload_n 3, 1) := by decide +kernel
theorem dL_test_7 : decode cL_test 7 = .ok (.invokevirtual 55, 3) := by decide +kernel
theorem dL_test_10 : decode cL_test 10 = .ok (.i2l, 1) := by decide +kernel
theorem dL_test_11 : decode cL_test 11 = .ok (.lastore, 1) := by decide +kernel
theorem dL_test_12 : decode cL_test 12 = .ok (.goto 15, 3) := by decide +kernel
theorem dL_test_15 : decode cL_test 15 = .ok (.astore 5, 2) := by decide +kernel
theorem dL_test_17 : decode cL_test 17 = .ok (.iconst 1, 1) := by decide +kernel
theorem dL_test_18 : decode cL_test 18 = .ok (.ireturn, 1) := by decide +kernel
theorem dL_test_19 : decode cL_test 19 = .ok (.astore 5, 2) := by decide +kernel
theorem dL_test_21 : decode cL_test 21 = .ok (.iconst 2, 1) := by decide +kernel
theorem dL_test_22 : decode cL_test 22 = .ok (.ireturn, 1) := by decide +kernel
theorem dL_test_23 : decode cL_test 23 = .ok (.astore 5, 2) := by decide +kernel
theorem dL_test_25 : decode cL_test 25 = .ok (.iconst 3, 1) := by decide +kernel
theorem dL_test_26 : decode cL_test 26 = .ok (.ireturn, 1) := by decide +kernel
theorem dL_test_27 : decode cL_test 27 = .ok (.iconst 0, 1) := by decide +kernel
theorem dL_test_28 : decode cL_test 28 = .ok (.ireturn, 1) := by decide +kernel
theorem dL_join_0 : decode cL_join 0 = .ok (.aload_n 2, 1) := by decide +kernel
theorem dL_join_1 : decode cL_join 1 = .ok (.iconst 0, 1) := by decide +kernel
theorem dL_join_2 : decode cL_join 2 = .ok (.aload_n 0, 1) := by decide +kernel
theorem dL_join_3 : decode cL_join 3 = .ok (.iload_n 1, 1) := by decide +kernel
theorem dL_join_4 : decode cL_join 4 = .ok (.invokevirtual 58, 3) := by decide +kernel
theorem dL_join_7 : decode cL_join 7 = .ok (.i2l, 1) := by decide +kernel
theorem dL_join_8 : decode cL_join 8 = .ok (.lastore, 1) := by decide +kernel
theorem dL_join_9 : decode cL_join 9 = .ok (.goto 9, 3) := by decide +kernel
theorem dL_join_12 : decode cL_join 12 = .ok (.astore_n 3, 1) := by decide +kernel
theorem dL_join_13 : decode cL_join 13 = .ok (.iconst 1, 1) := by decide +kernel
theorem dL_join_14 : decode cL_join 14 = .ok (.ireturn, 1) := by decide +kernel
theorem dL_join_15 : decode cL_join 15 = .ok (.astore_n 3, 1) := by decide +kernel
theorem dL_join_16 : decode cL_join 16 = .ok (.iconst 2, 1) := by decide +kernel
theorem dL_join_17 : decode cL_join 17 = .ok (.ireturn, 1) := by decide +kernel
theorem dL_join_18 : decode cL_join 18 = .ok (.iconst 0, 1) := by decide +kernel
theorem dL_join_19 : decode cL_join 19 = .ok (.ireturn, 1) := by decide +kernel
theorem dL_select_0 : decode cL_select 0 = .ok (.aload_n 1, 1) := by decide +kernel
theorem dL_select_1 : decode cL_select 1 = .ok (.iconst 0, 1) := by decide +kernel
theorem dL_select_2 : decode cL_select 2 = .ok (.aload_n 0, 1) := by decide +kernel
theorem dL_select_3 : decode cL_select 3 = .ok (.invokevirtual 61, 3) := by decide +kernel
theorem dL_select_6 : decode cL_select 6 = .ok (.i2l, 1) := by decide +kernel
theorem dL_select_7 : decode cL_select 7 = .ok (.lastore, 1) := by decide +kernel
theorem dL_select_8 : decode cL_select 8 = .ok (.goto 6, 3) := by decide +kernel
theorem dL_select_11 : decode cL_select 11 = .ok (.astore_n 2, 1) := by decide +kernel
theorem dL_select_12 : decode cL_select 12 = .ok (.iconst 1, 1) := by decide +kernel
theorem dL_select_13 : decode cL_select 13 = .ok (.ireturn, 1) := by decide +kernel
theorem dL_select_14 : decode cL_select 14 = .ok (.iconst 0, 1) := by decide +kernel
theorem dL_select_15 : decode cL_select 15 = .ok (.ireturn, 1) := by decide +kernel
theorem dL_weight_0 : decode cL_weight 0 = .ok (.aload_n 2, 1) := by decide +kernel
theorem dL_weight_1 : decode cL_weight 1 = .ok (.iconst 0, 1) := by decide +kernel
theorem dL_weight_2 : decode cL_weight 2 = .ok (.aload_n 0, 1) := by decide +kernel
theorem dL_weight_3 : decode cL_weight 3 = .ok (.iload_n 1, 1) := by decide +kernel
theorem dL_weight_4 : decode cL_weight 4 = .ok (.invokevirtual 65, 3) := by decide +kernel
theorem dL_weight_7 : decode cL_weight 7 = .ok (.i2l, 1) := by decide +kernel
theorem dL_weight_8 : decode cL_weight 8 = .ok (.lastore, 1) := by decide +kernel
theorem dL_weight_9 : decode cL_weight 9 = .ok (.goto 6, 3) := by decide +kernel
theorem dL_weight_12 : decode cL_weight 12 = .ok (.astore_n 3, 1) := by decide +kernel
theorem dL_weight_13 : decode cL_weight 13 = .ok (.iconst 1, 1) := by decide +kernel
theorem dL_weight_14 : decode cL_weight 14 = .ok (.ireturn, 1) := by decide +kernel
theorem dL_weight_15 : decode cL_weight 15 = .ok (.iconst 0, 1) := by decide +kernel
theorem dL_weight_16 : decode cL_weight 16 = .ok (.ireturn, 1) := by decide +kernel
theorem dL_matches_0 : decode cL_matches 0 = .ok (.aload 4, 2) := by decide +kernel
theorem dL_matches_2 : decode cL_matches 2 = .ok (.iconst 0, 1) := by decide +kernel
theorem dL_matches_3 : decode cL_matches 3 = .ok (.aload_n 0, 1) := by decide +kernel
theorem dL_matches_4 : decode cL_matches 4 = .ok (.iload_n 1, 1) := by decide +kernel
theorem dL_matches_5 : decode cL_matches 5 = .ok (.iload_n 2, 1) := by decide +kernel
theorem dL_matches_6 : decode cL_matches 6 = .ok (.iload_n 3, 1) := by decide +kernel
theorem dL_matches_7 : decode cL_matches 7 = .ok (.invokevirtual 68, 3) := by decide +kernel
theorem dL_matches_10 : decode cL_matches 10 = .ok (.ifCond .eq 7, 3) := by decide +kernel
theorem dL_matches_13 : decode cL_matches 13 = .ok (.lconst 1, 1) := by decide +kernel
theorem dL_matches_14 : decode cL_matches 14 = .ok (.goto 4, 3) := by decide +kernel
theorem dL_matches_17 : decode cL_matches 17 = .ok (.lconst 0, 1) := by decide +kernel
theorem dL_matches_18 : decode cL_matches 18 = .ok (.lastore, 1) := by decide +kernel
theorem dL_matches_19 : decode cL_matches 19 = .ok (.goto 7, 3) := by decide +kernel
theorem dL_matches_22 : decode cL_matches 22 = .ok (.astore 5, 2) := by decide +kernel
theorem dL_matches_24 : decode cL_matches 24 = .ok (.iconst 1, 1) := by decide +kernel
theorem dL_matches_25 : decode cL_matches 25 = .ok (.ireturn, 1) := by decide +kernel
theorem dL_matches_26 : decode cL_matches 26 = .ok (.iconst 0, 1) := by decide +kernel
theorem dL_matches_27 : decode cL_matches 27 = .ok (.ireturn, 1) := by decide +kernel
theorem dL_allThat_0 : decode cL_allThat 0 = .ok (.aload_n 3, 1) := by decide +kernel
theorem dL_allThat_1 : decode cL_allThat 1 = .ok (.iconst 0, 1) := by decide +kernel
theorem dL_allThat_2 : decode cL_allThat 2 = .ok (.aload_n 0, 1) := by decide +kernel
theorem dL_allThat_3 : decode cL_allThat 3 = .ok (.iload_n 1, 1) := by decide +kernel
theorem dL_allThat_4 : decode cL_allThat 4 = .ok (.iload_n 2, 1) := by decide +kernel
theorem dL_allThat_5 : decode cL_allThat 5 = .ok (.invokevirtual 72, 3) := by decide +kernel
theorem dL_allThat_8 : decode cL_allThat 8 = .ok (.i2l, 1) := by decide +kernel
theorem dL_allThat_9 : decode cL_allThat 9 = .ok (.lastore, 1) := by decide +kernel
theorem dL_allThat_10 : decode cL_allThat 10 = .ok (.goto 7, 3) := by decide +kernel
theorem dL_allThat_13 : decode cL_allThat 13 = .ok (.astore 4, 2) := by decide +kernel
theorem dL_allThat_15 : decode cL_allThat 15 = .ok (.iconst 1, 1) := by decide +kernel
theorem dL_allThat_16 : decode cL_allThat 16 = .ok (.ireturn, 1) := by decide +kernel
theorem dL_allThat_17 : decode cL_allThat 17 = .ok (.iconst 0, 1) := by decide +kernel
theorem dL_allThat_18 : decode cL_allThat 18 = .ok (.ireturn, 1) := by decide +kernel
theorem dL_sheet_0 : decode cL_sheet 0 = .ok (.aload 4, 2) := by decide +kernel
theorem dL_sheet_2 : decode cL_sheet 2 = .ok (.iconst 0, 1) := by decide +kernel
theorem dL_sheet_3 : decode cL_sheet 3 = .ok (.aload_n 0, 1) := by decide +kernel
theorem dL_sheet_4 : decode cL_sheet 4 = .ok (.iload_n 1, 1) := by decide +kernel
theorem dL_sheet_5 : decode cL_sheet 5 = .ok (.iload_n 2, 1) := by decide +kernel
theorem dL_sheet_6 : decode cL_sheet 6 = .ok (.iload_n 3, 1) := by decide +kernel
theorem dL_sheet_7 : decode cL_sheet 7 = .ok (.invokevirtual 75, 3) := by decide +kernel
theorem dL_sheet_10 : decode cL_sheet 10 = .ok (.i2l, 1) := by decide +kernel
theorem dL_sheet_11 : decode cL_sheet 11 = .ok (.lastore, 1) := by decide +kernel
theorem dL_sheet_12 : decode cL_sheet 12 = .ok (.goto 15, 3) := by decide +kernel
theorem dL_sheet_15 : decode cL_sheet 15 = .ok (.astore 5, 2) := by decide +kernel
theorem dL_sheet_17 : decode cL_sheet 17 = .ok (.iconst 1, 1) := by decide +kernel
theorem dL_sheet_18 : decode cL_sheet 18 = .ok (.ireturn, 1) := by decide +kernel
theorem dL_sheet_19 : decode cL_sheet 19 = .ok (.astore 5, 2) := by decide +kernel
theorem dL_sheet_21 : decode cL_sheet 21 = .ok (.iconst 2, 1) := by decide +kernel
theorem dL_sheet_22 : decode cL_sheet 22 = .ok (.ireturn, 1) := by decide +kernel
theorem dL_sheet_23 : decode cL_sheet 23 = .ok (.astore 5, 2) := by decide +kernel
theorem dL_sheet_25 : decode cL_sheet 25 = .ok (.iconst 3, 1) := by decide +kernel
theorem dL_sheet_26 : decode cL_sheet 26 = .ok (.ireturn, 1) := by decide +kernel
theorem dL_sheet_27 : decode cL_sheet 27 = .ok (.iconst 0, 1) := by decide +kernel
theorem dL_sheet_28 : decode cL_sheet 28 = .ok (.ireturn, 1) := by decide +kernel
theorem dL_turn_0 : decode cL_turn 0 = .ok (.aload_n 3, 1) := by decide +kernel
theorem dL_turn_1 : decode cL_turn 1 = .ok (.iconst 0, 1) := by decide +kernel
theorem dL_turn_2 : decode cL_turn 2 = .ok (.aload_n 0, 1) := by decide +kernel
theorem dL_turn_3 : decode cL_turn 3 = .ok (.iload_n 1, 1) := by decide +kernel
theorem dL_turn_4 : decode cL_turn 4 = .ok (.iload_n 2, 1) := by decide +kernel
theorem dL_turn_5 : decode cL_turn 5 = .ok (.invokevirtual 78, 3) := by decide +kernel
theorem dL_turn_8 : decode cL_turn 8 = .ok (.ifCond .eq 7, 3) := by decide +kernel
theorem dL_turn_11 : decode cL_turn 11 = .ok (.lconst 1, 1) := by decide +kernel
theorem dL_turn_12 : decode cL_turn 12 = .ok (.goto 4, 3) := by decide +kernel
theorem dL_turn_15 : decode cL_turn 15 = .ok (.lconst 0, 1) := by decide +kernel
theorem dL_turn_16 : decode cL_turn 16 = .ok (.lastore, 1) := by decide +kernel
theorem dL_turn_17 : decode cL_turn 17 = .ok (.goto 7, 3) := by decide +kernel
theorem dL_turn_20 : decode cL_turn 20 = .ok (.astore 4, 2) := by decide +kernel
theorem dL_turn_22 : decode cL_turn 22 = .ok (.iconst 1, 1) := by decide +kernel
theorem dL_turn_23 : decode cL_turn 23 = .ok (.ireturn, 1) := by decide +kernel
theorem dL_turn_24 : decode cL_turn 24 = .ok (.iconst 0, 1) := by decide +kernel
theorem dL_turn_25 : decode cL_turn 25 = .ok (.ireturn, 1) := by decide +kernel
theorem dL_rule_0 : decode cL_rule 0 = .ok (.aload_n 3, 1) := by decide +kernel
theorem dL_rule_1 : decode cL_rule 1 = .ok (.iconst 0, 1) := by decide +kernel
theorem dL_rule_2 : decode cL_rule 2 = .ok (.aload_n 0, 1) := by decide +kernel
theorem dL_rule_3 : decode cL_rule 3 = .ok (.iload_n 1, 1) := by decide +kernel
theorem dL_rule_4 : decode cL_rule 4 = .ok (.iload_n 2, 1) := by decide +kernel
theorem dL_rule_5 : decode cL_rule 5 = .ok (.invokevirtual 82, 3) := by decide +kernel
theorem dL_rule_8 : decode cL_rule 8 = .ok (.i2l, 1) := by decide +kernel
theorem dL_rule_9 : decode cL_rule 9 = .ok (.lastore, 1) := by decide +kernel
theorem dL_rule_10 : decode cL_rule 10 = .ok (.goto 11, 3) := by decide +kernel
theorem dL_rule_13 : decode cL_rule 13 = .ok (.astore 4, 2) := by decide +kernel
theorem dL_rule_15 : decode cL_rule 15 = .ok (.iconst 1, 1) := by decide +kernel
theorem dL_rule_16 : decode cL_rule 16 = .ok (.ireturn, 1) := by decide +kernel
theorem dL_rule_17 : decode cL_rule 17 = .ok (.astore 4, 2) := by decide +kernel
theorem dL_rule_19 : decode cL_rule 19 = .ok (.iconst 2, 1) := by decide +kernel
theorem dL_rule_20 : decode cL_rule 20 = .ok (.ireturn, 1) := by decide +kernel
theorem dL_rule_21 : decode cL_rule 21 = .ok (.iconst 0, 1) := by decide +kernel
theorem dL_rule_22 : decode cL_rule 22 = .ok (.ireturn, 1) := by decide +kernel
theorem dL_when_0 : decode cL_when 0 = .ok (.aload_n 0, 1) := by decide +kernel
theorem dL_when_1 : decode cL_when 1 = .ok (.iload_n 1, 1) := by decide +kernel
theorem dL_when_2 : decode cL_when 2 = .ok (.iload_n 2, 1) := by decide +kernel
theorem dL_when_3 : decode cL_when 3 = .ok (.iload_n 3, 1) := by decide +kernel
theorem dL_when_4 : decode cL_when 4 = .ok (.invokevirtual 85, 3) := by decide +kernel
theorem dL_when_7 : decode cL_when 7 = .ok (.goto 11, 3) := by decide +kernel
theorem dL_when_10 : decode cL_when 10 = .ok (.astore 4, 2) := by decide +kernel
theorem dL_when_12 : decode cL_when 12 = .ok (.iconst 1, 1) := by decide +kernel
theorem dL_when_13 : decode cL_when 13 = .ok (.ireturn, 1) := by decide +kernel
theorem dL_when_14 : decode cL_when 14 = .ok (.astore 4, 2) := by decide +kernel
theorem dL_when_16 : decode cL_when 16 = .ok (.iconst 2, 1) := by decide +kernel
theorem dL_when_17 : decode cL_when 17 = .ok (.ireturn, 1) := by decide +kernel
theorem dL_when_18 : decode cL_when 18 = .ok (.iconst 0, 1) := by decide +kernel
theorem dL_when_19 : decode cL_when 19 = .ok (.ireturn, 1) := by decide +kernel
theorem dL_declare_0 : decode cL_declare 0 = .ok (.aload 6, 2) := by decide +kernel
theorem dL_declare_2 : decode cL_declare 2 = .ok (.iconst 0, 1) := by decide +kernel
theorem dL_declare_3 : decode cL_declare 3 = .ok (.aload_n 0, 1) := by decide +kernel
theorem dL_declare_4 : decode cL_declare 4 = .ok (.iload_n 1, 1) := by decide +kernel
theorem dL_declare_5 : decode cL_declare 5 = .ok (.iload_n 2, 1) := by decide +kernel
theorem dL_declare_6 : decode cL_declare 6 = .ok (.iload_n 3, 1) := by decide +kernel
theorem dL_declare_7 : decode cL_declare 7 = .ok (.iload 4, 2) := by decide +kernel
theorem dL_declare_9 : decode cL_declare 9 = .ok (.iload 5, 2) := by decide +kernel
theorem dL_declare_11 : decode cL_declare 11 = .ok (.invokevirtual 88, 3) := by decide +kernel
theorem dL_declare_14 : decode cL_declare 14 = .ok (.i2l, 1) := by decide +kernel
theorem dL_declare_15 : decode cL_declare 15 = .ok (.lastore, 1) := by decide +kernel
theorem dL_declare_16 : decode cL_declare 16 = .ok (.goto 11, 3) := by decide +kernel
theorem dL_declare_19 : decode cL_declare 19 = .ok (.astore 7, 2) := by decide +kernel
theorem dL_declare_21 : decode cL_declare 21 = .ok (.iconst 1, 1) := by decide +kernel
theorem dL_declare_22 : decode cL_declare 22 = .ok (.ireturn, 1) := by decide +kernel
theorem dL_declare_23 : decode cL_declare 23 = .ok (.astore 7, 2) := by decide +kernel
theorem dL_declare_25 : decode cL_declare 25 = .ok (.iconst 2, 1) := by decide +kernel
theorem dL_declare_26 : decode cL_declare 26 = .ok (.ireturn, 1) := by decide +kernel
theorem dL_declare_27 : decode cL_declare 27 = .ok (.iconst 0, 1) := by decide +kernel
theorem dL_declare_28 : decode cL_declare 28 = .ok (.ireturn, 1) := by decide +kernel
theorem dL_declareVar_0 : decode cL_declareVar 0 = .ok (.aload 7, 2) := by decide +kernel
theorem dL_declareVar_2 : decode cL_declareVar 2 = .ok (.iconst 0, 1) := by decide +kernel
theorem dL_declareVar_3 : decode cL_declareVar 3 = .ok (.aload_n 0, 1) := by decide +kernel
theorem dL_declareVar_4 : decode cL_declareVar 4 = .ok (.iload_n 1, 1) := by decide +kernel
theorem dL_declareVar_5 : decode cL_declareVar 5 = .ok (.iload_n 2, 1) := by decide +kernel
theorem dL_declareVar_6 : decode cL_declareVar 6 = .ok (.iload_n 3, 1) := by decide +kernel
theorem dL_declareVar_7 : decode cL_declareVar 7 = .ok (.iload 4, 2) := by decide +kernel
theorem dL_declareVar_9 : decode cL_declareVar 9 = .ok (.iload 5, 2) := by decide +kernel
theorem dL_declareVar_11 : decode cL_declareVar 11 = .ok (.iload 6, 2) := by decide +kernel
theorem dL_declareVar_13 : decode cL_declareVar 13 = .ok (.invokevirtual 92, 3) := by decide +kernel
theorem dL_declareVar_16 : decode cL_declareVar 16 = .ok (.i2l, 1) := by decide +kernel
theorem dL_declareVar_17 : decode cL_declareVar 17 = .ok (.lastore, 1) := by decide +kernel
theorem dL_declareVar_18 : decode cL_declareVar 18 = .ok (.goto 11, 3) := by decide +kernel
theorem dL_declareVar_21 : decode cL_declareVar 21 = .ok (.astore 8, 2) := by decide +kernel
theorem dL_declareVar_23 : decode cL_declareVar 23 = .ok (.iconst 1, 1) := by decide +kernel
theorem dL_declareVar_24 : decode cL_declareVar 24 = .ok (.ireturn, 1) := by decide +kernel
theorem dL_declareVar_25 : decode cL_declareVar 25 = .ok (.astore 8, 2) := by decide +kernel
theorem dL_declareVar_27 : decode cL_declareVar 27 = .ok (.iconst 2, 1) := by decide +kernel
theorem dL_declareVar_28 : decode cL_declareVar 28 = .ok (.ireturn, 1) := by decide +kernel
theorem dL_declareVar_29 : decode cL_declareVar 29 = .ok (.iconst 0, 1) := by decide +kernel
theorem dL_declareVar_30 : decode cL_declareVar 30 = .ok (.ireturn, 1) := by decide +kernel
theorem dL_undeclare_0 : decode cL_undeclare 0 = .ok (.aload_n 3, 1) := by decide +kernel
theorem dL_undeclare_1 : decode cL_undeclare 1 = .ok (.iconst 0, 1) := by decide +kernel
theorem dL_undeclare_2 : decode cL_undeclare 2 = .ok (.aload_n 0, 1) := by decide +kernel
theorem dL_undeclare_3 : decode cL_undeclare 3 = .ok (.iload_n 1, 1) := by decide +kernel
theorem dL_undeclare_4 : decode cL_undeclare 4 = .ok (.iload_n 2, 1) := by decide +kernel
theorem dL_undeclare_5 : decode cL_undeclare 5 = .ok (.invokevirtual 96, 3) := by decide +kernel
theorem dL_undeclare_8 : decode cL_undeclare 8 = .ok (.i2l, 1) := by decide +kernel
theorem dL_undeclare_9 : decode cL_undeclare 9 = .ok (.lastore, 1) := by decide +kernel
theorem dL_undeclare_10 : decode cL_undeclare 10 = .ok (.goto 11, 3) := by decide +kernel
theorem dL_undeclare_13 : decode cL_undeclare 13 = .ok (.astore 4, 2) := by decide +kernel
theorem dL_undeclare_15 : decode cL_undeclare 15 = .ok (.iconst 1, 1) := by decide +kernel
theorem dL_undeclare_16 : decode cL_undeclare 16 = .ok (.ireturn, 1) := by decide +kernel
theorem dL_undeclare_17 : decode cL_undeclare 17 = .ok (.astore 4, 2) := by decide +kernel
theorem dL_undeclare_19 : decode cL_undeclare 19 = .ok (.iconst 2, 1) := by decide +kernel
theorem dL_undeclare_20 : decode cL_undeclare 20 = .ok (.ireturn, 1) := by decide +kernel
theorem dL_undeclare_21 : decode cL_undeclare 21 = .ok (.iconst 0, 1) := by decide +kernel
theorem dL_undeclare_22 : decode cL_undeclare 22 = .ok (.ireturn, 1) := by decide +kernel
theorem dL_setWidth_0 : decode cL_setWidth 0 = .ok (.aload_n 2, 1) := by decide +kernel
theorem dL_setWidth_1 : decode cL_setWidth 1 = .ok (.iconst 0, 1) := by decide +kernel
theorem dL_setWidth_2 : decode cL_setWidth 2 = .ok (.aload_n 0, 1) := by decide +kernel
theorem dL_setWidth_3 : decode cL_setWidth 3 = .ok (.iload_n 1, 1) := by decide +kernel
theorem dL_setWidth_4 : decode cL_setWidth 4 = .ok (.invokevirtual 99, 3) := by decide +kernel
theorem dL_setWidth_7 : decode cL_setWidth 7 = .ok (.i2l, 1) := by decide +kernel
theorem dL_setWidth_8 : decode cL_setWidth 8 = .ok (.lastore, 1) := by decide +kernel
theorem dL_setWidth_9 : decode cL_setWidth 9 = .ok (.goto 6, 3) := by decide +kernel
theorem dL_setWidth_12 : decode cL_setWidth 12 = .ok (.astore_n 3, 1) := by decide +kernel
theorem dL_setWidth_13 : decode cL_setWidth 13 = .ok (.iconst 1, 1) := by decide +kernel
theorem dL_setWidth_14 : decode cL_setWidth 14 = .ok (.ireturn, 1) := by decide +kernel
theorem dL_setWidth_15 : decode cL_setWidth 15 = .ok (.iconst 0, 1) := by decide +kernel
theorem dL_setWidth_16 : decode cL_setWidth 16 = .ok (.ireturn, 1) := by decide +kernel
theorem dL_value_0 : decode cL_value 0 = .ok (.aload_n 3, 1) := by decide +kernel
theorem dL_value_1 : decode cL_value 1 = .ok (.iconst 0, 1) := by decide +kernel
theorem dL_value_2 : decode cL_value 2 = .ok (.aload_n 0, 1) := by decide +kernel
theorem dL_value_3 : decode cL_value 3 = .ok (.iload_n 1, 1) := by decide +kernel
theorem dL_value_4 : decode cL_value 4 = .ok (.iload_n 2, 1) := by decide +kernel
theorem dL_value_5 : decode cL_value 5 = .ok (.invokevirtual 102, 3) := by decide +kernel
theorem dL_value_8 : decode cL_value 8 = .ok (.i2l, 1) := by decide +kernel
theorem dL_value_9 : decode cL_value 9 = .ok (.lastore, 1) := by decide +kernel
theorem dL_value_10 : decode cL_value 10 = .ok (.goto 15, 3) := by decide +kernel
theorem dL_value_13 : decode cL_value 13 = .ok (.astore 4, 2) := by decide +kernel
theorem dL_value_15 : decode cL_value 15 = .ok (.iconst 1, 1) := by decide +kernel
theorem dL_value_16 : decode cL_value 16 = .ok (.ireturn, 1) := by decide +kernel
theorem dL_value_17 : decode cL_value 17 = .ok (.astore 4, 2) := by decide +kernel
theorem dL_value_19 : decode cL_value 19 = .ok (.iconst 2, 1) := by decide +kernel
theorem dL_value_20 : decode cL_value 20 = .ok (.ireturn, 1) := by decide +kernel
theorem dL_value_21 : decode cL_value 21 = .ok (.astore 4, 2) := by decide +kernel
theorem dL_value_23 : decode cL_value 23 = .ok (.iconst 3, 1) := by decide +kernel
theorem dL_value_24 : decode cL_value 24 = .ok (.ireturn, 1) := by decide +kernel
theorem dL_value_25 : decode cL_value 25 = .ok (.iconst 0, 1) := by decide +kernel
theorem dL_value_26 : decode cL_value 26 = .ok (.ireturn, 1) := by decide +kernel
theorem dL_size_0 : decode cL_size 0 = .ok (.aload_n 2, 1) := by decide +kernel
theorem dL_size_1 : decode cL_size 1 = .ok (.iconst 0, 1) := by decide +kernel
theorem dL_size_2 : decode cL_size 2 = .ok (.aload_n 0, 1) := by decide +kernel
theorem dL_size_3 : decode cL_size 3 = .ok (.iload_n 1, 1) := by decide +kernel
theorem dL_size_4 : decode cL_size 4 = .ok (.invokevirtual 105, 3) := by decide +kernel
theorem dL_size_7 : decode cL_size 7 = .ok (.i2l, 1) := by decide +kernel
theorem dL_size_8 : decode cL_size 8 = .ok (.lastore, 1) := by decide +kernel
theorem dL_size_9 : decode cL_size 9 = .ok (.goto 9, 3) := by decide +kernel
theorem dL_size_12 : decode cL_size 12 = .ok (.astore_n 3, 1) := by decide +kernel
theorem dL_size_13 : decode cL_size 13 = .ok (.iconst 1, 1) := by decide +kernel
theorem dL_size_14 : decode cL_size 14 = .ok (.ireturn, 1) := by decide +kernel
theorem dL_size_15 : decode cL_size 15 = .ok (.astore_n 3, 1) := by decide +kernel
theorem dL_size_16 : decode cL_size 16 = .ok (.iconst 2, 1) := by decide +kernel
theorem dL_size_17 : decode cL_size 17 = .ok (.ireturn, 1) := by decide +kernel
theorem dL_size_18 : decode cL_size 18 = .ok (.iconst 0, 1) := by decide +kernel
theorem dL_size_19 : decode cL_size 19 = .ok (.ireturn, 1) := by decide +kernel
theorem dL_seen_0 : decode cL_seen 0 = .ok (.aload_n 3, 1) := by decide +kernel
theorem dL_seen_1 : decode cL_seen 1 = .ok (.iconst 0, 1) := by decide +kernel
theorem dL_seen_2 : decode cL_seen 2 = .ok (.aload_n 0, 1) := by decide +kernel
theorem dL_seen_3 : decode cL_seen 3 = .ok (.iload_n 1, 1) := by decide +kernel
theorem dL_seen_4 : decode cL_seen 4 = .ok (.iload_n 2, 1) := by decide +kernel
theorem dL_seen_5 : decode cL_seen 5 = .ok (.invokevirtual 108, 3) := by decide +kernel
theorem dL_seen_8 : decode cL_seen 8 = .ok (.i2l, 1) := by decide +kernel
theorem dL_seen_9 : decode cL_seen 9 = .ok (.lastore, 1) := by decide +kernel
theorem dL_seen_10 : decode cL_seen 10 = .ok (.goto 15, 3) := by decide +kernel
theorem dL_seen_13 : decode cL_seen 13 = .ok (.astore 4, 2) := by decide +kernel
theorem dL_seen_15 : decode cL_seen 15 = .ok (.iconst 1, 1) := by decide +kernel
theorem dL_seen_16 : decode cL_seen 16 = .ok (.ireturn, 1) := by decide +kernel
theorem dL_seen_17 : decode cL_seen 17 = .ok (.astore 4, 2) := by decide +kernel
theorem dL_seen_19 : decode cL_seen 19 = .ok (.iconst 2, 1) := by decide +kernel
theorem dL_seen_20 : decode cL_seen 20 = .ok (.ireturn, 1) := by decide +kernel
theorem dL_seen_21 : decode cL_seen 21 = .ok (.astore 4, 2) := by decide +kernel
theorem dL_seen_23 : decode cL_seen 23 = .ok (.iconst 3, 1) := by decide +kernel
theorem dL_seen_24 : decode cL_seen 24 = .ok (.ireturn, 1) := by decide +kernel
theorem dL_seen_25 : decode cL_seen 25 = .ok (.iconst 0, 1) := by decide +kernel
theorem dL_seen_26 : decode cL_seen 26 = .ok (.ireturn, 1) := by decide +kernel
theorem dL_made_0 : decode cL_made 0 = .ok (.aload_n 2, 1) := by decide +kernel
theorem dL_made_1 : decode cL_made 1 = .ok (.iconst 0, 1) := by decide +kernel
theorem dL_made_2 : decode cL_made 2 = .ok (.aload_n 0, 1) := by decide +kernel
theorem dL_made_3 : decode cL_made 3 = .ok (.iload_n 1, 1) := by decide +kernel
theorem dL_made_4 : decode cL_made 4 = .ok (.invokevirtual 111, 3) := by decide +kernel
theorem dL_made_7 : decode cL_made 7 = .ok (.i2l, 1) := by decide +kernel
theorem dL_made_8 : decode cL_made 8 = .ok (.lastore, 1) := by decide +kernel
theorem dL_made_9 : decode cL_made 9 = .ok (.goto 9, 3) := by decide +kernel
theorem dL_made_12 : decode cL_made 12 = .ok (.astore_n 3, 1) := by decide +kernel
theorem dL_made_13 : decode cL_made 13 = .ok (.iconst 1, 1) := by decide +kernel
theorem dL_made_14 : decode cL_made 14 = .ok (.ireturn, 1) := by decide +kernel
theorem dL_made_15 : decode cL_made 15 = .ok (.astore_n 3, 1) := by decide +kernel
theorem dL_made_16 : decode cL_made 16 = .ok (.iconst 2, 1) := by decide +kernel
theorem dL_made_17 : decode cL_made 17 = .ok (.ireturn, 1) := by decide +kernel
theorem dL_made_18 : decode cL_made 18 = .ok (.iconst 0, 1) := by decide +kernel
theorem dL_made_19 : decode cL_made 19 = .ok (.ireturn, 1) := by decide +kernel
theorem dL_why_0 : decode cL_why 0 = .ok (.aload 4, 2) := by decide +kernel
theorem dL_why_2 : decode cL_why 2 = .ok (.iconst 0, 1) := by decide +kernel
theorem dL_why_3 : decode cL_why 3 = .ok (.aload_n 0, 1) := by decide +kernel
theorem dL_why_4 : decode cL_why 4 = .ok (.iload_n 1, 1) := by decide +kernel
theorem dL_why_5 : decode cL_why 5 = .ok (.iload_n 2, 1) := by decide +kernel
theorem dL_why_6 : decode cL_why 6 = .ok (.iload_n 3, 1) := by decide +kernel
theorem dL_why_7 : decode cL_why 7 = .ok (.invokevirtual 114, 3) := by decide +kernel
theorem dL_why_10 : decode cL_why 10 = .ok (.i2l, 1) := by decide +kernel
theorem dL_why_11 : decode cL_why 11 = .ok (.lastore, 1) := by decide +kernel
theorem dL_why_12 : decode cL_why 12 = .ok (.goto 15, 3) := by decide +kernel
theorem dL_why_15 : decode cL_why 15 = .ok (.astore 5, 2) := by decide +kernel
theorem dL_why_17 : decode cL_why 17 = .ok (.iconst 1, 1) := by decide +kernel
theorem dL_why_18 : decode cL_why 18 = .ok (.ireturn, 1) := by decide +kernel
theorem dL_why_19 : decode cL_why 19 = .ok (.astore 5, 2) := by decide +kernel
theorem dL_why_21 : decode cL_why 21 = .ok (.iconst 2, 1) := by decide +kernel
theorem dL_why_22 : decode cL_why 22 = .ok (.ireturn, 1) := by decide +kernel
theorem dL_why_23 : decode cL_why 23 = .ok (.astore 5, 2) := by decide +kernel
theorem dL_why_25 : decode cL_why 25 = .ok (.iconst 3, 1) := by decide +kernel
theorem dL_why_26 : decode cL_why 26 = .ok (.ireturn, 1) := by decide +kernel
theorem dL_why_27 : decode cL_why 27 = .ok (.iconst 0, 1) := by decide +kernel
theorem dL_why_28 : decode cL_why 28 = .ok (.ireturn, 1) := by decide +kernel
theorem dL_valueAnew_0 : decode cL_valueAnew 0 = .ok (.aload_n 3, 1) := by decide +kernel
theorem dL_valueAnew_1 : decode cL_valueAnew 1 = .ok (.iconst 0, 1) := by decide +kernel
theorem dL_valueAnew_2 : decode cL_valueAnew 2 = .ok (.aload_n 0, 1) := by decide +kernel
theorem dL_valueAnew_3 : decode cL_valueAnew 3 = .ok (.iload_n 1, 1) := by decide +kernel
theorem dL_valueAnew_4 : decode cL_valueAnew 4 = .ok (.iload_n 2, 1) := by decide +kernel
theorem dL_valueAnew_5 : decode cL_valueAnew 5 = .ok (.invokevirtual 117, 3) := by decide +kernel
theorem dL_valueAnew_8 : decode cL_valueAnew 8 = .ok (.i2l, 1) := by decide +kernel
theorem dL_valueAnew_9 : decode cL_valueAnew 9 = .ok (.lastore, 1) := by decide +kernel
theorem dL_valueAnew_10 : decode cL_valueAnew 10 = .ok (.goto 15, 3) := by decide +kernel
theorem dL_valueAnew_13 : decode cL_valueAnew 13 = .ok (.astore 4, 2) := by decide +kernel
theorem dL_valueAnew_15 : decode cL_valueAnew 15 = .ok (.iconst 1, 1) := by decide +kernel
theorem dL_valueAnew_16 : decode cL_valueAnew 16 = .ok (.ireturn, 1) := by decide +kernel
theorem dL_valueAnew_17 : decode cL_valueAnew 17 = .ok (.astore 4, 2) := by decide +kernel
theorem dL_valueAnew_19 : decode cL_valueAnew 19 = .ok (.iconst 2, 1) := by decide +kernel
theorem dL_valueAnew_20 : decode cL_valueAnew 20 = .ok (.ireturn, 1) := by decide +kernel
theorem dL_valueAnew_21 : decode cL_valueAnew 21 = .ok (.astore 4, 2) := by decide +kernel
theorem dL_valueAnew_23 : decode cL_valueAnew 23 = .ok (.iconst 3, 1) := by decide +kernel
theorem dL_valueAnew_24 : decode cL_valueAnew 24 = .ok (.ireturn, 1) := by decide +kernel
theorem dL_valueAnew_25 : decode cL_valueAnew 25 = .ok (.iconst 0, 1) := by decide +kernel
theorem dL_valueAnew_26 : decode cL_valueAnew 26 = .ok (.ireturn, 1) := by decide +kernel
theorem dL_tick_0 : decode cL_tick 0 = .ok (.aload_n 2, 1) := by decide +kernel
theorem dL_tick_1 : decode cL_tick 1 = .ok (.iconst 0, 1) := by decide +kernel
theorem dL_tick_2 : decode cL_tick 2 = .ok (.aload_n 0, 1) := by decide +kernel
theorem dL_tick_3 : decode cL_tick 3 = .ok (.iload_n 1, 1) := by decide +kernel
theorem dL_tick_4 : decode cL_tick 4 = .ok (.invokevirtual 120, 3) := by decide +kernel
theorem dL_tick_7 : decode cL_tick 7 = .ok (.i2l, 1) := by decide +kernel
theorem dL_tick_8 : decode cL_tick 8 = .ok (.lastore, 1) := by decide +kernel
theorem dL_tick_9 : decode cL_tick 9 = .ok (.goto 6, 3) := by decide +kernel
theorem dL_tick_12 : decode cL_tick 12 = .ok (.astore_n 3, 1) := by decide +kernel
theorem dL_tick_13 : decode cL_tick 13 = .ok (.iconst 1, 1) := by decide +kernel
theorem dL_tick_14 : decode cL_tick 14 = .ok (.ireturn, 1) := by decide +kernel
theorem dL_tick_15 : decode cL_tick 15 = .ok (.iconst 0, 1) := by decide +kernel
theorem dL_tick_16 : decode cL_tick 16 = .ok (.ireturn, 1) := by decide +kernel
theorem dL_animation_0 : decode cL_animation 0 = .ok (.aload_n 0, 1) := by decide +kernel
theorem dL_animation_1 : decode cL_animation 1 = .ok (.iload_n 1, 1) := by decide +kernel
theorem dL_animation_2 : decode cL_animation 2 = .ok (.iload_n 2, 1) := by decide +kernel
theorem dL_animation_3 : decode cL_animation 3 = .ok (.iload_n 3, 1) := by decide +kernel
theorem dL_animation_4 : decode cL_animation 4 = .ok (.iload 4, 2) := by decide +kernel
theorem dL_animation_6 : decode cL_animation 6 = .ok (.invokevirtual 123, 3) := by decide +kernel
theorem dL_animation_9 : decode cL_animation 9 = .ok (.goto 7, 3) := by decide +kernel
theorem dL_animation_12 : decode cL_animation 12 = .ok (.astore 5, 2) := by decide +kernel
theorem dL_animation_14 : decode cL_animation 14 = .ok (.iconst 1, 1) := by decide +kernel
theorem dL_animation_15 : decode cL_animation 15 = .ok (.ireturn, 1) := by decide +kernel
theorem dL_animation_16 : decode cL_animation 16 = .ok (.iconst 0, 1) := by decide +kernel
theorem dL_animation_17 : decode cL_animation 17 = .ok (.ireturn, 1) := by decide +kernel
theorem dL_frame_0 : decode cL_frame 0 = .ok (.aload 5, 2) := by decide +kernel
theorem dL_frame_2 : decode cL_frame 2 = .ok (.iconst 0, 1) := by decide +kernel
theorem dL_frame_3 : decode cL_frame 3 = .ok (.aload_n 0, 1) := by decide +kernel
theorem dL_frame_4 : decode cL_frame 4 = .ok (.iload_n 1, 1) := by decide +kernel
theorem dL_frame_5 : decode cL_frame 5 = .ok (.iload_n 2, 1) := by decide +kernel
theorem dL_frame_6 : decode cL_frame 6 = .ok (.iload_n 3, 1) := by decide +kernel
theorem dL_frame_7 : decode cL_frame 7 = .ok (.iload 4, 2) := by decide +kernel
theorem dL_frame_9 : decode cL_frame 9 = .ok (.invokevirtual 127, 3) := by decide +kernel
theorem dL_frame_12 : decode cL_frame 12 = .ok (.i2l, 1) := by decide +kernel
theorem dL_frame_13 : decode cL_frame 13 = .ok (.lastore, 1) := by decide +kernel
theorem dL_frame_14 : decode cL_frame 14 = .ok (.goto 7, 3) := by decide +kernel
theorem dL_frame_17 : decode cL_frame 17 = .ok (.astore 6, 2) := by decide +kernel
theorem dL_frame_19 : decode cL_frame 19 = .ok (.iconst 1, 1) := by decide +kernel
theorem dL_frame_20 : decode cL_frame 20 = .ok (.ireturn, 1) := by decide +kernel
theorem dL_frame_21 : decode cL_frame 21 = .ok (.iconst 0, 1) := by decide +kernel
theorem dL_frame_22 : decode cL_frame 22 = .ok (.ireturn, 1) := by decide +kernel
theorem dL_listen_0 : decode cL_listen 0 = .ok (.aload 5, 2) := by decide +kernel
theorem dL_listen_2 : decode cL_listen 2 = .ok (.iconst 0, 1) := by decide +kernel
theorem dL_listen_3 : decode cL_listen 3 = .ok (.aload_n 0, 1) := by decide +kernel
theorem dL_listen_4 : decode cL_listen 4 = .ok (.iload_n 1, 1) := by decide +kernel
theorem dL_listen_5 : decode cL_listen 5 = .ok (.iload_n 2, 1) := by decide +kernel
theorem dL_listen_6 : decode cL_listen 6 = .ok (.iload_n 3, 1) := by decide +kernel
theorem dL_listen_7 : decode cL_listen 7 = .ok (.iload 4, 2) := by decide +kernel
theorem dL_listen_9 : decode cL_listen 9 = .ok (.invokevirtual 131, 3) := by decide +kernel
theorem dL_listen_12 : decode cL_listen 12 = .ok (.i2l, 1) := by decide +kernel
theorem dL_listen_13 : decode cL_listen 13 = .ok (.lastore, 1) := by decide +kernel
theorem dL_listen_14 : decode cL_listen 14 = .ok (.goto 15, 3) := by decide +kernel
theorem dL_listen_17 : decode cL_listen 17 = .ok (.astore 6, 2) := by decide +kernel
theorem dL_listen_19 : decode cL_listen 19 = .ok (.iconst 1, 1) := by decide +kernel
theorem dL_listen_20 : decode cL_listen 20 = .ok (.ireturn, 1) := by decide +kernel
theorem dL_listen_21 : decode cL_listen 21 = .ok (.astore 6, 2) := by decide +kernel
theorem dL_listen_23 : decode cL_listen 23 = .ok (.iconst 2, 1) := by decide +kernel
theorem dL_listen_24 : decode cL_listen 24 = .ok (.ireturn, 1) := by decide +kernel
theorem dL_listen_25 : decode cL_listen 25 = .ok (.astore 6, 2) := by decide +kernel
theorem dL_listen_27 : decode cL_listen 27 = .ok (.iconst 3, 1) := by decide +kernel
theorem dL_listen_28 : decode cL_listen 28 = .ok (.ireturn, 1) := by decide +kernel
theorem dL_listen_29 : decode cL_listen 29 = .ok (.iconst 0, 1) := by decide +kernel
theorem dL_listen_30 : decode cL_listen 30 = .ok (.ireturn, 1) := by decide +kernel
def lNc (U : State) : Prop := ∀ i, i < 3 → ∀ j, j < 3 → i ≠ j → va_Nc (excN i) (excN j) U
theorem lNc.moved {u U : State} (hvm : u.vm.Alike U.vm) (h : lNc u) : lNc U := fun i hi j hj hij => (h i hi j hj hij).moved hvm
def lO (o : Nat) (cL : ClassId) (w : Int64) (H : Heap) : Prop := ∃ f : Nat → Int64, f 0 = w ∧ H[o]? = some (arrV cL 1 (fun j => .long (f j)))
def lPre (D : cD) (Φ : cG) (σ : cS) (U : State) : Prop := cP D Φ σ U.heap ∧ cK D U ∧ cZ Φ U U.heap ∧ lNc U
theorem lPre.same {D : cD} {Φ : cG} {σ : cS} {u U : State} (hh : U.heap = u.heap) (hv : U.vm = u.vm) (h : lPre D Φ σ u) : lPre D Φ σ U := by
  obtain ⟨h1, h2, h3, h4⟩ := h
  have hal : u.vm.Alike U.vm := by rw [hv]; exact Vm.Alike.refl _
  exact ⟨by rw [hh]; exact h1, cK.same hv.symm h2, by rw [hh]; exact cZ.moved hal h3, h4.moved hal⟩
def lPc0 (D : cD) (Φ : cG) (σ : cS) (av : List Value) : Array Value → State → Prop := va_Pc av (fun U => lPre D Φ σ U)
def lPc (D : cD) (Φ : cG) (σ : cS) (o : Nat) (cL : ClassId) (w : Int64) (av : List Value) : Array Value → State → Prop := va_Pc av (fun U => lPre D Φ σ U ∧ ArrOfT U cL .long ∧ lO o cL w U.heap ∧ (Φ.2.2.1 ≤ o ∧ o < Φ.2.2.2) ∧ Φ.2.1 ≤ Φ.2.2.1)
def lcdL : List Nat → Nat → Int32 → Option Int32
  | [], _, _ => none
  | a :: L, k, i => if k = a then some i else lcdL L k (i + 1)
def lcd {T : Type} (L : List Nat) (r : Nat ⊕ T) : Option Int32 := r.elim (fun k => lcdL L k 1) (fun _ => some 0)
theorem lcd_l {T : Type} {L : List Nat} {r : Nat ⊕ T} {k : Nat} {v : Int32} (e : r = .inl k) (h : lcd L r = some v) : lcdL L k 1 = some v := by subst e; exact h
theorem lcd_r {T : Type} {L : List Nat} {r : Nat ⊕ T} {u : T} {v : Int32} (e : r = .inr u) (h : lcd L r = some v) : 0 = v := by subst e; exact Option.some.inj h
theorem lcd1 {a k : Nat} {v i : Int32} (h : lcdL [a] k i = some v) : k = a ∧ v = i := by
  unfold lcdL at h
  by_cases h1 : k = a
  · rw [if_pos h1] at h; exact ⟨h1, (Option.some.inj h).symm⟩
  · rw [if_neg h1] at h; cases h
theorem lcd2 {a b k : Nat} {v i : Int32} (h : lcdL [a, b] k i = some v) : (k = a ∧ v = i) ∨ (k = b ∧ v = i + 1) := by
  unfold lcdL at h
  by_cases h1 : k = a
  · rw [if_pos h1] at h; exact Or.inl ⟨h1, (Option.some.inj h).symm⟩
  · rw [if_neg h1] at h; exact Or.inr (lcd1 h)
theorem lcd3 {a b d k : Nat} {v i : Int32} (h : lcdL [a, b, d] k i = some v) : (k = a ∧ v = i) ∨ (k = b ∧ v = i + 1) ∨ (k = d ∧ v = i + 1 + 1) := by
  unfold lcdL at h
  by_cases h1 : k = a
  · rw [if_pos h1] at h; exact Or.inl ⟨h1, (Option.some.inj h).symm⟩
  · rw [if_neg h1] at h; exact Or.inr (lcd2 h)
def lA (Φ : cG) (o : Nat) (q : Nat) : Prop := cReg Φ q ∨ q = o
def lQ0 {T : Type} (D : cD) (Φ : cG) (q : (Nat ⊕ T) × cS) (v : Int32) : Array Value → State → Outcome → State → Prop := fun _ st ou t => ∃ n, ou = .returned (some (.int v)) ∧ q.2.2 ≤ n ∧ cP D Φ (q.2.1, n) t.heap ∧ va_F (cReg Φ) st t
def lQ {T : Type} (D : cD) (Φ : cG) (q : (Nat ⊕ T) × cS) (o : Nat) (cL : ClassId) (vl : T → Int64) (v : Int32) : Array Value → State → Outcome → State → Prop := fun _ st ou t => ∃ n w, ou = .returned (some (.int v)) ∧ q.2.2 ≤ n ∧ cP D Φ (q.2.1, n) t.heap ∧ lO o cL w t.heap ∧ (∀ x, q.1 = .inr x → w = vl x) ∧ va_F (lA Φ o) st t
theorem cP.other {D : cD} {Φ : cG} {S : cS} {H H1 : Heap} (hP : cP D Φ S H) (z : H1.size = H.size) (o : ∀ q, ¬ (Φ.2.2.1 ≤ q ∧ q < Φ.2.2.2) → H1[q]? = H[q]?) (hi : Φ.2.1 ≤ Φ.2.2.1) : cP D Φ S H1 := by
  obtain ⟨h1, h2, h3, h4, h5⟩ := hP
  refine ⟨fun a c ha => ⟨(h1 a c ha).1.kept (o _ ?_), (h1 a c ha).2⟩, h2, z.trans h3, h4, by rw [z]; exact h5⟩
  rcases (h1 a c ha).2 with h | h
  · subst h
    unfold ph
    rw [if_pos rfl]
    omega
  · exact h.2
theorem lPc0_blind {D : cD} {Φ : cG} {σ : cS} {av : List Value} : FrameBlind (lPc0 D Φ σ av) := fun a U g mk q => ⟨q.1, lPre.same (u := U) (U := U.calling g mk a) rfl rfl q.2⟩
theorem lPc_blind {D : cD} {Φ : cG} {σ : cS} {o : Nat} {cL : ClassId} {w : Int64} {av : List Value} : FrameBlind (lPc D Φ σ o cL w av) := fun a U g mk q => ⟨q.1, lPre.same (u := U) (U := U.calling g mk a) rfl rfl q.2.1, arrOfT_moved (show U.vm.Alike (U.calling g mk a).vm from Vm.Alike.refl U.vm) q.2.2.1, q.2.2.2.1, q.2.2.2.2⟩
theorem lO.kept {o : Nat} {cL : ClassId} {w : Int64} {H H1 : Heap} (h : lO o cL w H) (e : H1[o]? = H[o]?) : lO o cL w H1 := by
  obtain ⟨f, h1, h2⟩ := h
  exact ⟨f, h1, e.trans h2⟩
theorem lO.lt {o : Nat} {cL : ClassId} {w : Int64} {H : Heap} (h : lO o cL w H) : o < H.size := by
  obtain ⟨f, h1, h2⟩ := h
  exact (Array.getElem?_eq_some_iff.mp h2).1
section LW
variable {p : Program} {l : Launch} {e : Env} {R : Room} {s : State} {m : MethodId} {args : Array Value} {below : List Frame} {meth : Method} {c : Code} {H : Heap} {locs : List Loc} {cells slots : Nat} {Q : State → Prop} {cc : ByteArray} {pc : Nat} {ls : Array Slot} {rest : List Value} {D : cD} {Φ : cG} {nL : Nat} {S : cS} {ret : Option FieldType} {own : String} {T : Type} {o : Nat} {cL : ClassId} {mc ms fR lR : Nat}
theorem cX_ofW {y : MethodName} {rm : Room} {maxL : Nat} {s₁ : State} {hh : List (Nat × Nat × Nat × Nat)} (B : BodyLoose p l y (headSpec (Cond.codeWith y cc maxL ret hh :: BG) rm) cc maxL ret e s m args below meth c s₁) (hml : c.maxLocals = maxL) (hK : cK D s) (hZ : cZ Φ s s.heap) : cX p s m args meth c cc maxL ret y.cls D Φ :=
  ⟨B.exec, B.bytes, hml, findClass_of_methodNamed B.named, fun w hw => atoms_spec (ws := Cond.codeWith y cc maxL ret hh :: BG) B.pre w (List.mem_cons_of_mem _ hw), hK, hZ, B.returns, B.notSynchronized⟩
theorem l_call {U : Type} {vu : U → Option Value} {v : (Nat ⊕ U) × cS} {st0 : List Value} {a : Array Value} (hr : vx_Run p l e R s m args below meth c s.heap [] 0 0 mc ms (F0 m pc ls st0) rest (cQt vu D Φ v a) (cXC D Φ v) (cReg Φ))
    (kx : ∀ (k n : Nat) (q9 : Addr) (ce : Cell) (H1 : Heap) (locs1 : List Loc), v.1 = .inl k → v.2.2 ≤ n → cP D Φ (v.2.1, n) H1 → va_S (cReg Φ) s.heap H1 locs1 → H1[q9]? = some ce → ce.vm = .none → s.vm.findClass (excN k) = some ce.cls → vx_W p l e R s m args below meth c H1 locs1 mc ms Q (F0 m pc ls rest) q9)
    (kk : ∀ (w : U) (H1 : Heap) (locs1 : List Loc), v.1 = .inr w → cP D Φ v.2 H1 → va_S (cReg Φ) s.heap H1 locs1 → W p l e R s m args below meth c H1 locs1 mc ms Q (F0 m (pc + 3) ls ((vu w).toList ++ rest))) : W p l e R s m args below meth c s.heap [] 0 0 Q (F0 m pc ls st0) := by
  intro T hT XX
  rcases hr T hT XX with ⟨v', st₀, t, T', L, h0, X', hL, e1, e2, ⟨w, hw, hv, hp, hF⟩, st⟩ | ⟨q9, st₀, t, T', L, E, ce, h0, X', hL, e1, e2, ⟨k, n, hk, hE, hn, hp, hF⟩, hce, hcv, hcl, st⟩
  · cases hv
    obtain ⟨k1, k2, k3⟩ := vx_keep h0 e1 va_S.rf (fun _ _ h => h) (fun _ h => h) hL hF
    rw [Nat.zero_add, Nat.zero_add] at X'
    obtain ⟨t2, a1, b1⟩ := kk w T'.heap ([] ++ L) hw (by rw [e1]; exact hp) k3 T' rfl X'
    exact ⟨t2, st t2 a1, b1⟩
  · obtain ⟨k1, k2, k3⟩ := vx_keep h0 e1 va_S.rf (fun _ _ h => h) (fun _ h => h) hL hF
    subst hE
    rw [Nat.zero_add, Nat.zero_add] at X'
    obtain ⟨t2, a1, b1⟩ := kx k n q9 ce T'.heap ([] ++ L) hk hn (by rw [e1]; exact hp) k3 (by rw [e1]; exact hce) hcv hcl T' rfl X'
    exact ⟨t2, st.trans a1, b1⟩
theorem l_pass (X : cX p s m args meth c cc nL ret own D Φ) (hN : lNc s) {k : Nat} (hk : k < 3) {pre : List (Nat × Nat × Nat × Nat)} {f : List (Nat × Nat)} (hf : pre.map (fun z => z.2.2.2) = f.map (fun z => z.1)) (hw : ∀ z ∈ f, z.1 ≠ 0 ∧ z.2 < 3 ∧ k ≠ z.2 ∧ Cond.classLink own z.1 (excN z.2) ∈ BG) : ∀ z ∈ tableOf pre, covers z pc = false ∨ (z.catchType ≠ 0 ∧ ∃ nm : String, (Cond.classLink own z.catchType nm).before args s = true ∧ va_Nc (excN k) nm s) := by
  intro z hz
  obtain ⟨z1, hz1, rfl⟩ := List.mem_map.mp hz
  have h1 : z1.2.2.2 ∈ f.map (fun z => z.1) := by rw [← hf]; exact List.mem_map_of_mem hz1
  obtain ⟨z2, hz2, h2⟩ := List.mem_map.mp h1
  obtain ⟨g1, g2, g3, g4⟩ := hw z2 hz2
  refine Or.inr ⟨by show z1.2.2.2 ≠ 0; rw [← h2]; exact g1, excN z2.2, ?_, hN k hk z2.2 g2 g3⟩
  show (Cond.classLink own z1.2.2.2 (excN z2.2)).before args s = true
  rw [← h2]
  exact X.2.2.2.2.1 _ g4
theorem l_rx0 {v : Int32} {n : Nat} {q : (Nat ⊕ T) × cS} (X : cX p s m args meth c cc nL (some .int) own D Φ) (hn : q.2.2 ≤ n) (hP : cP D Φ (q.2.1, n) H) (hS : va_S (cReg Φ) s.heap H locs) (hdg : decode cc pc = .ok (.ireturn, 1)) : W p l e (rA fR mc ms lR) s m args below meth c H locs mc ms (MQ below (lQ0 D Φ q v) args s mc ms (cReg Φ)) (F0 m pc ls [.int v]) :=
  W.iret X.1 X.2.1 X.2.2.2.2.2.2.2.1 (fun t ht _ => ⟨n, rfl, hn, by rw [ht]; exact hP, hS.F ht⟩) hS.2.2 hdg X.2.2.2.2.2.2.2.2
theorem l_rx {v : Int32} {n : Nat} {w : Int64} {q : (Nat ⊕ T) × cS} {vl : T → Int64} {k : Nat} (X : cX p s m args meth c cc nL (some .int) own D Φ) (hk : q.1 = .inl k) (hn : q.2.2 ≤ n) (hP : cP D Φ (q.2.1, n) H) (hS : va_S (cReg Φ) s.heap H locs) (hO : lO o cL w s.heap) (ho : Φ.2.2.1 ≤ o ∧ o < Φ.2.2.2) (hdg : decode cc pc = .ok (.ireturn, 1)) : W p l e (rA fR mc ms lR) s m args below meth c H locs mc ms (MQ below (lQ D Φ q o cL vl v) args s mc ms (lA Φ o)) (F0 m pc ls [.int v]) :=
  W.iret X.1 X.2.1 X.2.2.2.2.2.2.2.1 (fun t ht _ => ⟨n, w, rfl, hn, by rw [ht]; exact hP, by rw [ht]; exact hO.kept (hS.2.1 o hO.lt (fun z => z.2 ho)), fun x hx => by (rw [hk] at hx; cases hx), ⟨by rw [ht]; exact hS.1, fun z h1 h2 => by rw [ht]; exact hS.2.1 z h1 (fun h => h2 (Or.inl h))⟩⟩) (fun z hz => Or.inl (hS.2.2 z hz)) hdg X.2.2.2.2.2.2.2.2
theorem l_last {w x : Int64} {q : (Nat ⊕ T) × cS} (X : cX p s m args meth c cc nL (some .int) own D Φ) (hAr : ArrOfT s cL .long) (hP : cP D Φ q.2 H) (hS : va_S (cReg Φ) s.heap H locs) (hO : lO o cL w s.heap) (ho : Φ.2.2.1 ≤ o ∧ o < Φ.2.2.2) (hi : Φ.2.1 ≤ Φ.2.2.1) (hdg : decode cc pc = .ok (.lastore, 1))
    (kk : ∀ (H1 : Heap) (locs1 : List Loc), cP D Φ q.2 H1 → va_S (lA Φ o) s.heap H1 locs1 → lO o cL x H1 → W p l e R s m args below meth c H1 locs1 cells slots Q (F0 m (pc + 1) ls rest)) : W p l e R s m args below meth c H locs cells slots Q (F0 m pc ls (.long x :: .int 0 :: .ref o :: rest)) := by
  have hO1 := hO.kept (hS.2.1 o hO.lt (fun z => z.2 ho))
  obtain ⟨f, hf, hc⟩ := hO1
  refine W.last X.1 X.2.1 hc (hAr 1 (fun j => .long (f j))) (fun z => by cases z) (by rw [arrV_size]; decide) rfl rfl hdg fun H1 e z oq => ?_
  have hS1 : va_S (lA Φ o) s.heap H locs := ⟨hS.1, fun z h1 h2 => hS.2.1 z h1 (fun h => h2 (Or.inl h)), fun z hz => Or.inl (hS.2.2 z hz)⟩
  refine kk H1 _ (hP.other z (fun q hq => oq q (fun h => hq (h ▸ ho))) hi) (hS1.put z oq (Or.inr rfl)) ⟨fun j => if j = 0 then x else f j, if_pos rfl, ?_⟩
  rw [e, arrV_store]
  congr 2
  funext j
  by_cases hj : j = 0
  · subst hj
    rfl
  · show updV _ _ _ _ = _
    have h9 : ¬ j = (0 : Int32).toNatClampNeg := hj
    simp [updV, hj, h9]
theorem l_rn {v : Int32} {x : Int64} {q : (Nat ⊕ T) × cS} {vl : T → Int64} {u : T} (X : cX p s m args meth c cc nL (some .int) own D Φ) (hk : q.1 = .inr u) (hx : x = vl u) (hP : cP D Φ q.2 H) (hS : va_S (lA Φ o) s.heap H locs) (hO : lO o cL x H) (hdg : decode cc pc = .ok (.ireturn, 1)) : W p l e (rA fR mc ms lR) s m args below meth c H locs mc ms (MQ below (lQ D Φ q o cL vl v) args s mc ms (lA Φ o)) (F0 m pc ls [.int v]) :=
  W.iret X.1 X.2.1 X.2.2.2.2.2.2.2.1 (fun t ht _ => ⟨q.2.2, x, rfl, Nat.le_refl _, by rw [ht]; exact hP, by rw [ht]; exact hO, fun y hy => by (rw [hk] at hy; cases hy; exact hx), hS.F ht⟩) hS.2.2 hdg X.2.2.2.2.2.2.2.2
end LW
def lvZ (x : Int32) : Int64 := if x = 0 then 0 else 1
def lvN (x : Int32) : Int64 := x.toInt64
set_option maxRecDepth 20000 in
set_option maxHeartbeats 4000000 in
theorem K_L_make (l : Launch) (hl9 : l.stackTraces = false) (D : cD) (Φ : cG) (σ : cS) (o : Nat) (cL : ClassId) (w : Int64) (x0 : Nat) (x1 : Int32) {q : (Nat ⊕ Int32) × cS} {v : Int32} (hrc : rc σ (some x0) 11 = some x0) (h : f_X11_make x0 x1 σ = some q) (hv : lcd [0, 1] q.1 = some v) : Met l yL_make (Cond.codeWith yL_make cL_make 4 (some .int) [(0, 9, 12, 13), (0, 9, 15, 15)] :: BG) (rA 8 13 151 131) (lPc D Φ σ o cL w [cv Φ (some x0), .int x1, .ref o]) (lQ D Φ q o cL lvN v) 13 151 (lA Φ o) := by
  refine va_MetW (cc := cL_make) (maxL := 4) (ret := some .int) (hh := [(0, 9, 12, 13), (0, 9, 15, 15)]) (by decide) rfl ?_
  intro p e s m args below meth c s₁ B hml hv9
  obtain ⟨rfl, ⟨hP, hK, hZ, hN⟩, hAr, hO, ho, hi⟩ := hv9
  have X : cX p s m [cv Φ (some x0), .int x1, .ref o].toArray meth c cL_make 4 (some .int) "CascaderyLaw" D Φ := cX_ofW B hml hK hZ
  have htab : c.exceptionTable.toList = tableOf [(0, 9, 12, 13), (0, 9, 15, 15)] := vx_table (x := yL_make) B (atoms_spec (ws := Cond.codeWith yL_make cL_make 4 (some .int) [(0, 9, 12, 13), (0, 9, 15, 15)] :: BG) B.pre _ List.mem_cons_self)
  have hx := X.1
  have hb := X.2.1
  have hown := X.2.2.2.1
  have hts := X.2.2.2.2.1
  have hl := lv_entry [cv Φ (some x0), .int x1, .ref o] (n := 4) (by simp only [lgs_r, lgs_i, lgs_l, lgs_0, List.length]; exact Nat.le_of_ble_eq_true rfl)
  rw [lg_entry_eq]
  generalize (lg_sl [cv Φ (some x0), .int x1, .ref o] ++ List.replicate (4 - (lg_sl [cv Φ (some x0), .int x1, .ref o]).length) Slot.unset).toArray = ls at hl ⊢
  simp only [lv_args_r, lv_args_i, lv_args_l, lv_args_0] at hl
  have hl : lv_has ls 4 [(0, cv Φ (some x0)), (1, .int x1), (2, .ref o)] := hl
  show W p l e (rA 8 13 151 131) s m [cv Φ (some x0), .int x1, .ref o].toArray below meth c s.heap [] 0 0 (MQ below (lQ D Φ q o cL lvN v) [cv Φ (some x0), .int x1, .ref o].toArray s 13 151 (lA Φ o)) (F0 m 0 ls [])
  refine lv_aload_n hx hb dL_make_0 rfl (lv_at hl 2 rfl) ?_
  refine lv_iconst (v := 0) hx hb dL_make_1 (by decide) ?_
  refine c_aload_n hx hb dL_make_2 rfl (lv_at hl 0 rfl) ?_
  refine lv_iload_n hx hb dL_make_3 rfl (lv_at hl 1 rfl) ?_
  refine l_call (c_tV (rest := [.int 0, .ref o]) X (K_X11_make l hl9 D Φ σ x0 x1 h) hrc (Nat.le_of_ble_eq_true rfl) ⟨w_736, ww_X11_make⟩ rfl hy_X11_make rfl ⟨(Nat.le_of_ble_eq_true rfl), (Nat.le_of_ble_eq_true rfl)⟩ hP va_S.rf hl.1 (Nat.le_of_ble_eq_true rfl) dL_make_4 rfl ⟨(Nat.le_of_ble_eq_true rfl), (Nat.le_of_ble_eq_true rfl)⟩) (fun k n q9 ce H locs hk hn hP hS hce hcv hcl => ?_) (fun u H locs hk hP hS => ?_)
  · have hc : lcdL [0, 1] k 1 = some v := lcd_l hk hv
    rcases lcd2 hc with ⟨rfl, rfl⟩ | ⟨rfl, rfl⟩
    · refine vx_catch (E := excN 0) (name := excN 0) hown (tableOf []) ⟨0, 9, 12, 13⟩ (tableOf [(0, 9, 15, 15)]) htab (l_pass (k := 0) X hN (by decide) (f := []) rfl (fun z hz => by cases hz)) (by decide) (by decide) (hts _ w_734) (va_Nw.use (cNest_on _ cn_9) (hK.2.2.1 _ cn_9)) hce hcv hcl ?_
      refine lv_astore_n hx hb dL_make_12 rfl hl (Nat.le_of_ble_eq_true rfl) rfl (fun ls hl => ?_)
      refine lv_iconst (v := (1 : Int32)) hx hb dL_make_13 (by decide) ?_
      exact l_rx X hk hn hP hS hO ho dL_make_14
    · refine vx_catch (E := excN 1) (name := excN 1) hown (tableOf [(0, 9, 12, 13)]) ⟨0, 9, 15, 15⟩ (tableOf []) htab (l_pass (k := 1) X hN (by decide) (f := [(13, 0)]) rfl (fun z hz => by
      rw [List.mem_singleton.mp hz]
      exact ⟨by decide, by decide, by decide, w_734⟩)) (by decide) (by decide) (hts _ w_735) (va_Nw.use (cNest_on _ cn_10) (hK.2.2.1 _ cn_10)) hce hcv hcl ?_
      refine lv_astore_n hx hb dL_make_15 rfl hl (Nat.le_of_ble_eq_true rfl) rfl (fun ls hl => ?_)
      refine lv_iconst (v := (1 + 1 : Int32)) hx hb dL_make_16 (by decide) ?_
      exact l_rx X hk hn hP hS hO ho dL_make_17
  · obtain rfl := lcd_r hk hv
    refine W.eq (g2 := F0 m 7 ls [.int u, .int 0, .ref o]) rfl ?_
    refine lv_i2l hx hb dL_make_7 rfl ?_
    refine l_last (w := w) X hAr hP hS hO ho hi dL_make_8 (fun H locs hP hS hO => ?_)
    refine lv_goto (tgt := 18) hx hb dL_make_9 rfl ?_
    refine lv_iconst (v := 0) hx hb dL_make_18 (by decide) ?_
    exact l_rn X hk rfl hP hS hO dL_make_19
theorem ww_L_make : Cond.static yL_make ∈ BG ∧ Cond.initialized (yL_make).cls ∈ BG ∧ Cond.codeWith yL_make cL_make 4 (some .int) [(0, 9, 12, 13), (0, 9, 15, 15)] ∈ BG := ⟨w_732, w_143, w_733⟩
theorem hy_L_make : (yL_make).cls ≠ "java/lang/invoke/MethodHandle" ∧ (yL_make).cls ≠ "java/lang/invoke/VarHandle" ∧ (parseMethodDescriptor (yL_make).desc).map (fun d => d.parameters.length) = some 3 := ⟨by decide, by decide, by decide +kernel⟩
set_option maxRecDepth 20000 in
set_option maxHeartbeats 4000000 in
theorem K_L_shadow (l : Launch) (hl9 : l.stackTraces = false) (D : cD) (Φ : cG) (σ : cS) (x0 : Nat) (x1 : Int32) {q : (Nat ⊕ Unit) × cS} {v : Int32} (hrc : rc σ (some x0) 11 = some x0) (h : f_X11_shadow x0 x1 σ = some q) (hv : lcd [2, 1] q.1 = some v) : Met l yL_shadow (Cond.codeWith yL_shadow cL_shadow 3 (some .int) [(0, 5, 8, 21), (0, 5, 11, 15)] :: BG) (rA 8 2 12 134) (lPc0 D Φ σ [cv Φ (some x0), .int x1]) (lQ0 D Φ q v) 2 12 (cReg Φ) := by
  refine va_MetW (cc := cL_shadow) (maxL := 3) (ret := some .int) (hh := [(0, 5, 8, 21), (0, 5, 11, 15)]) (by decide) rfl ?_
  intro p e s m args below meth c s₁ B hml hv9
  obtain ⟨rfl, hP, hK, hZ, hN⟩ := hv9
  have X : cX p s m [cv Φ (some x0), .int x1].toArray meth c cL_shadow 3 (some .int) "CascaderyLaw" D Φ := cX_ofW B hml hK hZ
  have htab : c.exceptionTable.toList = tableOf [(0, 5, 8, 21), (0, 5, 11, 15)] := vx_table (x := yL_shadow) B (atoms_spec (ws := Cond.codeWith yL_shadow cL_shadow 3 (some .int) [(0, 5, 8, 21), (0, 5, 11, 15)] :: BG) B.pre _ List.mem_cons_self)
  have hx := X.1
  have hb := X.2.1
  have hown := X.2.2.2.1
  have hts := X.2.2.2.2.1
  have hl := lv_entry [cv Φ (some x0), .int x1] (n := 3) (by simp only [lgs_r, lgs_i, lgs_l, lgs_0, List.length]; exact Nat.le_of_ble_eq_true rfl)
  rw [lg_entry_eq]
  generalize (lg_sl [cv Φ (some x0), .int x1] ++ List.replicate (3 - (lg_sl [cv Φ (some x0), .int x1]).length) Slot.unset).toArray = ls at hl ⊢
  simp only [lv_args_r, lv_args_i, lv_args_l, lv_args_0] at hl
  have hl : lv_has ls 3 [(0, cv Φ (some x0)), (1, .int x1)] := hl
  show W p l e (rA 8 2 12 134) s m [cv Φ (some x0), .int x1].toArray below meth c s.heap [] 0 0 (MQ below (lQ0 D Φ q v) [cv Φ (some x0), .int x1].toArray s 2 12 (cReg Φ)) (F0 m 0 ls [])
  refine c_aload_n hx hb dL_shadow_0 rfl (lv_at hl 0 rfl) ?_
  refine lv_iload_n hx hb dL_shadow_1 rfl (lv_at hl 1 rfl) ?_
  refine l_call (c_tV (rest := []) X (K_X11_shadow l hl9 D Φ σ x0 x1 h) hrc (Nat.le_of_ble_eq_true rfl) ⟨w_835, ww_X11_shadow⟩ rfl hy_X11_shadow rfl ⟨(Nat.le_of_ble_eq_true rfl), (Nat.le_of_ble_eq_true rfl)⟩ hP va_S.rf hl.1 (Nat.le_of_ble_eq_true rfl) dL_shadow_2 rfl ⟨(Nat.le_of_ble_eq_true rfl), (Nat.le_of_ble_eq_true rfl)⟩) (fun k n q9 ce H locs hk hn hP hS hce hcv hcl => ?_) (fun u H locs hk hP hS => ?_)
  · have hc : lcdL [2, 1] k 1 = some v := lcd_l hk hv
    rcases lcd2 hc with ⟨rfl, rfl⟩ | ⟨rfl, rfl⟩
    · refine vx_catch (E := excN 2) (name := excN 2) hown (tableOf []) ⟨0, 5, 8, 21⟩ (tableOf [(0, 5, 11, 15)]) htab (l_pass (k := 2) X hN (by decide) (f := []) rfl (fun z hz => by cases hz)) (by decide) (by decide) (hts _ w_834) (va_Nw.use (cNest_on _ cn_11) (hK.2.2.1 _ cn_11)) hce hcv hcl ?_
      refine lv_astore_n hx hb dL_shadow_8 rfl hl (Nat.le_of_ble_eq_true rfl) rfl (fun ls hl => ?_)
      refine lv_iconst (v := (1 : Int32)) hx hb dL_shadow_9 (by decide) ?_
      exact l_rx0 X hn hP hS dL_shadow_10
    · refine vx_catch (E := excN 1) (name := excN 1) hown (tableOf [(0, 5, 8, 21)]) ⟨0, 5, 11, 15⟩ (tableOf []) htab (l_pass (k := 1) X hN (by decide) (f := [(21, 2)]) rfl (fun z hz => by
      rw [List.mem_singleton.mp hz]
      exact ⟨by decide, by decide, by decide, w_834⟩)) (by decide) (by decide) (hts _ w_735) (va_Nw.use (cNest_on _ cn_10) (hK.2.2.1 _ cn_10)) hce hcv hcl ?_
      refine lv_astore_n hx hb dL_shadow_11 rfl hl (Nat.le_of_ble_eq_true rfl) rfl (fun ls hl => ?_)
      refine lv_iconst (v := (1 + 1 : Int32)) hx hb dL_shadow_12 (by decide) ?_
      exact l_rx0 X hn hP hS dL_shadow_13
  · obtain rfl := lcd_r hk hv
    refine W.eq (g2 := F0 m 5 ls []) rfl ?_
    refine lv_goto (tgt := 14) hx hb dL_shadow_5 rfl ?_
    refine lv_iconst (v := 0) hx hb dL_shadow_14 (by decide) ?_
    exact l_rx0 X (Nat.le_refl _) hP hS dL_shadow_15
theorem ww_L_shadow : Cond.static yL_shadow ∈ BG ∧ Cond.initialized (yL_shadow).cls ∈ BG ∧ Cond.codeWith yL_shadow cL_shadow 3 (some .int) [(0, 5, 8, 21), (0, 5, 11, 15)] ∈ BG := ⟨w_832, w_143, w_833⟩
theorem hy_L_shadow : (yL_shadow).cls ≠ "java/lang/invoke/MethodHandle" ∧ (yL_shadow).cls ≠ "java/lang/invoke/VarHandle" ∧ (parseMethodDescriptor (yL_shadow).desc).map (fun d => d.parameters.length) = some 2 := ⟨by decide, by decide, by decide +kernel⟩
set_option maxRecDepth 20000 in
set_option maxHeartbeats 4000000 in
theorem K_L_put (l : Launch) (hl9 : l.stackTraces = false) (D : cD) (Φ : cG) (σ : cS) (x0 : Nat) (x1 : Int32) (x2 : Int32) (x3 : Int32) {q : (Nat ⊕ Unit) × cS} {v : Int32} (hrc : rc σ (some x0) 11 = some x0) (h : f_X11_put x0 x1 x2 x3 σ = some q) (hv : lcd [2, 1] q.1 = some v) : Met l yL_put (Cond.codeWith yL_put cL_put 5 (some .int) [(0, 7, 10, 21), (0, 7, 14, 15)] :: BG) (rA 8 4 24 137) (lPc0 D Φ σ [cv Φ (some x0), .int x1, .int x2, .int x3]) (lQ0 D Φ q v) 4 24 (cReg Φ) := by
  refine va_MetW (cc := cL_put) (maxL := 5) (ret := some .int) (hh := [(0, 7, 10, 21), (0, 7, 14, 15)]) (by decide) rfl ?_
  intro p e s m args below meth c s₁ B hml hv9
  obtain ⟨rfl, hP, hK, hZ, hN⟩ := hv9
  have X : cX p s m [cv Φ (some x0), .int x1, .int x2, .int x3].toArray meth c cL_put 5 (some .int) "CascaderyLaw" D Φ := cX_ofW B hml hK hZ
  have htab : c.exceptionTable.toList = tableOf [(0, 7, 10, 21), (0, 7, 14, 15)] := vx_table (x := yL_put) B (atoms_spec (ws := Cond.codeWith yL_put cL_put 5 (some .int) [(0, 7, 10, 21), (0, 7, 14, 15)] :: BG) B.pre _ List.mem_cons_self)
  have hx := X.1
  have hb := X.2.1
  have hown := X.2.2.2.1
  have hts := X.2.2.2.2.1
  have hl := lv_entry [cv Φ (some x0), .int x1, .int x2, .int x3] (n := 5) (by simp only [lgs_r, lgs_i, lgs_l, lgs_0, List.length]; exact Nat.le_of_ble_eq_true rfl)
  rw [lg_entry_eq]
  generalize (lg_sl [cv Φ (some x0), .int x1, .int x2, .int x3] ++ List.replicate (5 - (lg_sl [cv Φ (some x0), .int x1, .int x2, .int x3]).length) Slot.unset).toArray = ls at hl ⊢
  simp only [lv_args_r, lv_args_i, lv_args_l, lv_args_0] at hl
  have hl : lv_has ls 5 [(0, cv Φ (some x0)), (1, .int x1), (2, .int x2), (3, .int x3)] := hl
  show W p l e (rA 8 4 24 137) s m [cv Φ (some x0), .int x1, .int x2, .int x3].toArray below meth c s.heap [] 0 0 (MQ below (lQ0 D Φ q v) [cv Φ (some x0), .int x1, .int x2, .int x3].toArray s 4 24 (cReg Φ)) (F0 m 0 ls [])
  refine c_aload_n hx hb dL_put_0 rfl (lv_at hl 0 rfl) ?_
  refine lv_iload_n hx hb dL_put_1 rfl (lv_at hl 1 rfl) ?_
  refine lv_iload_n hx hb dL_put_2 rfl (lv_at hl 2 rfl) ?_
  refine lv_iload_n hx hb dL_put_3 rfl (lv_at hl 3 rfl) ?_
  refine l_call (c_tV (rest := []) X (K_X11_put l hl9 D Φ σ x0 x1 x2 x3 h) hrc (Nat.le_of_ble_eq_true rfl) ⟨w_914, ww_X11_put⟩ rfl hy_X11_put rfl ⟨(Nat.le_of_ble_eq_true rfl), (Nat.le_of_ble_eq_true rfl)⟩ hP va_S.rf hl.1 (Nat.le_of_ble_eq_true rfl) dL_put_4 rfl ⟨(Nat.le_of_ble_eq_true rfl), (Nat.le_of_ble_eq_true rfl)⟩) (fun k n q9 ce H locs hk hn hP hS hce hcv hcl => ?_) (fun u H locs hk hP hS => ?_)
  · have hc : lcdL [2, 1] k 1 = some v := lcd_l hk hv
    rcases lcd2 hc with ⟨rfl, rfl⟩ | ⟨rfl, rfl⟩
    · refine vx_catch (E := excN 2) (name := excN 2) hown (tableOf []) ⟨0, 7, 10, 21⟩ (tableOf [(0, 7, 14, 15)]) htab (l_pass (k := 2) X hN (by decide) (f := []) rfl (fun z hz => by cases hz)) (by decide) (by decide) (hts _ w_834) (va_Nw.use (cNest_on _ cn_11) (hK.2.2.1 _ cn_11)) hce hcv hcl ?_
      refine lv_astore hx hb dL_put_10 hl (Nat.le_of_ble_eq_true rfl) rfl (fun ls hl => ?_)
      refine lv_iconst (v := (1 : Int32)) hx hb dL_put_12 (by decide) ?_
      exact l_rx0 X hn hP hS dL_put_13
    · refine vx_catch (E := excN 1) (name := excN 1) hown (tableOf [(0, 7, 10, 21)]) ⟨0, 7, 14, 15⟩ (tableOf []) htab (l_pass (k := 1) X hN (by decide) (f := [(21, 2)]) rfl (fun z hz => by
      rw [List.mem_singleton.mp hz]
      exact ⟨by decide, by decide, by decide, w_834⟩)) (by decide) (by decide) (hts _ w_735) (va_Nw.use (cNest_on _ cn_10) (hK.2.2.1 _ cn_10)) hce hcv hcl ?_
      refine lv_astore hx hb dL_put_14 hl (Nat.le_of_ble_eq_true rfl) rfl (fun ls hl => ?_)
      refine lv_iconst (v := (1 + 1 : Int32)) hx hb dL_put_16 (by decide) ?_
      exact l_rx0 X hn hP hS dL_put_17
  · obtain rfl := lcd_r hk hv
    refine W.eq (g2 := F0 m 7 ls []) rfl ?_
    refine lv_goto (tgt := 18) hx hb dL_put_7 rfl ?_
    refine lv_iconst (v := 0) hx hb dL_put_18 (by decide) ?_
    exact l_rx0 X (Nat.le_refl _) hP hS dL_put_19
theorem ww_L_put : Cond.static yL_put ∈ BG ∧ Cond.initialized (yL_put).cls ∈ BG ∧ Cond.codeWith yL_put cL_put 5 (some .int) [(0, 7, 10, 21), (0, 7, 14, 15)] ∈ BG := ⟨w_912, w_143, w_913⟩
theorem hy_L_put : (yL_put).cls ≠ "java/lang/invoke/MethodHandle" ∧ (yL_put).cls ≠ "java/lang/invoke/VarHandle" ∧ (parseMethodDescriptor (yL_put).desc).map (fun d => d.parameters.length) = some 4 := ⟨by decide, by decide, by decide +kernel⟩
set_option maxRecDepth 20000 in
set_option maxHeartbeats 4000000 in
theorem K_L_putTop (l : Launch) (hl9 : l.stackTraces = false) (D : cD) (Φ : cG) (σ : cS) (x0 : Nat) (x1 : Int32) (x2 : Int32) (x3 : Int32) {q : (Nat ⊕ Unit) × cS} {v : Int32} (hrc : rc σ (some x0) 11 = some x0) (h : f_X11_putTop x0 x1 x2 x3 σ = some q) (hv : lcd [2, 1] q.1 = some v) : Met l yL_putTop (Cond.codeWith yL_putTop cL_putTop 5 (some .int) [(0, 7, 10, 21), (0, 7, 14, 15)] :: BG) (rA 8 4 24 137) (lPc0 D Φ σ [cv Φ (some x0), .int x1, .int x2, .int x3]) (lQ0 D Φ q v) 4 24 (cReg Φ) := by
  refine va_MetW (cc := cL_putTop) (maxL := 5) (ret := some .int) (hh := [(0, 7, 10, 21), (0, 7, 14, 15)]) (by decide) rfl ?_
  intro p e s m args below meth c s₁ B hml hv9
  obtain ⟨rfl, hP, hK, hZ, hN⟩ := hv9
  have X : cX p s m [cv Φ (some x0), .int x1, .int x2, .int x3].toArray meth c cL_putTop 5 (some .int) "CascaderyLaw" D Φ := cX_ofW B hml hK hZ
  have htab : c.exceptionTable.toList = tableOf [(0, 7, 10, 21), (0, 7, 14, 15)] := vx_table (x := yL_putTop) B (atoms_spec (ws := Cond.codeWith yL_putTop cL_putTop 5 (some .int) [(0, 7, 10, 21), (0, 7, 14, 15)] :: BG) B.pre _ List.mem_cons_self)
  have hx := X.1
  have hb := X.2.1
  have hown := X.2.2.2.1
  have hts := X.2.2.2.2.1
  have hl := lv_entry [cv Φ (some x0), .int x1, .int x2, .int x3] (n := 5) (by simp only [lgs_r, lgs_i, lgs_l, lgs_0, List.length]; exact Nat.le_of_ble_eq_true rfl)
  rw [lg_entry_eq]
  generalize (lg_sl [cv Φ (some x0), .int x1, .int x2, .int x3] ++ List.replicate (5 - (lg_sl [cv Φ (some x0), .int x1, .int x2, .int x3]).length) Slot.unset).toArray = ls at hl ⊢
  simp only [lv_args_r, lv_args_i, lv_args_l, lv_args_0] at hl
  have hl : lv_has ls 5 [(0, cv Φ (some x0)), (1, .int x1), (2, .int x2), (3, .int x3)] := hl
  show W p l e (rA 8 4 24 137) s m [cv Φ (some x0), .int x1, .int x2, .int x3].toArray below meth c s.heap [] 0 0 (MQ below (lQ0 D Φ q v) [cv Φ (some x0), .int x1, .int x2, .int x3].toArray s 4 24 (cReg Φ)) (F0 m 0 ls [])
  refine c_aload_n hx hb dL_putTop_0 rfl (lv_at hl 0 rfl) ?_
  refine lv_iload_n hx hb dL_putTop_1 rfl (lv_at hl 1 rfl) ?_
  refine lv_iload_n hx hb dL_putTop_2 rfl (lv_at hl 2 rfl) ?_
  refine lv_iload_n hx hb dL_putTop_3 rfl (lv_at hl 3 rfl) ?_
  refine l_call (c_tV (rest := []) X (K_X11_putTop l hl9 D Φ σ x0 x1 x2 x3 h) hrc (Nat.le_of_ble_eq_true rfl) ⟨w_953, ww_X11_putTop⟩ rfl hy_X11_putTop rfl ⟨(Nat.le_of_ble_eq_true rfl), (Nat.le_of_ble_eq_true rfl)⟩ hP va_S.rf hl.1 (Nat.le_of_ble_eq_true rfl) dL_putTop_4 rfl ⟨(Nat.le_of_ble_eq_true rfl), (Nat.le_of_ble_eq_true rfl)⟩) (fun k n q9 ce H locs hk hn hP hS hce hcv hcl => ?_) (fun u H locs hk hP hS => ?_)
  · have hc : lcdL [2, 1] k 1 = some v := lcd_l hk hv
    rcases lcd2 hc with ⟨rfl, rfl⟩ | ⟨rfl, rfl⟩
    · refine vx_catch (E := excN 2) (name := excN 2) hown (tableOf []) ⟨0, 7, 10, 21⟩ (tableOf [(0, 7, 14, 15)]) htab (l_pass (k := 2) X hN (by decide) (f := []) rfl (fun z hz => by cases hz)) (by decide) (by decide) (hts _ w_834) (va_Nw.use (cNest_on _ cn_11) (hK.2.2.1 _ cn_11)) hce hcv hcl ?_
      refine lv_astore hx hb dL_putTop_10 hl (Nat.le_of_ble_eq_true rfl) rfl (fun ls hl => ?_)
      refine lv_iconst (v := (1 : Int32)) hx hb dL_putTop_12 (by decide) ?_
      exact l_rx0 X hn hP hS dL_putTop_13
    · refine vx_catch (E := excN 1) (name := excN 1) hown (tableOf [(0, 7, 10, 21)]) ⟨0, 7, 14, 15⟩ (tableOf []) htab (l_pass (k := 1) X hN (by decide) (f := [(21, 2)]) rfl (fun z hz => by
      rw [List.mem_singleton.mp hz]
      exact ⟨by decide, by decide, by decide, w_834⟩)) (by decide) (by decide) (hts _ w_735) (va_Nw.use (cNest_on _ cn_10) (hK.2.2.1 _ cn_10)) hce hcv hcl ?_
      refine lv_astore hx hb dL_putTop_14 hl (Nat.le_of_ble_eq_true rfl) rfl (fun ls hl => ?_)
      refine lv_iconst (v := (1 + 1 : Int32)) hx hb dL_putTop_16 (by decide) ?_
      exact l_rx0 X hn hP hS dL_putTop_17
  · obtain rfl := lcd_r hk hv
    refine W.eq (g2 := F0 m 7 ls []) rfl ?_
    refine lv_goto (tgt := 18) hx hb dL_putTop_7 rfl ?_
    refine lv_iconst (v := 0) hx hb dL_putTop_18 (by decide) ?_
    exact l_rx0 X (Nat.le_refl _) hP hS dL_putTop_19
theorem ww_L_putTop : Cond.static yL_putTop ∈ BG ∧ Cond.initialized (yL_putTop).cls ∈ BG ∧ Cond.codeWith yL_putTop cL_putTop 5 (some .int) [(0, 7, 10, 21), (0, 7, 14, 15)] ∈ BG := ⟨w_951, w_143, w_952⟩
theorem hy_L_putTop : (yL_putTop).cls ≠ "java/lang/invoke/MethodHandle" ∧ (yL_putTop).cls ≠ "java/lang/invoke/VarHandle" ∧ (parseMethodDescriptor (yL_putTop).desc).map (fun d => d.parameters.length) = some 4 := ⟨by decide, by decide, by decide +kernel⟩
set_option maxRecDepth 20000 in
set_option maxHeartbeats 4000000 in
theorem K_L_take (l : Launch) (hl9 : l.stackTraces = false) (D : cD) (Φ : cG) (σ : cS) (o : Nat) (cL : ClassId) (w : Int64) (x0 : Nat) (x1 : Int32) {q : (Nat ⊕ Int32) × cS} {v : Int32} (hrc : rc σ (some x0) 11 = some x0) (h : f_X11_take x0 x1 σ = some q) (hv : lcd [2, 1] q.1 = some v) : Met l yL_take (Cond.codeWith yL_take cL_take 4 (some .int) [(0, 9, 12, 21), (0, 9, 15, 15)] :: BG) (rA 8 2 12 139) (lPc D Φ σ o cL w [cv Φ (some x0), .int x1, .ref o]) (lQ D Φ q o cL lvN v) 2 12 (lA Φ o) := by
  refine va_MetW (cc := cL_take) (maxL := 4) (ret := some .int) (hh := [(0, 9, 12, 21), (0, 9, 15, 15)]) (by decide) rfl ?_
  intro p e s m args below meth c s₁ B hml hv9
  obtain ⟨rfl, ⟨hP, hK, hZ, hN⟩, hAr, hO, ho, hi⟩ := hv9
  have X : cX p s m [cv Φ (some x0), .int x1, .ref o].toArray meth c cL_take 4 (some .int) "CascaderyLaw" D Φ := cX_ofW B hml hK hZ
  have htab : c.exceptionTable.toList = tableOf [(0, 9, 12, 21), (0, 9, 15, 15)] := vx_table (x := yL_take) B (atoms_spec (ws := Cond.codeWith yL_take cL_take 4 (some .int) [(0, 9, 12, 21), (0, 9, 15, 15)] :: BG) B.pre _ List.mem_cons_self)
  have hx := X.1
  have hb := X.2.1
  have hown := X.2.2.2.1
  have hts := X.2.2.2.2.1
  have hl := lv_entry [cv Φ (some x0), .int x1, .ref o] (n := 4) (by simp only [lgs_r, lgs_i, lgs_l, lgs_0, List.length]; exact Nat.le_of_ble_eq_true rfl)
  rw [lg_entry_eq]
  generalize (lg_sl [cv Φ (some x0), .int x1, .ref o] ++ List.replicate (4 - (lg_sl [cv Φ (some x0), .int x1, .ref o]).length) Slot.unset).toArray = ls at hl ⊢
  simp only [lv_args_r, lv_args_i, lv_args_l, lv_args_0] at hl
  have hl : lv_has ls 4 [(0, cv Φ (some x0)), (1, .int x1), (2, .ref o)] := hl
  show W p l e (rA 8 2 12 139) s m [cv Φ (some x0), .int x1, .ref o].toArray below meth c s.heap [] 0 0 (MQ below (lQ D Φ q o cL lvN v) [cv Φ (some x0), .int x1, .ref o].toArray s 2 12 (lA Φ o)) (F0 m 0 ls [])
  refine lv_aload_n hx hb dL_take_0 rfl (lv_at hl 2 rfl) ?_
  refine lv_iconst (v := 0) hx hb dL_take_1 (by decide) ?_
  refine c_aload_n hx hb dL_take_2 rfl (lv_at hl 0 rfl) ?_
  refine lv_iload_n hx hb dL_take_3 rfl (lv_at hl 1 rfl) ?_
  refine l_call (c_tV (rest := [.int 0, .ref o]) X (K_X11_take l hl9 D Φ σ x0 x1 h) hrc (Nat.le_of_ble_eq_true rfl) ⟨w_960, ww_X11_take⟩ rfl hy_X11_take rfl ⟨(Nat.le_of_ble_eq_true rfl), (Nat.le_of_ble_eq_true rfl)⟩ hP va_S.rf hl.1 (Nat.le_of_ble_eq_true rfl) dL_take_4 rfl ⟨(Nat.le_of_ble_eq_true rfl), (Nat.le_of_ble_eq_true rfl)⟩) (fun k n q9 ce H locs hk hn hP hS hce hcv hcl => ?_) (fun u H locs hk hP hS => ?_)
  · have hc : lcdL [2, 1] k 1 = some v := lcd_l hk hv
    rcases lcd2 hc with ⟨rfl, rfl⟩ | ⟨rfl, rfl⟩
    · refine vx_catch (E := excN 2) (name := excN 2) hown (tableOf []) ⟨0, 9, 12, 21⟩ (tableOf [(0, 9, 15, 15)]) htab (l_pass (k := 2) X hN (by decide) (f := []) rfl (fun z hz => by cases hz)) (by decide) (by decide) (hts _ w_834) (va_Nw.use (cNest_on _ cn_11) (hK.2.2.1 _ cn_11)) hce hcv hcl ?_
      refine lv_astore_n hx hb dL_take_12 rfl hl (Nat.le_of_ble_eq_true rfl) rfl (fun ls hl => ?_)
      refine lv_iconst (v := (1 : Int32)) hx hb dL_take_13 (by decide) ?_
      exact l_rx X hk hn hP hS hO ho dL_take_14
    · refine vx_catch (E := excN 1) (name := excN 1) hown (tableOf [(0, 9, 12, 21)]) ⟨0, 9, 15, 15⟩ (tableOf []) htab (l_pass (k := 1) X hN (by decide) (f := [(21, 2)]) rfl (fun z hz => by
      rw [List.mem_singleton.mp hz]
      exact ⟨by decide, by decide, by decide, w_834⟩)) (by decide) (by decide) (hts _ w_735) (va_Nw.use (cNest_on _ cn_10) (hK.2.2.1 _ cn_10)) hce hcv hcl ?_
      refine lv_astore_n hx hb dL_take_15 rfl hl (Nat.le_of_ble_eq_true rfl) rfl (fun ls hl => ?_)
      refine lv_iconst (v := (1 + 1 : Int32)) hx hb dL_take_16 (by decide) ?_
      exact l_rx X hk hn hP hS hO ho dL_take_17
  · obtain rfl := lcd_r hk hv
    refine W.eq (g2 := F0 m 7 ls [.int u, .int 0, .ref o]) rfl ?_
    refine lv_i2l hx hb dL_take_7 rfl ?_
    refine l_last (w := w) X hAr hP hS hO ho hi dL_take_8 (fun H locs hP hS hO => ?_)
    refine lv_goto (tgt := 18) hx hb dL_take_9 rfl ?_
    refine lv_iconst (v := 0) hx hb dL_take_18 (by decide) ?_
    exact l_rn X hk rfl hP hS hO dL_take_19
theorem ww_L_take : Cond.static yL_take ∈ BG ∧ Cond.initialized (yL_take).cls ∈ BG ∧ Cond.codeWith yL_take cL_take 4 (some .int) [(0, 9, 12, 21), (0, 9, 15, 15)] ∈ BG := ⟨w_958, w_143, w_959⟩
theorem hy_L_take : (yL_take).cls ≠ "java/lang/invoke/MethodHandle" ∧ (yL_take).cls ≠ "java/lang/invoke/VarHandle" ∧ (parseMethodDescriptor (yL_take).desc).map (fun d => d.parameters.length) = some 3 := ⟨by decide, by decide, by decide +kernel⟩
set_option maxRecDepth 20000 in
set_option maxHeartbeats 4000000 in
theorem K_L_setClass (l : Launch) (hl9 : l.stackTraces = false) (D : cD) (Φ : cG) (σ : cS) (o : Nat) (cL : ClassId) (w : Int64) (x0 : Nat) (x1 : Int32) (x2 : Int32) (x3 : Int32) {q : (Nat ⊕ Int32) × cS} {v : Int32} (hrc : rc σ (some x0) 11 = some x0) (h : f_X11_setClass x0 x1 x2 x3 σ = some q) (hv : lcd [2, 0] q.1 = some v) : Met l yL_setClass (Cond.codeWith yL_setClass cL_setClass 6 (some .int) [(0, 19, 22, 21), (0, 19, 26, 13)] :: BG) (rA 8 2 12 137) (lPc D Φ σ o cL w [cv Φ (some x0), .int x1, .int x2, .int x3, .ref o]) (lQ D Φ q o cL lvZ v) 2 12 (lA Φ o) := by
  refine va_MetW (cc := cL_setClass) (maxL := 6) (ret := some .int) (hh := [(0, 19, 22, 21), (0, 19, 26, 13)]) (by decide) rfl ?_
  intro p e s m args below meth c s₁ B hml hv9
  obtain ⟨rfl, ⟨hP, hK, hZ, hN⟩, hAr, hO, ho, hi⟩ := hv9
  have X : cX p s m [cv Φ (some x0), .int x1, .int x2, .int x3, .ref o].toArray meth c cL_setClass 6 (some .int) "CascaderyLaw" D Φ := cX_ofW B hml hK hZ
  have htab : c.exceptionTable.toList = tableOf [(0, 19, 22, 21), (0, 19, 26, 13)] := vx_table (x := yL_setClass) B (atoms_spec (ws := Cond.codeWith yL_setClass cL_setClass 6 (some .int) [(0, 19, 22, 21), (0, 19, 26, 13)] :: BG) B.pre _ List.mem_cons_self)
  have hx := X.1
  have hb := X.2.1
  have hown := X.2.2.2.1
  have hts := X.2.2.2.2.1
  have hl := lv_entry [cv Φ (some x0), .int x1, .int x2, .int x3, .ref o] (n := 6) (by simp only [lgs_r, lgs_i, lgs_l, lgs_0, List.length]; exact Nat.le_of_ble_eq_true rfl)
  rw [lg_entry_eq]
  generalize (lg_sl [cv Φ (some x0), .int x1, .int x2, .int x3, .ref o] ++ List.replicate (6 - (lg_sl [cv Φ (some x0), .int x1, .int x2, .int x3, .ref o]).length) Slot.unset).toArray = ls at hl ⊢
  simp only [lv_args_r, lv_args_i, lv_args_l, lv_args_0] at hl
  have hl : lv_has ls 6 [(0, cv Φ (some x0)), (1, .int x1), (2, .int x2), (3, .int x3), (4, .ref o)] := hl
  show W p l e (rA 8 2 12 137) s m [cv Φ (some x0), .int x1, .int x2, .int x3, .ref o].toArray below meth c s.heap [] 0 0 (MQ below (lQ D Φ q o cL lvZ v) [cv Φ (some x0), .int x1, .int x2, .int x3, .ref o].toArray s 2 12 (lA Φ o)) (F0 m 0 ls [])
  refine lv_aload hx hb dL_setClass_0 (lv_at hl 4 rfl) ?_
  refine lv_iconst (v := 0) hx hb dL_setClass_2 (by decide) ?_
  refine c_aload_n hx hb dL_setClass_3 rfl (lv_at hl 0 rfl) ?_
  refine lv_iload_n hx hb dL_setClass_4 rfl (lv_at hl 1 rfl) ?_
  refine lv_iload_n hx hb dL_setClass_5 rfl (lv_at hl 2 rfl) ?_
  refine lv_iload_n hx hb dL_setClass_6 rfl (lv_at hl 3 rfl) ?_
  refine l_call (c_tV (rest := [.int 0, .ref o]) X (K_X11_setClass l hl9 D Φ σ x0 x1 x2 x3 h) hrc (Nat.le_of_ble_eq_true rfl) ⟨w_971, ww_X11_setClass⟩ rfl hy_X11_setClass rfl ⟨(Nat.le_of_ble_eq_true rfl), (Nat.le_of_ble_eq_true rfl)⟩ hP va_S.rf hl.1 (Nat.le_of_ble_eq_true rfl) dL_setClass_7 rfl ⟨(Nat.le_of_ble_eq_true rfl), (Nat.le_of_ble_eq_true rfl)⟩) (fun k n q9 ce H locs hk hn hP hS hce hcv hcl => ?_) (fun u H locs hk hP hS => ?_)
  · have hc : lcdL [2, 0] k 1 = some v := lcd_l hk hv
    rcases lcd2 hc with ⟨rfl, rfl⟩ | ⟨rfl, rfl⟩
    · refine vx_catch (E := excN 2) (name := excN 2) hown (tableOf []) ⟨0, 19, 22, 21⟩ (tableOf [(0, 19, 26, 13)]) htab (l_pass (k := 2) X hN (by decide) (f := []) rfl (fun z hz => by cases hz)) (by decide) (by decide) (hts _ w_834) (va_Nw.use (cNest_on _ cn_11) (hK.2.2.1 _ cn_11)) hce hcv hcl ?_
      refine lv_astore hx hb dL_setClass_22 hl (Nat.le_of_ble_eq_true rfl) rfl (fun ls hl => ?_)
      refine lv_iconst (v := (1 : Int32)) hx hb dL_setClass_24 (by decide) ?_
      exact l_rx X hk hn hP hS hO ho dL_setClass_25
    · refine vx_catch (E := excN 0) (name := excN 0) hown (tableOf [(0, 19, 22, 21)]) ⟨0, 19, 26, 13⟩ (tableOf []) htab (l_pass (k := 0) X hN (by decide) (f := [(21, 2)]) rfl (fun z hz => by
      rw [List.mem_singleton.mp hz]
      exact ⟨by decide, by decide, by decide, w_834⟩)) (by decide) (by decide) (hts _ w_734) (va_Nw.use (cNest_on _ cn_9) (hK.2.2.1 _ cn_9)) hce hcv hcl ?_
      refine lv_astore hx hb dL_setClass_26 hl (Nat.le_of_ble_eq_true rfl) rfl (fun ls hl => ?_)
      refine lv_iconst (v := (1 + 1 : Int32)) hx hb dL_setClass_28 (by decide) ?_
      exact l_rx X hk hn hP hS hO ho dL_setClass_29
  · obtain rfl := lcd_r hk hv
    refine W.eq (g2 := F0 m 10 ls [.int u, .int 0, .ref o]) rfl ?_
    refine lv_if_eq (tgt := 17) hx hb dL_setClass_10 rfl (fun hz => ?_) (fun hz => ?_)
    · refine lv_lconst (v := 0) hx hb dL_setClass_17 (by decide) ?_
      refine l_last (w := w) X hAr hP hS hO ho hi dL_setClass_18 (fun H locs hP hS hO => ?_)
      refine lv_goto (tgt := 30) hx hb dL_setClass_19 rfl ?_
      refine lv_iconst (v := 0) hx hb dL_setClass_30 (by decide) ?_
      exact l_rn X hk (if_pos hz).symm hP hS hO dL_setClass_31
    · refine lv_lconst (v := 1) hx hb dL_setClass_13 (by decide) ?_
      refine lv_goto (tgt := 18) hx hb dL_setClass_14 rfl ?_
      refine l_last (w := w) X hAr hP hS hO ho hi dL_setClass_18 (fun H locs hP hS hO => ?_)
      refine lv_goto (tgt := 30) hx hb dL_setClass_19 rfl ?_
      refine lv_iconst (v := 0) hx hb dL_setClass_30 (by decide) ?_
      exact l_rn X hk (if_neg hz).symm hP hS hO dL_setClass_31
theorem ww_L_setClass : Cond.static yL_setClass ∈ BG ∧ Cond.initialized (yL_setClass).cls ∈ BG ∧ Cond.codeWith yL_setClass cL_setClass 6 (some .int) [(0, 19, 22, 21), (0, 19, 26, 13)] ∈ BG := ⟨w_969, w_143, w_970⟩
theorem hy_L_setClass : (yL_setClass).cls ≠ "java/lang/invoke/MethodHandle" ∧ (yL_setClass).cls ≠ "java/lang/invoke/VarHandle" ∧ (parseMethodDescriptor (yL_setClass).desc).map (fun d => d.parameters.length) = some 5 := ⟨by decide, by decide, by decide +kernel⟩
set_option maxRecDepth 20000 in
set_option maxHeartbeats 4000000 in
theorem K_L_setState (l : Launch) (hl9 : l.stackTraces = false) (D : cD) (Φ : cG) (σ : cS) (o : Nat) (cL : ClassId) (w : Int64) (x0 : Nat) (x1 : Int32) (x2 : Int32) (x3 : Int32) {q : (Nat ⊕ Int32) × cS} {v : Int32} (hrc : rc σ (some x0) 11 = some x0) (h : f_X11_setState x0 x1 x2 x3 σ = some q) (hv : lcd [2, 0] q.1 = some v) : Met l yL_setState (Cond.codeWith yL_setState cL_setState 6 (some .int) [(0, 19, 22, 21), (0, 19, 26, 13)] :: BG) (rA 8 2 12 137) (lPc D Φ σ o cL w [cv Φ (some x0), .int x1, .int x2, .int x3, .ref o]) (lQ D Φ q o cL lvZ v) 2 12 (lA Φ o) := by
  refine va_MetW (cc := cL_setState) (maxL := 6) (ret := some .int) (hh := [(0, 19, 22, 21), (0, 19, 26, 13)]) (by decide) rfl ?_
  intro p e s m args below meth c s₁ B hml hv9
  obtain ⟨rfl, ⟨hP, hK, hZ, hN⟩, hAr, hO, ho, hi⟩ := hv9
  have X : cX p s m [cv Φ (some x0), .int x1, .int x2, .int x3, .ref o].toArray meth c cL_setState 6 (some .int) "CascaderyLaw" D Φ := cX_ofW B hml hK hZ
  have htab : c.exceptionTable.toList = tableOf [(0, 19, 22, 21), (0, 19, 26, 13)] := vx_table (x := yL_setState) B (atoms_spec (ws := Cond.codeWith yL_setState cL_setState 6 (some .int) [(0, 19, 22, 21), (0, 19, 26, 13)] :: BG) B.pre _ List.mem_cons_self)
  have hx := X.1
  have hb := X.2.1
  have hown := X.2.2.2.1
  have hts := X.2.2.2.2.1
  have hl := lv_entry [cv Φ (some x0), .int x1, .int x2, .int x3, .ref o] (n := 6) (by simp only [lgs_r, lgs_i, lgs_l, lgs_0, List.length]; exact Nat.le_of_ble_eq_true rfl)
  rw [lg_entry_eq]
  generalize (lg_sl [cv Φ (some x0), .int x1, .int x2, .int x3, .ref o] ++ List.replicate (6 - (lg_sl [cv Φ (some x0), .int x1, .int x2, .int x3, .ref o]).length) Slot.unset).toArray = ls at hl ⊢
  simp only [lv_args_r, lv_args_i, lv_args_l, lv_args_0] at hl
  have hl : lv_has ls 6 [(0, cv Φ (some x0)), (1, .int x1), (2, .int x2), (3, .int x3), (4, .ref o)] := hl
  show W p l e (rA 8 2 12 137) s m [cv Φ (some x0), .int x1, .int x2, .int x3, .ref o].toArray below meth c s.heap [] 0 0 (MQ below (lQ D Φ q o cL lvZ v) [cv Φ (some x0), .int x1, .int x2, .int x3, .ref o].toArray s 2 12 (lA Φ o)) (F0 m 0 ls [])
  refine lv_aload hx hb dL_setState_0 (lv_at hl 4 rfl) ?_
  refine lv_iconst (v := 0) hx hb dL_setState_2 (by decide) ?_
  refine c_aload_n hx hb dL_setState_3 rfl (lv_at hl 0 rfl) ?_
  refine lv_iload_n hx hb dL_setState_4 rfl (lv_at hl 1 rfl) ?_
  refine lv_iload_n hx hb dL_setState_5 rfl (lv_at hl 2 rfl) ?_
  refine lv_iload_n hx hb dL_setState_6 rfl (lv_at hl 3 rfl) ?_
  refine l_call (c_tV (rest := [.int 0, .ref o]) X (K_X11_setState l hl9 D Φ σ x0 x1 x2 x3 h) hrc (Nat.le_of_ble_eq_true rfl) ⟨w_1000, ww_X11_setState⟩ rfl hy_X11_setState rfl ⟨(Nat.le_of_ble_eq_true rfl), (Nat.le_of_ble_eq_true rfl)⟩ hP va_S.rf hl.1 (Nat.le_of_ble_eq_true rfl) dL_setState_7 rfl ⟨(Nat.le_of_ble_eq_true rfl), (Nat.le_of_ble_eq_true rfl)⟩) (fun k n q9 ce H locs hk hn hP hS hce hcv hcl => ?_) (fun u H locs hk hP hS => ?_)
  · have hc : lcdL [2, 0] k 1 = some v := lcd_l hk hv
    rcases lcd2 hc with ⟨rfl, rfl⟩ | ⟨rfl, rfl⟩
    · refine vx_catch (E := excN 2) (name := excN 2) hown (tableOf []) ⟨0, 19, 22, 21⟩ (tableOf [(0, 19, 26, 13)]) htab (l_pass (k := 2) X hN (by decide) (f := []) rfl (fun z hz => by cases hz)) (by decide) (by decide) (hts _ w_834) (va_Nw.use (cNest_on _ cn_11) (hK.2.2.1 _ cn_11)) hce hcv hcl ?_
      refine lv_astore hx hb dL_setState_22 hl (Nat.le_of_ble_eq_true rfl) rfl (fun ls hl => ?_)
      refine lv_iconst (v := (1 : Int32)) hx hb dL_setState_24 (by decide) ?_
      exact l_rx X hk hn hP hS hO ho dL_setState_25
    · refine vx_catch (E := excN 0) (name := excN 0) hown (tableOf [(0, 19, 22, 21)]) ⟨0, 19, 26, 13⟩ (tableOf []) htab (l_pass (k := 0) X hN (by decide) (f := [(21, 2)]) rfl (fun z hz => by
      rw [List.mem_singleton.mp hz]
      exact ⟨by decide, by decide, by decide, w_834⟩)) (by decide) (by decide) (hts _ w_734) (va_Nw.use (cNest_on _ cn_9) (hK.2.2.1 _ cn_9)) hce hcv hcl ?_
      refine lv_astore hx hb dL_setState_26 hl (Nat.le_of_ble_eq_true rfl) rfl (fun ls hl => ?_)
      refine lv_iconst (v := (1 + 1 : Int32)) hx hb dL_setState_28 (by decide) ?_
      exact l_rx X hk hn hP hS hO ho dL_setState_29
  · obtain rfl := lcd_r hk hv
    refine W.eq (g2 := F0 m 10 ls [.int u, .int 0, .ref o]) rfl ?_
    refine lv_if_eq (tgt := 17) hx hb dL_setState_10 rfl (fun hz => ?_) (fun hz => ?_)
    · refine lv_lconst (v := 0) hx hb dL_setState_17 (by decide) ?_
      refine l_last (w := w) X hAr hP hS hO ho hi dL_setState_18 (fun H locs hP hS hO => ?_)
      refine lv_goto (tgt := 30) hx hb dL_setState_19 rfl ?_
      refine lv_iconst (v := 0) hx hb dL_setState_30 (by decide) ?_
      exact l_rn X hk (if_pos hz).symm hP hS hO dL_setState_31
    · refine lv_lconst (v := 1) hx hb dL_setState_13 (by decide) ?_
      refine lv_goto (tgt := 18) hx hb dL_setState_14 rfl ?_
      refine l_last (w := w) X hAr hP hS hO ho hi dL_setState_18 (fun H locs hP hS hO => ?_)
      refine lv_goto (tgt := 30) hx hb dL_setState_19 rfl ?_
      refine lv_iconst (v := 0) hx hb dL_setState_30 (by decide) ?_
      exact l_rn X hk (if_neg hz).symm hP hS hO dL_setState_31
theorem ww_L_setState : Cond.static yL_setState ∈ BG ∧ Cond.initialized (yL_setState).cls ∈ BG ∧ Cond.codeWith yL_setState cL_setState 6 (some .int) [(0, 19, 22, 21), (0, 19, 26, 13)] ∈ BG := ⟨w_998, w_143, w_999⟩
theorem hy_L_setState : (yL_setState).cls ≠ "java/lang/invoke/MethodHandle" ∧ (yL_setState).cls ≠ "java/lang/invoke/VarHandle" ∧ (parseMethodDescriptor (yL_setState).desc).map (fun d => d.parameters.length) = some 5 := ⟨by decide, by decide, by decide +kernel⟩
set_option maxRecDepth 20000 in
set_option maxHeartbeats 4000000 in
theorem K_L_setAttribute (l : Launch) (hl9 : l.stackTraces = false) (D : cD) (Φ : cG) (σ : cS) (o : Nat) (cL : ClassId) (w : Int64) (x0 : Nat) (x1 : Int32) (x2 : Int32) (x3 : Int32) {q : (Nat ⊕ Int32) × cS} {v : Int32} (hrc : rc σ (some x0) 11 = some x0) (h : f_X11_setAttribute x0 x1 x2 x3 σ = some q) (hv : lcd [2, 0] q.1 = some v) : Met l yL_setAttribute (Cond.codeWith yL_setAttribute cL_setAttribute 6 (some .int) [(0, 12, 15, 21), (0, 12, 19, 13)] :: BG) (rA 8 2 12 137) (lPc D Φ σ o cL w [cv Φ (some x0), .int x1, .int x2, .int x3, .ref o]) (lQ D Φ q o cL lvN v) 2 12 (lA Φ o) := by
  refine va_MetW (cc := cL_setAttribute) (maxL := 6) (ret := some .int) (hh := [(0, 12, 15, 21), (0, 12, 19, 13)]) (by decide) rfl ?_
  intro p e s m args below meth c s₁ B hml hv9
  obtain ⟨rfl, ⟨hP, hK, hZ, hN⟩, hAr, hO, ho, hi⟩ := hv9
  have X : cX p s m [cv Φ (some x0), .int x1, .int x2, .int x3, .ref o].toArray meth c cL_setAttribute 6 (some .int) "CascaderyLaw" D Φ := cX_ofW B hml hK hZ
  have htab : c.exceptionTable.toList = tableOf [(0, 12, 15, 21), (0, 12, 19, 13)] := vx_table (x := yL_setAttribute) B (atoms_spec (ws := Cond.codeWith yL_setAttribute cL_setAttribute 6 (some .int) [(0, 12, 15, 21), (0, 12, 19, 13)] :: BG) B.pre _ List.mem_cons_self)
  have hx := X.1
  have hb := X.2.1
  have hown := X.2.2.2.1
  have hts := X.2.2.2.2.1
  have hl := lv_entry [cv Φ (some x0), .int x1, .int x2, .int x3, .ref o] (n := 6) (by simp only [lgs_r, lgs_i, lgs_l, lgs_0, List.length]; exact Nat.le_of_ble_eq_true rfl)
  rw [lg_entry_eq]
  generalize (lg_sl [cv Φ (some x0), .int x1, .int x2, .int x3, .ref o] ++ List.replicate (6 - (lg_sl [cv Φ (some x0), .int x1, .int x2, .int x3, .ref o]).length) Slot.unset).toArray = ls at hl ⊢
  simp only [lv_args_r, lv_args_i, lv_args_l, lv_args_0] at hl
  have hl : lv_has ls 6 [(0, cv Φ (some x0)), (1, .int x1), (2, .int x2), (3, .int x3), (4, .ref o)] := hl
  show W p l e (rA 8 2 12 137) s m [cv Φ (some x0), .int x1, .int x2, .int x3, .ref o].toArray below meth c s.heap [] 0 0 (MQ below (lQ D Φ q o cL lvN v) [cv Φ (some x0), .int x1, .int x2, .int x3, .ref o].toArray s 2 12 (lA Φ o)) (F0 m 0 ls [])
  refine lv_aload hx hb dL_setAttribute_0 (lv_at hl 4 rfl) ?_
  refine lv_iconst (v := 0) hx hb dL_setAttribute_2 (by decide) ?_
  refine c_aload_n hx hb dL_setAttribute_3 rfl (lv_at hl 0 rfl) ?_
  refine lv_iload_n hx hb dL_setAttribute_4 rfl (lv_at hl 1 rfl) ?_
  refine lv_iload_n hx hb dL_setAttribute_5 rfl (lv_at hl 2 rfl) ?_
  refine lv_iload_n hx hb dL_setAttribute_6 rfl (lv_at hl 3 rfl) ?_
  refine l_call (c_tV (rest := [.int 0, .ref o]) X (K_X11_setAttribute l hl9 D Φ σ x0 x1 x2 x3 h) hrc (Nat.le_of_ble_eq_true rfl) ⟨w_1007, ww_X11_setAttribute⟩ rfl hy_X11_setAttribute rfl ⟨(Nat.le_of_ble_eq_true rfl), (Nat.le_of_ble_eq_true rfl)⟩ hP va_S.rf hl.1 (Nat.le_of_ble_eq_true rfl) dL_setAttribute_7 rfl ⟨(Nat.le_of_ble_eq_true rfl), (Nat.le_of_ble_eq_true rfl)⟩) (fun k n q9 ce H locs hk hn hP hS hce hcv hcl => ?_) (fun u H locs hk hP hS => ?_)
  · have hc : lcdL [2, 0] k 1 = some v := lcd_l hk hv
    rcases lcd2 hc with ⟨rfl, rfl⟩ | ⟨rfl, rfl⟩
    · refine vx_catch (E := excN 2) (name := excN 2) hown (tableOf []) ⟨0, 12, 15, 21⟩ (tableOf [(0, 12, 19, 13)]) htab (l_pass (k := 2) X hN (by decide) (f := []) rfl (fun z hz => by cases hz)) (by decide) (by decide) (hts _ w_834) (va_Nw.use (cNest_on _ cn_11) (hK.2.2.1 _ cn_11)) hce hcv hcl ?_
      refine lv_astore hx hb dL_setAttribute_15 hl (Nat.le_of_ble_eq_true rfl) rfl (fun ls hl => ?_)
      refine lv_iconst (v := (1 : Int32)) hx hb dL_setAttribute_17 (by decide) ?_
      exact l_rx X hk hn hP hS hO ho dL_setAttribute_18
    · refine vx_catch (E := excN 0) (name := excN 0) hown (tableOf [(0, 12, 15, 21)]) ⟨0, 12, 19, 13⟩ (tableOf []) htab (l_pass (k := 0) X hN (by decide) (f := [(21, 2)]) rfl (fun z hz => by
      rw [List.mem_singleton.mp hz]
      exact ⟨by decide, by decide, by decide, w_834⟩)) (by decide) (by decide) (hts _ w_734) (va_Nw.use (cNest_on _ cn_9) (hK.2.2.1 _ cn_9)) hce hcv hcl ?_
      refine lv_astore hx hb dL_setAttribute_19 hl (Nat.le_of_ble_eq_true rfl) rfl (fun ls hl => ?_)
      refine lv_iconst (v := (1 + 1 : Int32)) hx hb dL_setAttribute_21 (by decide) ?_
      exact l_rx X hk hn hP hS hO ho dL_setAttribute_22
  · obtain rfl := lcd_r hk hv
    refine W.eq (g2 := F0 m 10 ls [.int u, .int 0, .ref o]) rfl ?_
    refine lv_i2l hx hb dL_setAttribute_10 rfl ?_
    refine l_last (w := w) X hAr hP hS hO ho hi dL_setAttribute_11 (fun H locs hP hS hO => ?_)
    refine lv_goto (tgt := 23) hx hb dL_setAttribute_12 rfl ?_
    refine lv_iconst (v := 0) hx hb dL_setAttribute_23 (by decide) ?_
    exact l_rn X hk rfl hP hS hO dL_setAttribute_24
theorem ww_L_setAttribute : Cond.static yL_setAttribute ∈ BG ∧ Cond.initialized (yL_setAttribute).cls ∈ BG ∧ Cond.codeWith yL_setAttribute cL_setAttribute 6 (some .int) [(0, 12, 15, 21), (0, 12, 19, 13)] ∈ BG := ⟨w_1005, w_143, w_1006⟩
theorem hy_L_setAttribute : (yL_setAttribute).cls ≠ "java/lang/invoke/MethodHandle" ∧ (yL_setAttribute).cls ≠ "java/lang/invoke/VarHandle" ∧ (parseMethodDescriptor (yL_setAttribute).desc).map (fun d => d.parameters.length) = some 5 := ⟨by decide, by decide, by decide +kernel⟩
set_option maxRecDepth 20000 in
set_option maxHeartbeats 4000000 in
theorem K_L_setPart (l : Launch) (hl9 : l.stackTraces = false) (D : cD) (Φ : cG) (σ : cS) (o : Nat) (cL : ClassId) (w : Int64) (x0 : Nat) (x1 : Int32) (x2 : Int32) {q : (Nat ⊕ Int32) × cS} {v : Int32} (hrc : rc σ (some x0) 11 = some x0) (h : f_X11_setPart x0 x1 x2 σ = some q) (hv : lcd [2, 0] q.1 = some v) : Met l yL_setPart (Cond.codeWith yL_setPart cL_setPart 5 (some .int) [(0, 10, 13, 21), (0, 10, 17, 13)] :: BG) (rA 8 2 12 136) (lPc D Φ σ o cL w [cv Φ (some x0), .int x1, .int x2, .ref o]) (lQ D Φ q o cL lvN v) 2 12 (lA Φ o) := by
  refine va_MetW (cc := cL_setPart) (maxL := 5) (ret := some .int) (hh := [(0, 10, 13, 21), (0, 10, 17, 13)]) (by decide) rfl ?_
  intro p e s m args below meth c s₁ B hml hv9
  obtain ⟨rfl, ⟨hP, hK, hZ, hN⟩, hAr, hO, ho, hi⟩ := hv9
  have X : cX p s m [cv Φ (some x0), .int x1, .int x2, .ref o].toArray meth c cL_setPart 5 (some .int) "CascaderyLaw" D Φ := cX_ofW B hml hK hZ
  have htab : c.exceptionTable.toList = tableOf [(0, 10, 13, 21), (0, 10, 17, 13)] := vx_table (x := yL_setPart) B (atoms_spec (ws := Cond.codeWith yL_setPart cL_setPart 5 (some .int) [(0, 10, 13, 21), (0, 10, 17, 13)] :: BG) B.pre _ List.mem_cons_self)
  have hx := X.1
  have hb := X.2.1
  have hown := X.2.2.2.1
  have hts := X.2.2.2.2.1
  have hl := lv_entry [cv Φ (some x0), .int x1, .int x2, .ref o] (n := 5) (by simp only [lgs_r, lgs_i, lgs_l, lgs_0, List.length]; exact Nat.le_of_ble_eq_true rfl)
  rw [lg_entry_eq]
  generalize (lg_sl [cv Φ (some x0), .int x1, .int x2, .ref o] ++ List.replicate (5 - (lg_sl [cv Φ (some x0), .int x1, .int x2, .ref o]).length) Slot.unset).toArray = ls at hl ⊢
  simp only [lv_args_r, lv_args_i, lv_args_l, lv_args_0] at hl
  have hl : lv_has ls 5 [(0, cv Φ (some x0)), (1, .int x1), (2, .int x2), (3, .ref o)] := hl
  show W p l e (rA 8 2 12 136) s m [cv Φ (some x0), .int x1, .int x2, .ref o].toArray below meth c s.heap [] 0 0 (MQ below (lQ D Φ q o cL lvN v) [cv Φ (some x0), .int x1, .int x2, .ref o].toArray s 2 12 (lA Φ o)) (F0 m 0 ls [])
  refine lv_aload_n hx hb dL_setPart_0 rfl (lv_at hl 3 rfl) ?_
  refine lv_iconst (v := 0) hx hb dL_setPart_1 (by decide) ?_
  refine c_aload_n hx hb dL_setPart_2 rfl (lv_at hl 0 rfl) ?_
  refine lv_iload_n hx hb dL_setPart_3 rfl (lv_at hl 1 rfl) ?_
  refine lv_iload_n hx hb dL_setPart_4 rfl (lv_at hl 2 rfl) ?_
  refine l_call (c_tV (rest := [.int 0, .ref o]) X (K_X11_setPart l hl9 D Φ σ x0 x1 x2 h) hrc (Nat.le_of_ble_eq_true rfl) ⟨w_1014, ww_X11_setPart⟩ rfl hy_X11_setPart rfl ⟨(Nat.le_of_ble_eq_true rfl), (Nat.le_of_ble_eq_true rfl)⟩ hP va_S.rf hl.1 (Nat.le_of_ble_eq_true rfl) dL_setPart_5 rfl ⟨(Nat.le_of_ble_eq_true rfl), (Nat.le_of_ble_eq_true rfl)⟩) (fun k n q9 ce H locs hk hn hP hS hce hcv hcl => ?_) (fun u H locs hk hP hS => ?_)
  · have hc : lcdL [2, 0] k 1 = some v := lcd_l hk hv
    rcases lcd2 hc with ⟨rfl, rfl⟩ | ⟨rfl, rfl⟩
    · refine vx_catch (E := excN 2) (name := excN 2) hown (tableOf []) ⟨0, 10, 13, 21⟩ (tableOf [(0, 10, 17, 13)]) htab (l_pass (k := 2) X hN (by decide) (f := []) rfl (fun z hz => by cases hz)) (by decide) (by decide) (hts _ w_834) (va_Nw.use (cNest_on _ cn_11) (hK.2.2.1 _ cn_11)) hce hcv hcl ?_
      refine lv_astore hx hb dL_setPart_13 hl (Nat.le_of_ble_eq_true rfl) rfl (fun ls hl => ?_)
      refine lv_iconst (v := (1 : Int32)) hx hb dL_setPart_15 (by decide) ?_
      exact l_rx X hk hn hP hS hO ho dL_setPart_16
    · refine vx_catch (E := excN 0) (name := excN 0) hown (tableOf [(0, 10, 13, 21)]) ⟨0, 10, 17, 13⟩ (tableOf []) htab (l_pass (k := 0) X hN (by decide) (f := [(21, 2)]) rfl (fun z hz => by
      rw [List.mem_singleton.mp hz]
      exact ⟨by decide, by decide, by decide, w_834⟩)) (by decide) (by decide) (hts _ w_734) (va_Nw.use (cNest_on _ cn_9) (hK.2.2.1 _ cn_9)) hce hcv hcl ?_
      refine lv_astore hx hb dL_setPart_17 hl (Nat.le_of_ble_eq_true rfl) rfl (fun ls hl => ?_)
      refine lv_iconst (v := (1 + 1 : Int32)) hx hb dL_setPart_19 (by decide) ?_
      exact l_rx X hk hn hP hS hO ho dL_setPart_20
  · obtain rfl := lcd_r hk hv
    refine W.eq (g2 := F0 m 8 ls [.int u, .int 0, .ref o]) rfl ?_
    refine lv_i2l hx hb dL_setPart_8 rfl ?_
    refine l_last (w := w) X hAr hP hS hO ho hi dL_setPart_9 (fun H locs hP hS hO => ?_)
    refine lv_goto (tgt := 21) hx hb dL_setPart_10 rfl ?_
    refine lv_iconst (v := 0) hx hb dL_setPart_21 (by decide) ?_
    exact l_rn X hk rfl hP hS hO dL_setPart_22
theorem ww_L_setPart : Cond.static yL_setPart ∈ BG ∧ Cond.initialized (yL_setPart).cls ∈ BG ∧ Cond.codeWith yL_setPart cL_setPart 5 (some .int) [(0, 10, 13, 21), (0, 10, 17, 13)] ∈ BG := ⟨w_1012, w_143, w_1013⟩
theorem hy_L_setPart : (yL_setPart).cls ≠ "java/lang/invoke/MethodHandle" ∧ (yL_setPart).cls ≠ "java/lang/invoke/VarHandle" ∧ (parseMethodDescriptor (yL_setPart).desc).map (fun d => d.parameters.length) = some 4 := ⟨by decide, by decide, by decide +kernel⟩
set_option maxRecDepth 20000 in
set_option maxHeartbeats 4000000 in
theorem K_L_shownParent (l : Launch) (hl9 : l.stackTraces = false) (D : cD) (Φ : cG) (σ : cS) (o : Nat) (cL : ClassId) (w : Int64) (x0 : Nat) (x1 : Int32) {q : (Nat ⊕ Int32) × cS} {v : Int32} (hrc : rc σ (some x0) 11 = some x0) (h : f_X11_shownParent x0 x1 σ = some q) (hv : lcd [2] q.1 = some v) : Met l yL_shownParent (Cond.codeWith yL_shownParent cL_shownParent 4 (some .int) [(0, 9, 12, 21)] :: BG) (rA 8 1 6 134) (lPc D Φ σ o cL w [cv Φ (some x0), .int x1, .ref o]) (lQ D Φ q o cL lvN v) 1 6 (lA Φ o) := by
  refine va_MetW (cc := cL_shownParent) (maxL := 4) (ret := some .int) (hh := [(0, 9, 12, 21)]) (by decide) rfl ?_
  intro p e s m args below meth c s₁ B hml hv9
  obtain ⟨rfl, ⟨hP, hK, hZ, hN⟩, hAr, hO, ho, hi⟩ := hv9
  have X : cX p s m [cv Φ (some x0), .int x1, .ref o].toArray meth c cL_shownParent 4 (some .int) "CascaderyLaw" D Φ := cX_ofW B hml hK hZ
  have htab : c.exceptionTable.toList = tableOf [(0, 9, 12, 21)] := vx_table (x := yL_shownParent) B (atoms_spec (ws := Cond.codeWith yL_shownParent cL_shownParent 4 (some .int) [(0, 9, 12, 21)] :: BG) B.pre _ List.mem_cons_self)
  have hx := X.1
  have hb := X.2.1
  have hown := X.2.2.2.1
  have hts := X.2.2.2.2.1
  have hl := lv_entry [cv Φ (some x0), .int x1, .ref o] (n := 4) (by simp only [lgs_r, lgs_i, lgs_l, lgs_0, List.length]; exact Nat.le_of_ble_eq_true rfl)
  rw [lg_entry_eq]
  generalize (lg_sl [cv Φ (some x0), .int x1, .ref o] ++ List.replicate (4 - (lg_sl [cv Φ (some x0), .int x1, .ref o]).length) Slot.unset).toArray = ls at hl ⊢
  simp only [lv_args_r, lv_args_i, lv_args_l, lv_args_0] at hl
  have hl : lv_has ls 4 [(0, cv Φ (some x0)), (1, .int x1), (2, .ref o)] := hl
  show W p l e (rA 8 1 6 134) s m [cv Φ (some x0), .int x1, .ref o].toArray below meth c s.heap [] 0 0 (MQ below (lQ D Φ q o cL lvN v) [cv Φ (some x0), .int x1, .ref o].toArray s 1 6 (lA Φ o)) (F0 m 0 ls [])
  refine lv_aload_n hx hb dL_shownParent_0 rfl (lv_at hl 2 rfl) ?_
  refine lv_iconst (v := 0) hx hb dL_shownParent_1 (by decide) ?_
  refine c_aload_n hx hb dL_shownParent_2 rfl (lv_at hl 0 rfl) ?_
  refine lv_iload_n hx hb dL_shownParent_3 rfl (lv_at hl 1 rfl) ?_
  refine l_call (c_tV (rest := [.int 0, .ref o]) X (K_X11_shownParent l hl9 D Φ σ x0 x1 h) hrc (Nat.le_of_ble_eq_true rfl) ⟨w_1021, ww_X11_shownParent⟩ rfl hy_X11_shownParent rfl ⟨(Nat.le_of_ble_eq_true rfl), (Nat.le_of_ble_eq_true rfl)⟩ hP va_S.rf hl.1 (Nat.le_of_ble_eq_true rfl) dL_shownParent_4 rfl ⟨(Nat.le_of_ble_eq_true rfl), (Nat.le_of_ble_eq_true rfl)⟩) (fun k n q9 ce H locs hk hn hP hS hce hcv hcl => ?_) (fun u H locs hk hP hS => ?_)
  · have hc : lcdL [2] k 1 = some v := lcd_l hk hv
    obtain ⟨rfl, rfl⟩ := lcd1 hc
    refine vx_catch (E := excN 2) (name := excN 2) hown (tableOf []) ⟨0, 9, 12, 21⟩ (tableOf []) htab (l_pass (k := 2) X hN (by decide) (f := []) rfl (fun z hz => by cases hz)) (by decide) (by decide) (hts _ w_834) (va_Nw.use (cNest_on _ cn_11) (hK.2.2.1 _ cn_11)) hce hcv hcl ?_
    refine lv_astore_n hx hb dL_shownParent_12 rfl hl (Nat.le_of_ble_eq_true rfl) rfl (fun ls hl => ?_)
    refine lv_iconst (v := (1 : Int32)) hx hb dL_shownParent_13 (by decide) ?_
    exact l_rx X hk hn hP hS hO ho dL_shownParent_14
  · obtain rfl := lcd_r hk hv
    refine W.eq (g2 := F0 m 7 ls [.int u, .int 0, .ref o]) rfl ?_
    refine lv_i2l hx hb dL_shownParent_7 rfl ?_
    refine l_last (w := w) X hAr hP hS hO ho hi dL_shownParent_8 (fun H locs hP hS hO => ?_)
    refine lv_goto (tgt := 15) hx hb dL_shownParent_9 rfl ?_
    refine lv_iconst (v := 0) hx hb dL_shownParent_15 (by decide) ?_
    exact l_rn X hk rfl hP hS hO dL_shownParent_16
theorem ww_L_shownParent : Cond.static yL_shownParent ∈ BG ∧ Cond.initialized (yL_shownParent).cls ∈ BG ∧ Cond.codeWith yL_shownParent cL_shownParent 4 (some .int) [(0, 9, 12, 21)] ∈ BG := ⟨w_1019, w_143, w_1020⟩
theorem hy_L_shownParent : (yL_shownParent).cls ≠ "java/lang/invoke/MethodHandle" ∧ (yL_shownParent).cls ≠ "java/lang/invoke/VarHandle" ∧ (parseMethodDescriptor (yL_shownParent).desc).map (fun d => d.parameters.length) = some 3 := ⟨by decide, by decide, by decide +kernel⟩
set_option maxRecDepth 20000 in
set_option maxHeartbeats 4000000 in
theorem K_L_isIn (l : Launch) (hl9 : l.stackTraces = false) (D : cD) (Φ : cG) (σ : cS) (o : Nat) (cL : ClassId) (w : Int64) (x0 : Nat) (x1 : Int32) {q : (Nat ⊕ Int32) × cS} {v : Int32} (hrc : rc σ (some x0) 11 = some x0) (h : f_X11_isIn x0 x1 σ = some q) (hv : lcd [2] q.1 = some v) : Met l yL_isIn (Cond.codeWith yL_isIn cL_isIn 4 (some .int) [(0, 16, 19, 21)] :: BG) (rA 8 1 6 133) (lPc D Φ σ o cL w [cv Φ (some x0), .int x1, .ref o]) (lQ D Φ q o cL lvZ v) 1 6 (lA Φ o) := by
  refine va_MetW (cc := cL_isIn) (maxL := 4) (ret := some .int) (hh := [(0, 16, 19, 21)]) (by decide) rfl ?_
  intro p e s m args below meth c s₁ B hml hv9
  obtain ⟨rfl, ⟨hP, hK, hZ, hN⟩, hAr, hO, ho, hi⟩ := hv9
  have X : cX p s m [cv Φ (some x0), .int x1, .ref o].toArray meth c cL_isIn 4 (some .int) "CascaderyLaw" D Φ := cX_ofW B hml hK hZ
  have htab : c.exceptionTable.toList = tableOf [(0, 16, 19, 21)] := vx_table (x := yL_isIn) B (atoms_spec (ws := Cond.codeWith yL_isIn cL_isIn 4 (some .int) [(0, 16, 19, 21)] :: BG) B.pre _ List.mem_cons_self)
  have hx := X.1
  have hb := X.2.1
  have hown := X.2.2.2.1
  have hts := X.2.2.2.2.1
  have hl := lv_entry [cv Φ (some x0), .int x1, .ref o] (n := 4) (by simp only [lgs_r, lgs_i, lgs_l, lgs_0, List.length]; exact Nat.le_of_ble_eq_true rfl)
  rw [lg_entry_eq]
  generalize (lg_sl [cv Φ (some x0), .int x1, .ref o] ++ List.replicate (4 - (lg_sl [cv Φ (some x0), .int x1, .ref o]).length) Slot.unset).toArray = ls at hl ⊢
  simp only [lv_args_r, lv_args_i, lv_args_l, lv_args_0] at hl
  have hl : lv_has ls 4 [(0, cv Φ (some x0)), (1, .int x1), (2, .ref o)] := hl
  show W p l e (rA 8 1 6 133) s m [cv Φ (some x0), .int x1, .ref o].toArray below meth c s.heap [] 0 0 (MQ below (lQ D Φ q o cL lvZ v) [cv Φ (some x0), .int x1, .ref o].toArray s 1 6 (lA Φ o)) (F0 m 0 ls [])
  refine lv_aload_n hx hb dL_isIn_0 rfl (lv_at hl 2 rfl) ?_
  refine lv_iconst (v := 0) hx hb dL_isIn_1 (by decide) ?_
  refine c_aload_n hx hb dL_isIn_2 rfl (lv_at hl 0 rfl) ?_
  refine lv_iload_n hx hb dL_isIn_3 rfl (lv_at hl 1 rfl) ?_
  refine l_call (c_tV (rest := [.int 0, .ref o]) X (K_X11_isIn l hl9 D Φ σ x0 x1 h) hrc (Nat.le_of_ble_eq_true rfl) ⟨w_1028, ww_X11_isIn⟩ rfl hy_X11_isIn rfl ⟨(Nat.le_of_ble_eq_true rfl), (Nat.le_of_ble_eq_true rfl)⟩ hP va_S.rf hl.1 (Nat.le_of_ble_eq_true rfl) dL_isIn_4 rfl ⟨(Nat.le_of_ble_eq_true rfl), (Nat.le_of_ble_eq_true rfl)⟩) (fun k n q9 ce H locs hk hn hP hS hce hcv hcl => ?_) (fun u H locs hk hP hS => ?_)
  · have hc : lcdL [2] k 1 = some v := lcd_l hk hv
    obtain ⟨rfl, rfl⟩ := lcd1 hc
    refine vx_catch (E := excN 2) (name := excN 2) hown (tableOf []) ⟨0, 16, 19, 21⟩ (tableOf []) htab (l_pass (k := 2) X hN (by decide) (f := []) rfl (fun z hz => by cases hz)) (by decide) (by decide) (hts _ w_834) (va_Nw.use (cNest_on _ cn_11) (hK.2.2.1 _ cn_11)) hce hcv hcl ?_
    refine lv_astore_n hx hb dL_isIn_19 rfl hl (Nat.le_of_ble_eq_true rfl) rfl (fun ls hl => ?_)
    refine lv_iconst (v := (1 : Int32)) hx hb dL_isIn_20 (by decide) ?_
    exact l_rx X hk hn hP hS hO ho dL_isIn_21
  · obtain rfl := lcd_r hk hv
    refine W.eq (g2 := F0 m 7 ls [.int u, .int 0, .ref o]) rfl ?_
    refine lv_if_eq (tgt := 14) hx hb dL_isIn_7 rfl (fun hz => ?_) (fun hz => ?_)
    · refine lv_lconst (v := 0) hx hb dL_isIn_14 (by decide) ?_
      refine l_last (w := w) X hAr hP hS hO ho hi dL_isIn_15 (fun H locs hP hS hO => ?_)
      refine lv_goto (tgt := 22) hx hb dL_isIn_16 rfl ?_
      refine lv_iconst (v := 0) hx hb dL_isIn_22 (by decide) ?_
      exact l_rn X hk (if_pos hz).symm hP hS hO dL_isIn_23
    · refine lv_lconst (v := 1) hx hb dL_isIn_10 (by decide) ?_
      refine lv_goto (tgt := 15) hx hb dL_isIn_11 rfl ?_
      refine l_last (w := w) X hAr hP hS hO ho hi dL_isIn_15 (fun H locs hP hS hO => ?_)
      refine lv_goto (tgt := 22) hx hb dL_isIn_16 rfl ?_
      refine lv_iconst (v := 0) hx hb dL_isIn_22 (by decide) ?_
      exact l_rn X hk (if_neg hz).symm hP hS hO dL_isIn_23
theorem ww_L_isIn : Cond.static yL_isIn ∈ BG ∧ Cond.initialized (yL_isIn).cls ∈ BG ∧ Cond.codeWith yL_isIn cL_isIn 4 (some .int) [(0, 16, 19, 21)] ∈ BG := ⟨w_1026, w_143, w_1027⟩
theorem hy_L_isIn : (yL_isIn).cls ≠ "java/lang/invoke/MethodHandle" ∧ (yL_isIn).cls ≠ "java/lang/invoke/VarHandle" ∧ (parseMethodDescriptor (yL_isIn).desc).map (fun d => d.parameters.length) = some 3 := ⟨by decide, by decide, by decide +kernel⟩
set_option maxRecDepth 20000 in
set_option maxHeartbeats 4000000 in
theorem K_L_test (l : Launch) (hl9 : l.stackTraces = false) (D : cD) (Φ : cG) (σ : cS) (o : Nat) (cL : ClassId) (w : Int64) (x0 : Nat) (x1 : Int32) (x2 : Int32) (x3 : Int32) {q : (Nat ⊕ Int32) × cS} {v : Int32} (hrc : rc σ (some x0) 11 = some x0) (h : f_X11_test x0 x1 x2 x3 σ = some q) (hv : lcd [0, 2, 1] q.1 = some v) : Met l yL_test (Cond.codeWith yL_test cL_test 6 (some .int) [(0, 12, 15, 13), (0, 12, 19, 21), (0, 12, 23, 15)] :: BG) (rA 8 2 12 135) (lPc D Φ σ o cL w [cv Φ (some x0), .int x1, .int x2, .int x3, .ref o]) (lQ D Φ q o cL lvN v) 2 12 (lA Φ o) := by
  refine va_MetW (cc := cL_test) (maxL := 6) (ret := some .int) (hh := [(0, 12, 15, 13), (0, 12, 19, 21), (0, 12, 23, 15)]) (by decide) rfl ?_
  intro p e s m args below meth c s₁ B hml hv9
  obtain ⟨rfl, ⟨hP, hK, hZ, hN⟩, hAr, hO, ho, hi⟩ := hv9
  have X : cX p s m [cv Φ (some x0), .int x1, .int x2, .int x3, .ref o].toArray meth c cL_test 6 (some .int) "CascaderyLaw" D Φ := cX_ofW B hml hK hZ
  have htab : c.exceptionTable.toList = tableOf [(0, 12, 15, 13), (0, 12, 19, 21), (0, 12, 23, 15)] := vx_table (x := yL_test) B (atoms_spec (ws := Cond.codeWith yL_test cL_test 6 (some .int) [(0, 12, 15, 13), (0, 12, 19, 21), (0, 12, 23, 15)] :: BG) B.pre _ List.mem_cons_self)
  have hx := X.1
  have hb := X.2.1
  have hown := X.2.2.2.1
  have hts := X.2.2.2.2.1
  have hl := lv_entry [cv Φ (some x0), .int x1, .int x2, .int x3, .ref o] (n := 6) (by simp only [lgs_r, lgs_i, lgs_l, lgs_0, List.length]; exact Nat.le_of_ble_eq_true rfl)
  rw [lg_entry_eq]
  generalize (lg_sl [cv Φ (some x0), .int x1, .int x2, .int x3, .ref o] ++ List.replicate (6 - (lg_sl [cv Φ (some x0), .int x1, .int x2, .int x3, .ref o]).length) Slot.unset).toArray = ls at hl ⊢
  simp only [lv_args_r, lv_args_i, lv_args_l, lv_args_0] at hl
  have hl : lv_has ls 6 [(0, cv Φ (some x0)), (1, .int x1), (2, .int x2), (3, .int x3), (4, .ref o)] := hl
  show W p l e (rA 8 2 12 135) s m [cv Φ (some x0), .int x1, .int x2, .int x3, .ref o].toArray below meth c s.heap [] 0 0 (MQ below (lQ D Φ q o cL lvN v) [cv Φ (some x0), .int x1, .int x2, .int x3, .ref o].toArray s 2 12 (lA Φ o)) (F0 m 0 ls [])
  refine lv_aload hx hb dL_test_0 (lv_at hl 4 rfl) ?_
  refine lv_iconst (v := 0) hx hb dL_test_2 (by decide) ?_
  refine c_aload_n hx hb dL_test_3 rfl (lv_at hl 0 rfl) ?_
  refine lv_iload_n hx hb dL_test_4 rfl (lv_at hl 1 rfl) ?_
  refine lv_iload_n hx hb dL_test_5 rfl (lv_at hl 2 rfl) ?_
  refine lv_iload_n hx hb dL_test_6 rfl (lv_at hl 3 rfl) ?_
  refine l_call (c_tV (rest := [.int 0, .ref o]) X (K_X11_test l hl9 D Φ σ x0 x1 x2 x3 h) hrc (Nat.le_of_ble_eq_true rfl) ⟨w_1036, ww_X11_test⟩ rfl hy_X11_test rfl ⟨(Nat.le_of_ble_eq_true rfl), (Nat.le_of_ble_eq_true rfl)⟩ hP va_S.rf hl.1 (Nat.le_of_ble_eq_true rfl) dL_test_7 rfl ⟨(Nat.le_of_ble_eq_true rfl), (Nat.le_of_ble_eq_true rfl)⟩) (fun k n q9 ce H locs hk hn hP hS hce hcv hcl => ?_) (fun u H locs hk hP hS => ?_)
  · have hc : lcdL [0, 2, 1] k 1 = some v := lcd_l hk hv
    rcases lcd3 hc with ⟨rfl, rfl⟩ | ⟨rfl, rfl⟩ | ⟨rfl, rfl⟩
    · refine vx_catch (E := excN 0) (name := excN 0) hown (tableOf []) ⟨0, 12, 15, 13⟩ (tableOf [(0, 12, 19, 21), (0, 12, 23, 15)]) htab (l_pass (k := 0) X hN (by decide) (f := []) rfl (fun z hz => by cases hz)) (by decide) (by decide) (hts _ w_734) (va_Nw.use (cNest_on _ cn_9) (hK.2.2.1 _ cn_9)) hce hcv hcl ?_
      refine lv_astore hx hb dL_test_15 hl (Nat.le_of_ble_eq_true rfl) rfl (fun ls hl => ?_)
      refine lv_iconst (v := (1 : Int32)) hx hb dL_test_17 (by decide) ?_
      exact l_rx X hk hn hP hS hO ho dL_test_18
    · refine vx_catch (E := excN 2) (name := excN 2) hown (tableOf [(0, 12, 15, 13)]) ⟨0, 12, 19, 21⟩ (tableOf [(0, 12, 23, 15)]) htab (l_pass (k := 2) X hN (by decide) (f := [(13, 0)]) rfl (fun z hz => by
      rw [List.mem_singleton.mp hz]
      exact ⟨by decide, by decide, by decide, w_734⟩)) (by decide) (by decide) (hts _ w_834) (va_Nw.use (cNest_on _ cn_11) (hK.2.2.1 _ cn_11)) hce hcv hcl ?_
      refine lv_astore hx hb dL_test_19 hl (Nat.le_of_ble_eq_true rfl) rfl (fun ls hl => ?_)
      refine lv_iconst (v := (1 + 1 : Int32)) hx hb dL_test_21 (by decide) ?_
      exact l_rx X hk hn hP hS hO ho dL_test_22
    · refine vx_catch (E := excN 1) (name := excN 1) hown (tableOf [(0, 12, 15, 13), (0, 12, 19, 21)]) ⟨0, 12, 23, 15⟩ (tableOf []) htab (l_pass (k := 1) X hN (by decide) (f := [(13, 0), (21, 2)]) rfl (fun z hz => by
      rcases List.mem_cons.mp hz with rfl | hz
      · exact ⟨by decide, by decide, by decide, w_734⟩
      · rw [List.mem_singleton.mp hz]
        exact ⟨by decide, by decide, by decide, w_834⟩)) (by decide) (by decide) (hts _ w_735) (va_Nw.use (cNest_on _ cn_10) (hK.2.2.1 _ cn_10)) hce hcv hcl ?_
      refine lv_astore hx hb dL_test_23 hl (Nat.le_of_ble_eq_true rfl) rfl (fun ls hl => ?_)
      refine lv_iconst (v := (1 + 1 + 1 : Int32)) hx hb dL_test_25 (by decide) ?_
      exact l_rx X hk hn hP hS hO ho dL_test_26
  · obtain rfl := lcd_r hk hv
    refine W.eq (g2 := F0 m 10 ls [.int u, .int 0, .ref o]) rfl ?_
    refine lv_i2l hx hb dL_test_10 rfl ?_
    refine l_last (w := w) X hAr hP hS hO ho hi dL_test_11 (fun H locs hP hS hO => ?_)
    refine lv_goto (tgt := 27) hx hb dL_test_12 rfl ?_
    refine lv_iconst (v := 0) hx hb dL_test_27 (by decide) ?_
    exact l_rn X hk rfl hP hS hO dL_test_28
theorem ww_L_test : Cond.static yL_test ∈ BG ∧ Cond.initialized (yL_test).cls ∈ BG ∧ Cond.codeWith yL_test cL_test 6 (some .int) [(0, 12, 15, 13), (0, 12, 19, 21), (0, 12, 23, 15)] ∈ BG := ⟨w_1034, w_143, w_1035⟩
theorem hy_L_test : (yL_test).cls ≠ "java/lang/invoke/MethodHandle" ∧ (yL_test).cls ≠ "java/lang/invoke/VarHandle" ∧ (parseMethodDescriptor (yL_test).desc).map (fun d => d.parameters.length) = some 5 := ⟨by decide, by decide, by decide +kernel⟩
set_option maxRecDepth 20000 in
set_option maxHeartbeats 4000000 in
theorem K_L_join (l : Launch) (hl9 : l.stackTraces = false) (D : cD) (Φ : cG) (σ : cS) (o : Nat) (cL : ClassId) (w : Int64) (x0 : Nat) (x1 : Int32) {q : (Nat ⊕ Int32) × cS} {v : Int32} (hrc : rc σ (some x0) 11 = some x0) (h : f_X11_join x0 x1 σ = some q) (hv : lcd [0, 1] q.1 = some v) : Met l yL_join (Cond.codeWith yL_join cL_join 4 (some .int) [(0, 9, 12, 13), (0, 9, 15, 15)] :: BG) (rA 8 6 34 132) (lPc D Φ σ o cL w [cv Φ (some x0), .int x1, .ref o]) (lQ D Φ q o cL lvN v) 6 34 (lA Φ o) := by
  refine va_MetW (cc := cL_join) (maxL := 4) (ret := some .int) (hh := [(0, 9, 12, 13), (0, 9, 15, 15)]) (by decide) rfl ?_
  intro p e s m args below meth c s₁ B hml hv9
  obtain ⟨rfl, ⟨hP, hK, hZ, hN⟩, hAr, hO, ho, hi⟩ := hv9
  have X : cX p s m [cv Φ (some x0), .int x1, .ref o].toArray meth c cL_join 4 (some .int) "CascaderyLaw" D Φ := cX_ofW B hml hK hZ
  have htab : c.exceptionTable.toList = tableOf [(0, 9, 12, 13), (0, 9, 15, 15)] := vx_table (x := yL_join) B (atoms_spec (ws := Cond.codeWith yL_join cL_join 4 (some .int) [(0, 9, 12, 13), (0, 9, 15, 15)] :: BG) B.pre _ List.mem_cons_self)
  have hx := X.1
  have hb := X.2.1
  have hown := X.2.2.2.1
  have hts := X.2.2.2.2.1
  have hl := lv_entry [cv Φ (some x0), .int x1, .ref o] (n := 4) (by simp only [lgs_r, lgs_i, lgs_l, lgs_0, List.length]; exact Nat.le_of_ble_eq_true rfl)
  rw [lg_entry_eq]
  generalize (lg_sl [cv Φ (some x0), .int x1, .ref o] ++ List.replicate (4 - (lg_sl [cv Φ (some x0), .int x1, .ref o]).length) Slot.unset).toArray = ls at hl ⊢
  simp only [lv_args_r, lv_args_i, lv_args_l, lv_args_0] at hl
  have hl : lv_has ls 4 [(0, cv Φ (some x0)), (1, .int x1), (2, .ref o)] := hl
  show W p l e (rA 8 6 34 132) s m [cv Φ (some x0), .int x1, .ref o].toArray below meth c s.heap [] 0 0 (MQ below (lQ D Φ q o cL lvN v) [cv Φ (some x0), .int x1, .ref o].toArray s 6 34 (lA Φ o)) (F0 m 0 ls [])
  refine lv_aload_n hx hb dL_join_0 rfl (lv_at hl 2 rfl) ?_
  refine lv_iconst (v := 0) hx hb dL_join_1 (by decide) ?_
  refine c_aload_n hx hb dL_join_2 rfl (lv_at hl 0 rfl) ?_
  refine lv_iload_n hx hb dL_join_3 rfl (lv_at hl 1 rfl) ?_
  refine l_call (c_tV (rest := [.int 0, .ref o]) X (K_X11_join l hl9 D Φ σ x0 x1 h) hrc (Nat.le_of_ble_eq_true rfl) ⟨w_1063, ww_X11_join⟩ rfl hy_X11_join rfl ⟨(Nat.le_of_ble_eq_true rfl), (Nat.le_of_ble_eq_true rfl)⟩ hP va_S.rf hl.1 (Nat.le_of_ble_eq_true rfl) dL_join_4 rfl ⟨(Nat.le_of_ble_eq_true rfl), (Nat.le_of_ble_eq_true rfl)⟩) (fun k n q9 ce H locs hk hn hP hS hce hcv hcl => ?_) (fun u H locs hk hP hS => ?_)
  · have hc : lcdL [0, 1] k 1 = some v := lcd_l hk hv
    rcases lcd2 hc with ⟨rfl, rfl⟩ | ⟨rfl, rfl⟩
    · refine vx_catch (E := excN 0) (name := excN 0) hown (tableOf []) ⟨0, 9, 12, 13⟩ (tableOf [(0, 9, 15, 15)]) htab (l_pass (k := 0) X hN (by decide) (f := []) rfl (fun z hz => by cases hz)) (by decide) (by decide) (hts _ w_734) (va_Nw.use (cNest_on _ cn_9) (hK.2.2.1 _ cn_9)) hce hcv hcl ?_
      refine lv_astore_n hx hb dL_join_12 rfl hl (Nat.le_of_ble_eq_true rfl) rfl (fun ls hl => ?_)
      refine lv_iconst (v := (1 : Int32)) hx hb dL_join_13 (by decide) ?_
      exact l_rx X hk hn hP hS hO ho dL_join_14
    · refine vx_catch (E := excN 1) (name := excN 1) hown (tableOf [(0, 9, 12, 13)]) ⟨0, 9, 15, 15⟩ (tableOf []) htab (l_pass (k := 1) X hN (by decide) (f := [(13, 0)]) rfl (fun z hz => by
      rw [List.mem_singleton.mp hz]
      exact ⟨by decide, by decide, by decide, w_734⟩)) (by decide) (by decide) (hts _ w_735) (va_Nw.use (cNest_on _ cn_10) (hK.2.2.1 _ cn_10)) hce hcv hcl ?_
      refine lv_astore_n hx hb dL_join_15 rfl hl (Nat.le_of_ble_eq_true rfl) rfl (fun ls hl => ?_)
      refine lv_iconst (v := (1 + 1 : Int32)) hx hb dL_join_16 (by decide) ?_
      exact l_rx X hk hn hP hS hO ho dL_join_17
  · obtain rfl := lcd_r hk hv
    refine W.eq (g2 := F0 m 7 ls [.int u, .int 0, .ref o]) rfl ?_
    refine lv_i2l hx hb dL_join_7 rfl ?_
    refine l_last (w := w) X hAr hP hS hO ho hi dL_join_8 (fun H locs hP hS hO => ?_)
    refine lv_goto (tgt := 18) hx hb dL_join_9 rfl ?_
    refine lv_iconst (v := 0) hx hb dL_join_18 (by decide) ?_
    exact l_rn X hk rfl hP hS hO dL_join_19
theorem ww_L_join : Cond.static yL_join ∈ BG ∧ Cond.initialized (yL_join).cls ∈ BG ∧ Cond.codeWith yL_join cL_join 4 (some .int) [(0, 9, 12, 13), (0, 9, 15, 15)] ∈ BG := ⟨w_1061, w_143, w_1062⟩
theorem hy_L_join : (yL_join).cls ≠ "java/lang/invoke/MethodHandle" ∧ (yL_join).cls ≠ "java/lang/invoke/VarHandle" ∧ (parseMethodDescriptor (yL_join).desc).map (fun d => d.parameters.length) = some 3 := ⟨by decide, by decide, by decide +kernel⟩
set_option maxRecDepth 20000 in
set_option maxHeartbeats 4000000 in
theorem K_L_select (l : Launch) (hl9 : l.stackTraces = false) (D : cD) (Φ : cG) (σ : cS) (o : Nat) (cL : ClassId) (w : Int64) (x0 : Nat)  {q : (Nat ⊕ Int32) × cS} {v : Int32} (hrc : rc σ (some x0) 11 = some x0) (h : f_X11_select x0  σ = some q) (hv : lcd [1] q.1 = some v) : Met l yL_select (Cond.codeWith yL_select cL_select 3 (some .int) [(0, 8, 11, 15)] :: BG) (rA 8 6 41 130) (lPc D Φ σ o cL w [cv Φ (some x0), .ref o]) (lQ D Φ q o cL lvN v) 6 41 (lA Φ o) := by
  refine va_MetW (cc := cL_select) (maxL := 3) (ret := some .int) (hh := [(0, 8, 11, 15)]) (by decide) rfl ?_
  intro p e s m args below meth c s₁ B hml hv9
  obtain ⟨rfl, ⟨hP, hK, hZ, hN⟩, hAr, hO, ho, hi⟩ := hv9
  have X : cX p s m [cv Φ (some x0), .ref o].toArray meth c cL_select 3 (some .int) "CascaderyLaw" D Φ := cX_ofW B hml hK hZ
  have htab : c.exceptionTable.toList = tableOf [(0, 8, 11, 15)] := vx_table (x := yL_select) B (atoms_spec (ws := Cond.codeWith yL_select cL_select 3 (some .int) [(0, 8, 11, 15)] :: BG) B.pre _ List.mem_cons_self)
  have hx := X.1
  have hb := X.2.1
  have hown := X.2.2.2.1
  have hts := X.2.2.2.2.1
  have hl := lv_entry [cv Φ (some x0), .ref o] (n := 3) (by simp only [lgs_r, lgs_i, lgs_l, lgs_0, List.length]; exact Nat.le_of_ble_eq_true rfl)
  rw [lg_entry_eq]
  generalize (lg_sl [cv Φ (some x0), .ref o] ++ List.replicate (3 - (lg_sl [cv Φ (some x0), .ref o]).length) Slot.unset).toArray = ls at hl ⊢
  simp only [lv_args_r, lv_args_i, lv_args_l, lv_args_0] at hl
  have hl : lv_has ls 3 [(0, cv Φ (some x0)), (1, .ref o)] := hl
  show W p l e (rA 8 6 41 130) s m [cv Φ (some x0), .ref o].toArray below meth c s.heap [] 0 0 (MQ below (lQ D Φ q o cL lvN v) [cv Φ (some x0), .ref o].toArray s 6 41 (lA Φ o)) (F0 m 0 ls [])
  refine lv_aload_n hx hb dL_select_0 rfl (lv_at hl 1 rfl) ?_
  refine lv_iconst (v := 0) hx hb dL_select_1 (by decide) ?_
  refine c_aload_n hx hb dL_select_2 rfl (lv_at hl 0 rfl) ?_
  refine l_call (c_tV (rest := [.int 0, .ref o]) X (K_X11_select l hl9 D Φ σ x0  h) hrc (Nat.le_of_ble_eq_true rfl) ⟨w_1074, ww_X11_select⟩ rfl hy_X11_select rfl ⟨(Nat.le_of_ble_eq_true rfl), (Nat.le_of_ble_eq_true rfl)⟩ hP va_S.rf hl.1 (Nat.le_of_ble_eq_true rfl) dL_select_3 rfl ⟨(Nat.le_of_ble_eq_true rfl), (Nat.le_of_ble_eq_true rfl)⟩) (fun k n q9 ce H locs hk hn hP hS hce hcv hcl => ?_) (fun u H locs hk hP hS => ?_)
  · have hc : lcdL [1] k 1 = some v := lcd_l hk hv
    obtain ⟨rfl, rfl⟩ := lcd1 hc
    refine vx_catch (E := excN 1) (name := excN 1) hown (tableOf []) ⟨0, 8, 11, 15⟩ (tableOf []) htab (l_pass (k := 1) X hN (by decide) (f := []) rfl (fun z hz => by cases hz)) (by decide) (by decide) (hts _ w_735) (va_Nw.use (cNest_on _ cn_10) (hK.2.2.1 _ cn_10)) hce hcv hcl ?_
    refine lv_astore_n hx hb dL_select_11 rfl hl (Nat.le_of_ble_eq_true rfl) rfl (fun ls hl => ?_)
    refine lv_iconst (v := (1 : Int32)) hx hb dL_select_12 (by decide) ?_
    exact l_rx X hk hn hP hS hO ho dL_select_13
  · obtain rfl := lcd_r hk hv
    refine W.eq (g2 := F0 m 6 ls [.int u, .int 0, .ref o]) rfl ?_
    refine lv_i2l hx hb dL_select_6 rfl ?_
    refine l_last (w := w) X hAr hP hS hO ho hi dL_select_7 (fun H locs hP hS hO => ?_)
    refine lv_goto (tgt := 14) hx hb dL_select_8 rfl ?_
    refine lv_iconst (v := 0) hx hb dL_select_14 (by decide) ?_
    exact l_rn X hk rfl hP hS hO dL_select_15
theorem ww_L_select : Cond.static yL_select ∈ BG ∧ Cond.initialized (yL_select).cls ∈ BG ∧ Cond.codeWith yL_select cL_select 3 (some .int) [(0, 8, 11, 15)] ∈ BG := ⟨w_1072, w_143, w_1073⟩
theorem hy_L_select : (yL_select).cls ≠ "java/lang/invoke/MethodHandle" ∧ (yL_select).cls ≠ "java/lang/invoke/VarHandle" ∧ (parseMethodDescriptor (yL_select).desc).map (fun d => d.parameters.length) = some 2 := ⟨by decide, by decide, by decide +kernel⟩
set_option maxRecDepth 20000 in
set_option maxHeartbeats 4000000 in
theorem K_L_weight (l : Launch) (hl9 : l.stackTraces = false) (D : cD) (Φ : cG) (σ : cS) (o : Nat) (cL : ClassId) (w : Int64) (x0 : Nat) (x1 : Int32) {q : (Nat ⊕ Int32) × cS} {v : Int32} (hrc : rc σ (some x0) 11 = some x0) (h : f_X11_weight x0 x1 σ = some q) (hv : lcd [2] q.1 = some v) : Met l yL_weight (Cond.codeWith yL_weight cL_weight 4 (some .int) [(0, 9, 12, 21)] :: BG) (rA 8 1 6 133) (lPc D Φ σ o cL w [cv Φ (some x0), .int x1, .ref o]) (lQ D Φ q o cL lvN v) 1 6 (lA Φ o) := by
  refine va_MetW (cc := cL_weight) (maxL := 4) (ret := some .int) (hh := [(0, 9, 12, 21)]) (by decide) rfl ?_
  intro p e s m args below meth c s₁ B hml hv9
  obtain ⟨rfl, ⟨hP, hK, hZ, hN⟩, hAr, hO, ho, hi⟩ := hv9
  have X : cX p s m [cv Φ (some x0), .int x1, .ref o].toArray meth c cL_weight 4 (some .int) "CascaderyLaw" D Φ := cX_ofW B hml hK hZ
  have htab : c.exceptionTable.toList = tableOf [(0, 9, 12, 21)] := vx_table (x := yL_weight) B (atoms_spec (ws := Cond.codeWith yL_weight cL_weight 4 (some .int) [(0, 9, 12, 21)] :: BG) B.pre _ List.mem_cons_self)
  have hx := X.1
  have hb := X.2.1
  have hown := X.2.2.2.1
  have hts := X.2.2.2.2.1
  have hl := lv_entry [cv Φ (some x0), .int x1, .ref o] (n := 4) (by simp only [lgs_r, lgs_i, lgs_l, lgs_0, List.length]; exact Nat.le_of_ble_eq_true rfl)
  rw [lg_entry_eq]
  generalize (lg_sl [cv Φ (some x0), .int x1, .ref o] ++ List.replicate (4 - (lg_sl [cv Φ (some x0), .int x1, .ref o]).length) Slot.unset).toArray = ls at hl ⊢
  simp only [lv_args_r, lv_args_i, lv_args_l, lv_args_0] at hl
  have hl : lv_has ls 4 [(0, cv Φ (some x0)), (1, .int x1), (2, .ref o)] := hl
  show W p l e (rA 8 1 6 133) s m [cv Φ (some x0), .int x1, .ref o].toArray below meth c s.heap [] 0 0 (MQ below (lQ D Φ q o cL lvN v) [cv Φ (some x0), .int x1, .ref o].toArray s 1 6 (lA Φ o)) (F0 m 0 ls [])
  refine lv_aload_n hx hb dL_weight_0 rfl (lv_at hl 2 rfl) ?_
  refine lv_iconst (v := 0) hx hb dL_weight_1 (by decide) ?_
  refine c_aload_n hx hb dL_weight_2 rfl (lv_at hl 0 rfl) ?_
  refine lv_iload_n hx hb dL_weight_3 rfl (lv_at hl 1 rfl) ?_
  refine l_call (c_tV (rest := [.int 0, .ref o]) X (K_X11_weight l hl9 D Φ σ x0 x1 h) hrc (Nat.le_of_ble_eq_true rfl) ⟨w_1090, ww_X11_weight⟩ rfl hy_X11_weight rfl ⟨(Nat.le_of_ble_eq_true rfl), (Nat.le_of_ble_eq_true rfl)⟩ hP va_S.rf hl.1 (Nat.le_of_ble_eq_true rfl) dL_weight_4 rfl ⟨(Nat.le_of_ble_eq_true rfl), (Nat.le_of_ble_eq_true rfl)⟩) (fun k n q9 ce H locs hk hn hP hS hce hcv hcl => ?_) (fun u H locs hk hP hS => ?_)
  · have hc : lcdL [2] k 1 = some v := lcd_l hk hv
    obtain ⟨rfl, rfl⟩ := lcd1 hc
    refine vx_catch (E := excN 2) (name := excN 2) hown (tableOf []) ⟨0, 9, 12, 21⟩ (tableOf []) htab (l_pass (k := 2) X hN (by decide) (f := []) rfl (fun z hz => by cases hz)) (by decide) (by decide) (hts _ w_834) (va_Nw.use (cNest_on _ cn_11) (hK.2.2.1 _ cn_11)) hce hcv hcl ?_
    refine lv_astore_n hx hb dL_weight_12 rfl hl (Nat.le_of_ble_eq_true rfl) rfl (fun ls hl => ?_)
    refine lv_iconst (v := (1 : Int32)) hx hb dL_weight_13 (by decide) ?_
    exact l_rx X hk hn hP hS hO ho dL_weight_14
  · obtain rfl := lcd_r hk hv
    refine W.eq (g2 := F0 m 7 ls [.int u, .int 0, .ref o]) rfl ?_
    refine lv_i2l hx hb dL_weight_7 rfl ?_
    refine l_last (w := w) X hAr hP hS hO ho hi dL_weight_8 (fun H locs hP hS hO => ?_)
    refine lv_goto (tgt := 15) hx hb dL_weight_9 rfl ?_
    refine lv_iconst (v := 0) hx hb dL_weight_15 (by decide) ?_
    exact l_rn X hk rfl hP hS hO dL_weight_16
theorem ww_L_weight : Cond.static yL_weight ∈ BG ∧ Cond.initialized (yL_weight).cls ∈ BG ∧ Cond.codeWith yL_weight cL_weight 4 (some .int) [(0, 9, 12, 21)] ∈ BG := ⟨w_1088, w_143, w_1089⟩
theorem hy_L_weight : (yL_weight).cls ≠ "java/lang/invoke/MethodHandle" ∧ (yL_weight).cls ≠ "java/lang/invoke/VarHandle" ∧ (parseMethodDescriptor (yL_weight).desc).map (fun d => d.parameters.length) = some 3 := ⟨by decide, by decide, by decide +kernel⟩
set_option maxRecDepth 20000 in
set_option maxHeartbeats 4000000 in
theorem K_L_matches (l : Launch) (hl9 : l.stackTraces = false) (D : cD) (Φ : cG) (σ : cS) (o : Nat) (cL : ClassId) (w : Int64) (x0 : Nat) (x1 : Int32) (x2 : Int32) (x3 : Int32) {q : (Nat ⊕ Int32) × cS} {v : Int32} (hrc : rc σ (some x0) 11 = some x0) (h : f_X11_matches x0 x1 x2 x3 σ = some q) (hv : lcd [2] q.1 = some v) : Met l yL_matches (Cond.codeWith yL_matches cL_matches 6 (some .int) [(0, 19, 22, 21)] :: BG) (rA 8 3 18 157) (lPc D Φ σ o cL w [cv Φ (some x0), .int x1, .int x2, .int x3, .ref o]) (lQ D Φ q o cL lvZ v) 3 18 (lA Φ o) := by
  refine va_MetW (cc := cL_matches) (maxL := 6) (ret := some .int) (hh := [(0, 19, 22, 21)]) (by decide) rfl ?_
  intro p e s m args below meth c s₁ B hml hv9
  obtain ⟨rfl, ⟨hP, hK, hZ, hN⟩, hAr, hO, ho, hi⟩ := hv9
  have X : cX p s m [cv Φ (some x0), .int x1, .int x2, .int x3, .ref o].toArray meth c cL_matches 6 (some .int) "CascaderyLaw" D Φ := cX_ofW B hml hK hZ
  have htab : c.exceptionTable.toList = tableOf [(0, 19, 22, 21)] := vx_table (x := yL_matches) B (atoms_spec (ws := Cond.codeWith yL_matches cL_matches 6 (some .int) [(0, 19, 22, 21)] :: BG) B.pre _ List.mem_cons_self)
  have hx := X.1
  have hb := X.2.1
  have hown := X.2.2.2.1
  have hts := X.2.2.2.2.1
  have hl := lv_entry [cv Φ (some x0), .int x1, .int x2, .int x3, .ref o] (n := 6) (by simp only [lgs_r, lgs_i, lgs_l, lgs_0, List.length]; exact Nat.le_of_ble_eq_true rfl)
  rw [lg_entry_eq]
  generalize (lg_sl [cv Φ (some x0), .int x1, .int x2, .int x3, .ref o] ++ List.replicate (6 - (lg_sl [cv Φ (some x0), .int x1, .int x2, .int x3, .ref o]).length) Slot.unset).toArray = ls at hl ⊢
  simp only [lv_args_r, lv_args_i, lv_args_l, lv_args_0] at hl
  have hl : lv_has ls 6 [(0, cv Φ (some x0)), (1, .int x1), (2, .int x2), (3, .int x3), (4, .ref o)] := hl
  show W p l e (rA 8 3 18 157) s m [cv Φ (some x0), .int x1, .int x2, .int x3, .ref o].toArray below meth c s.heap [] 0 0 (MQ below (lQ D Φ q o cL lvZ v) [cv Φ (some x0), .int x1, .int x2, .int x3, .ref o].toArray s 3 18 (lA Φ o)) (F0 m 0 ls [])
  refine lv_aload hx hb dL_matches_0 (lv_at hl 4 rfl) ?_
  refine lv_iconst (v := 0) hx hb dL_matches_2 (by decide) ?_
  refine c_aload_n hx hb dL_matches_3 rfl (lv_at hl 0 rfl) ?_
  refine lv_iload_n hx hb dL_matches_4 rfl (lv_at hl 1 rfl) ?_
  refine lv_iload_n hx hb dL_matches_5 rfl (lv_at hl 2 rfl) ?_
  refine lv_iload_n hx hb dL_matches_6 rfl (lv_at hl 3 rfl) ?_
  refine l_call (c_tV (rest := [.int 0, .ref o]) X (K_X11_matches l hl9 D Φ σ x0 x1 x2 x3 h) hrc (Nat.le_of_ble_eq_true rfl) ⟨w_1101, ww_X11_matches⟩ rfl hy_X11_matches rfl ⟨(Nat.le_of_ble_eq_true rfl), (Nat.le_of_ble_eq_true rfl)⟩ hP va_S.rf hl.1 (Nat.le_of_ble_eq_true rfl) dL_matches_7 rfl ⟨(Nat.le_of_ble_eq_true rfl), (Nat.le_of_ble_eq_true rfl)⟩) (fun k n q9 ce H locs hk hn hP hS hce hcv hcl => ?_) (fun u H locs hk hP hS => ?_)
  · have hc : lcdL [2] k 1 = some v := lcd_l hk hv
    obtain ⟨rfl, rfl⟩ := lcd1 hc
    refine vx_catch (E := excN 2) (name := excN 2) hown (tableOf []) ⟨0, 19, 22, 21⟩ (tableOf []) htab (l_pass (k := 2) X hN (by decide) (f := []) rfl (fun z hz => by cases hz)) (by decide) (by decide) (hts _ w_834) (va_Nw.use (cNest_on _ cn_11) (hK.2.2.1 _ cn_11)) hce hcv hcl ?_
    refine lv_astore hx hb dL_matches_22 hl (Nat.le_of_ble_eq_true rfl) rfl (fun ls hl => ?_)
    refine lv_iconst (v := (1 : Int32)) hx hb dL_matches_24 (by decide) ?_
    exact l_rx X hk hn hP hS hO ho dL_matches_25
  · obtain rfl := lcd_r hk hv
    refine W.eq (g2 := F0 m 10 ls [.int u, .int 0, .ref o]) rfl ?_
    refine lv_if_eq (tgt := 17) hx hb dL_matches_10 rfl (fun hz => ?_) (fun hz => ?_)
    · refine lv_lconst (v := 0) hx hb dL_matches_17 (by decide) ?_
      refine l_last (w := w) X hAr hP hS hO ho hi dL_matches_18 (fun H locs hP hS hO => ?_)
      refine lv_goto (tgt := 26) hx hb dL_matches_19 rfl ?_
      refine lv_iconst (v := 0) hx hb dL_matches_26 (by decide) ?_
      exact l_rn X hk (if_pos hz).symm hP hS hO dL_matches_27
    · refine lv_lconst (v := 1) hx hb dL_matches_13 (by decide) ?_
      refine lv_goto (tgt := 18) hx hb dL_matches_14 rfl ?_
      refine l_last (w := w) X hAr hP hS hO ho hi dL_matches_18 (fun H locs hP hS hO => ?_)
      refine lv_goto (tgt := 26) hx hb dL_matches_19 rfl ?_
      refine lv_iconst (v := 0) hx hb dL_matches_26 (by decide) ?_
      exact l_rn X hk (if_neg hz).symm hP hS hO dL_matches_27
theorem ww_L_matches : Cond.static yL_matches ∈ BG ∧ Cond.initialized (yL_matches).cls ∈ BG ∧ Cond.codeWith yL_matches cL_matches 6 (some .int) [(0, 19, 22, 21)] ∈ BG := ⟨w_1099, w_143, w_1100⟩
theorem hy_L_matches : (yL_matches).cls ≠ "java/lang/invoke/MethodHandle" ∧ (yL_matches).cls ≠ "java/lang/invoke/VarHandle" ∧ (parseMethodDescriptor (yL_matches).desc).map (fun d => d.parameters.length) = some 5 := ⟨by decide, by decide, by decide +kernel⟩
set_option maxRecDepth 20000 in
set_option maxHeartbeats 4000000 in
theorem K_L_allThat (l : Launch) (hl9 : l.stackTraces = false) (D : cD) (Φ : cG) (σ : cS) (o : Nat) (cL : ClassId) (w : Int64) (x0 : Nat) (x1 : Int32) (x2 : Int32) {q : (Nat ⊕ Int32) × cS} {v : Int32} (hrc : rc σ (some x0) 11 = some x0) (h : f_X11_allThat x0 x1 x2 σ = some q) (hv : lcd [2] q.1 = some v) : Met l yL_allThat (Cond.codeWith yL_allThat cL_allThat 5 (some .int) [(0, 10, 13, 21)] :: BG) (rA 8 2 12 155) (lPc D Φ σ o cL w [cv Φ (some x0), .int x1, .int x2, .ref o]) (lQ D Φ q o cL lvN v) 2 12 (lA Φ o) := by
  refine va_MetW (cc := cL_allThat) (maxL := 5) (ret := some .int) (hh := [(0, 10, 13, 21)]) (by decide) rfl ?_
  intro p e s m args below meth c s₁ B hml hv9
  obtain ⟨rfl, ⟨hP, hK, hZ, hN⟩, hAr, hO, ho, hi⟩ := hv9
  have X : cX p s m [cv Φ (some x0), .int x1, .int x2, .ref o].toArray meth c cL_allThat 5 (some .int) "CascaderyLaw" D Φ := cX_ofW B hml hK hZ
  have htab : c.exceptionTable.toList = tableOf [(0, 10, 13, 21)] := vx_table (x := yL_allThat) B (atoms_spec (ws := Cond.codeWith yL_allThat cL_allThat 5 (some .int) [(0, 10, 13, 21)] :: BG) B.pre _ List.mem_cons_self)
  have hx := X.1
  have hb := X.2.1
  have hown := X.2.2.2.1
  have hts := X.2.2.2.2.1
  have hl := lv_entry [cv Φ (some x0), .int x1, .int x2, .ref o] (n := 5) (by simp only [lgs_r, lgs_i, lgs_l, lgs_0, List.length]; exact Nat.le_of_ble_eq_true rfl)
  rw [lg_entry_eq]
  generalize (lg_sl [cv Φ (some x0), .int x1, .int x2, .ref o] ++ List.replicate (5 - (lg_sl [cv Φ (some x0), .int x1, .int x2, .ref o]).length) Slot.unset).toArray = ls at hl ⊢
  simp only [lv_args_r, lv_args_i, lv_args_l, lv_args_0] at hl
  have hl : lv_has ls 5 [(0, cv Φ (some x0)), (1, .int x1), (2, .int x2), (3, .ref o)] := hl
  show W p l e (rA 8 2 12 155) s m [cv Φ (some x0), .int x1, .int x2, .ref o].toArray below meth c s.heap [] 0 0 (MQ below (lQ D Φ q o cL lvN v) [cv Φ (some x0), .int x1, .int x2, .ref o].toArray s 2 12 (lA Φ o)) (F0 m 0 ls [])
  refine lv_aload_n hx hb dL_allThat_0 rfl (lv_at hl 3 rfl) ?_
  refine lv_iconst (v := 0) hx hb dL_allThat_1 (by decide) ?_
  refine c_aload_n hx hb dL_allThat_2 rfl (lv_at hl 0 rfl) ?_
  refine lv_iload_n hx hb dL_allThat_3 rfl (lv_at hl 1 rfl) ?_
  refine lv_iload_n hx hb dL_allThat_4 rfl (lv_at hl 2 rfl) ?_
  refine l_call (c_tV (rest := [.int 0, .ref o]) X (K_X11_allThat l hl9 D Φ σ x0 x1 x2 h) hrc (Nat.le_of_ble_eq_true rfl) ⟨w_1155, ww_X11_allThat⟩ rfl hy_X11_allThat rfl ⟨(Nat.le_of_ble_eq_true rfl), (Nat.le_of_ble_eq_true rfl)⟩ hP va_S.rf hl.1 (Nat.le_of_ble_eq_true rfl) dL_allThat_5 rfl ⟨(Nat.le_of_ble_eq_true rfl), (Nat.le_of_ble_eq_true rfl)⟩) (fun k n q9 ce H locs hk hn hP hS hce hcv hcl => ?_) (fun u H locs hk hP hS => ?_)
  · have hc : lcdL [2] k 1 = some v := lcd_l hk hv
    obtain ⟨rfl, rfl⟩ := lcd1 hc
    refine vx_catch (E := excN 2) (name := excN 2) hown (tableOf []) ⟨0, 10, 13, 21⟩ (tableOf []) htab (l_pass (k := 2) X hN (by decide) (f := []) rfl (fun z hz => by cases hz)) (by decide) (by decide) (hts _ w_834) (va_Nw.use (cNest_on _ cn_11) (hK.2.2.1 _ cn_11)) hce hcv hcl ?_
    refine lv_astore hx hb dL_allThat_13 hl (Nat.le_of_ble_eq_true rfl) rfl (fun ls hl => ?_)
    refine lv_iconst (v := (1 : Int32)) hx hb dL_allThat_15 (by decide) ?_
    exact l_rx X hk hn hP hS hO ho dL_allThat_16
  · obtain rfl := lcd_r hk hv
    refine W.eq (g2 := F0 m 8 ls [.int u, .int 0, .ref o]) rfl ?_
    refine lv_i2l hx hb dL_allThat_8 rfl ?_
    refine l_last (w := w) X hAr hP hS hO ho hi dL_allThat_9 (fun H locs hP hS hO => ?_)
    refine lv_goto (tgt := 17) hx hb dL_allThat_10 rfl ?_
    refine lv_iconst (v := 0) hx hb dL_allThat_17 (by decide) ?_
    exact l_rn X hk rfl hP hS hO dL_allThat_18
theorem ww_L_allThat : Cond.static yL_allThat ∈ BG ∧ Cond.initialized (yL_allThat).cls ∈ BG ∧ Cond.codeWith yL_allThat cL_allThat 5 (some .int) [(0, 10, 13, 21)] ∈ BG := ⟨w_1153, w_143, w_1154⟩
theorem hy_L_allThat : (yL_allThat).cls ≠ "java/lang/invoke/MethodHandle" ∧ (yL_allThat).cls ≠ "java/lang/invoke/VarHandle" ∧ (parseMethodDescriptor (yL_allThat).desc).map (fun d => d.parameters.length) = some 4 := ⟨by decide, by decide, by decide +kernel⟩
set_option maxRecDepth 20000 in
set_option maxHeartbeats 4000000 in
theorem K_L_sheet (l : Launch) (hl9 : l.stackTraces = false) (D : cD) (Φ : cG) (σ : cS) (o : Nat) (cL : ClassId) (w : Int64) (x0 : Nat) (x1 : Int32) (x2 : Int32) (x3 : Int32) {q : (Nat ⊕ Int32) × cS} {v : Int32} (hrc : rc σ (some x0) 11 = some x0) (h : f_X11_sheet x0 x1 x2 x3 σ = some q) (hv : lcd [0, 2, 1] q.1 = some v) : Met l yL_sheet (Cond.codeWith yL_sheet cL_sheet 6 (some .int) [(0, 12, 15, 13), (0, 12, 19, 21), (0, 12, 23, 15)] :: BG) (rA 8 4 23 133) (lPc D Φ σ o cL w [cv Φ (some x0), .int x1, .int x2, .int x3, .ref o]) (lQ D Φ q o cL lvN v) 4 23 (lA Φ o) := by
  refine va_MetW (cc := cL_sheet) (maxL := 6) (ret := some .int) (hh := [(0, 12, 15, 13), (0, 12, 19, 21), (0, 12, 23, 15)]) (by decide) rfl ?_
  intro p e s m args below meth c s₁ B hml hv9
  obtain ⟨rfl, ⟨hP, hK, hZ, hN⟩, hAr, hO, ho, hi⟩ := hv9
  have X : cX p s m [cv Φ (some x0), .int x1, .int x2, .int x3, .ref o].toArray meth c cL_sheet 6 (some .int) "CascaderyLaw" D Φ := cX_ofW B hml hK hZ
  have htab : c.exceptionTable.toList = tableOf [(0, 12, 15, 13), (0, 12, 19, 21), (0, 12, 23, 15)] := vx_table (x := yL_sheet) B (atoms_spec (ws := Cond.codeWith yL_sheet cL_sheet 6 (some .int) [(0, 12, 15, 13), (0, 12, 19, 21), (0, 12, 23, 15)] :: BG) B.pre _ List.mem_cons_self)
  have hx := X.1
  have hb := X.2.1
  have hown := X.2.2.2.1
  have hts := X.2.2.2.2.1
  have hl := lv_entry [cv Φ (some x0), .int x1, .int x2, .int x3, .ref o] (n := 6) (by simp only [lgs_r, lgs_i, lgs_l, lgs_0, List.length]; exact Nat.le_of_ble_eq_true rfl)
  rw [lg_entry_eq]
  generalize (lg_sl [cv Φ (some x0), .int x1, .int x2, .int x3, .ref o] ++ List.replicate (6 - (lg_sl [cv Φ (some x0), .int x1, .int x2, .int x3, .ref o]).length) Slot.unset).toArray = ls at hl ⊢
  simp only [lv_args_r, lv_args_i, lv_args_l, lv_args_0] at hl
  have hl : lv_has ls 6 [(0, cv Φ (some x0)), (1, .int x1), (2, .int x2), (3, .int x3), (4, .ref o)] := hl
  show W p l e (rA 8 4 23 133) s m [cv Φ (some x0), .int x1, .int x2, .int x3, .ref o].toArray below meth c s.heap [] 0 0 (MQ below (lQ D Φ q o cL lvN v) [cv Φ (some x0), .int x1, .int x2, .int x3, .ref o].toArray s 4 23 (lA Φ o)) (F0 m 0 ls [])
  refine lv_aload hx hb dL_sheet_0 (lv_at hl 4 rfl) ?_
  refine lv_iconst (v := 0) hx hb dL_sheet_2 (by decide) ?_
  refine c_aload_n hx hb dL_sheet_3 rfl (lv_at hl 0 rfl) ?_
  refine lv_iload_n hx hb dL_sheet_4 rfl (lv_at hl 1 rfl) ?_
  refine lv_iload_n hx hb dL_sheet_5 rfl (lv_at hl 2 rfl) ?_
  refine lv_iload_n hx hb dL_sheet_6 rfl (lv_at hl 3 rfl) ?_
  refine l_call (c_tV (rest := [.int 0, .ref o]) X (K_X11_sheet l hl9 D Φ σ x0 x1 x2 x3 h) hrc (Nat.le_of_ble_eq_true rfl) ⟨w_1162, ww_X11_sheet⟩ rfl hy_X11_sheet rfl ⟨(Nat.le_of_ble_eq_true rfl), (Nat.le_of_ble_eq_true rfl)⟩ hP va_S.rf hl.1 (Nat.le_of_ble_eq_true rfl) dL_sheet_7 rfl ⟨(Nat.le_of_ble_eq_true rfl), (Nat.le_of_ble_eq_true rfl)⟩) (fun k n q9 ce H locs hk hn hP hS hce hcv hcl => ?_) (fun u H locs hk hP hS => ?_)
  · have hc : lcdL [0, 2, 1] k 1 = some v := lcd_l hk hv
    rcases lcd3 hc with ⟨rfl, rfl⟩ | ⟨rfl, rfl⟩ | ⟨rfl, rfl⟩
    · refine vx_catch (E := excN 0) (name := excN 0) hown (tableOf []) ⟨0, 12, 15, 13⟩ (tableOf [(0, 12, 19, 21), (0, 12, 23, 15)]) htab (l_pass (k := 0) X hN (by decide) (f := []) rfl (fun z hz => by cases hz)) (by decide) (by decide) (hts _ w_734) (va_Nw.use (cNest_on _ cn_9) (hK.2.2.1 _ cn_9)) hce hcv hcl ?_
      refine lv_astore hx hb dL_sheet_15 hl (Nat.le_of_ble_eq_true rfl) rfl (fun ls hl => ?_)
      refine lv_iconst (v := (1 : Int32)) hx hb dL_sheet_17 (by decide) ?_
      exact l_rx X hk hn hP hS hO ho dL_sheet_18
    · refine vx_catch (E := excN 2) (name := excN 2) hown (tableOf [(0, 12, 15, 13)]) ⟨0, 12, 19, 21⟩ (tableOf [(0, 12, 23, 15)]) htab (l_pass (k := 2) X hN (by decide) (f := [(13, 0)]) rfl (fun z hz => by
      rw [List.mem_singleton.mp hz]
      exact ⟨by decide, by decide, by decide, w_734⟩)) (by decide) (by decide) (hts _ w_834) (va_Nw.use (cNest_on _ cn_11) (hK.2.2.1 _ cn_11)) hce hcv hcl ?_
      refine lv_astore hx hb dL_sheet_19 hl (Nat.le_of_ble_eq_true rfl) rfl (fun ls hl => ?_)
      refine lv_iconst (v := (1 + 1 : Int32)) hx hb dL_sheet_21 (by decide) ?_
      exact l_rx X hk hn hP hS hO ho dL_sheet_22
    · refine vx_catch (E := excN 1) (name := excN 1) hown (tableOf [(0, 12, 15, 13), (0, 12, 19, 21)]) ⟨0, 12, 23, 15⟩ (tableOf []) htab (l_pass (k := 1) X hN (by decide) (f := [(13, 0), (21, 2)]) rfl (fun z hz => by
      rcases List.mem_cons.mp hz with rfl | hz
      · exact ⟨by decide, by decide, by decide, w_734⟩
      · rw [List.mem_singleton.mp hz]
        exact ⟨by decide, by decide, by decide, w_834⟩)) (by decide) (by decide) (hts _ w_735) (va_Nw.use (cNest_on _ cn_10) (hK.2.2.1 _ cn_10)) hce hcv hcl ?_
      refine lv_astore hx hb dL_sheet_23 hl (Nat.le_of_ble_eq_true rfl) rfl (fun ls hl => ?_)
      refine lv_iconst (v := (1 + 1 + 1 : Int32)) hx hb dL_sheet_25 (by decide) ?_
      exact l_rx X hk hn hP hS hO ho dL_sheet_26
  · obtain rfl := lcd_r hk hv
    refine W.eq (g2 := F0 m 10 ls [.int u, .int 0, .ref o]) rfl ?_
    refine lv_i2l hx hb dL_sheet_10 rfl ?_
    refine l_last (w := w) X hAr hP hS hO ho hi dL_sheet_11 (fun H locs hP hS hO => ?_)
    refine lv_goto (tgt := 27) hx hb dL_sheet_12 rfl ?_
    refine lv_iconst (v := 0) hx hb dL_sheet_27 (by decide) ?_
    exact l_rn X hk rfl hP hS hO dL_sheet_28
theorem ww_L_sheet : Cond.static yL_sheet ∈ BG ∧ Cond.initialized (yL_sheet).cls ∈ BG ∧ Cond.codeWith yL_sheet cL_sheet 6 (some .int) [(0, 12, 15, 13), (0, 12, 19, 21), (0, 12, 23, 15)] ∈ BG := ⟨w_1160, w_143, w_1161⟩
theorem hy_L_sheet : (yL_sheet).cls ≠ "java/lang/invoke/MethodHandle" ∧ (yL_sheet).cls ≠ "java/lang/invoke/VarHandle" ∧ (parseMethodDescriptor (yL_sheet).desc).map (fun d => d.parameters.length) = some 5 := ⟨by decide, by decide, by decide +kernel⟩
set_option maxRecDepth 20000 in
set_option maxHeartbeats 4000000 in
theorem K_L_turn (l : Launch) (hl9 : l.stackTraces = false) (D : cD) (Φ : cG) (σ : cS) (o : Nat) (cL : ClassId) (w : Int64) (x0 : Nat) (x1 : Int32) (x2 : Int32) {q : (Nat ⊕ Int32) × cS} {v : Int32} (hrc : rc σ (some x0) 11 = some x0) (h : f_X11_turn x0 x1 x2 σ = some q) (hv : lcd [2] q.1 = some v) : Met l yL_turn (Cond.codeWith yL_turn cL_turn 5 (some .int) [(0, 17, 20, 21)] :: BG) (rA 8 1 6 136) (lPc D Φ σ o cL w [cv Φ (some x0), .int x1, .int x2, .ref o]) (lQ D Φ q o cL lvZ v) 1 6 (lA Φ o) := by
  refine va_MetW (cc := cL_turn) (maxL := 5) (ret := some .int) (hh := [(0, 17, 20, 21)]) (by decide) rfl ?_
  intro p e s m args below meth c s₁ B hml hv9
  obtain ⟨rfl, ⟨hP, hK, hZ, hN⟩, hAr, hO, ho, hi⟩ := hv9
  have X : cX p s m [cv Φ (some x0), .int x1, .int x2, .ref o].toArray meth c cL_turn 5 (some .int) "CascaderyLaw" D Φ := cX_ofW B hml hK hZ
  have htab : c.exceptionTable.toList = tableOf [(0, 17, 20, 21)] := vx_table (x := yL_turn) B (atoms_spec (ws := Cond.codeWith yL_turn cL_turn 5 (some .int) [(0, 17, 20, 21)] :: BG) B.pre _ List.mem_cons_self)
  have hx := X.1
  have hb := X.2.1
  have hown := X.2.2.2.1
  have hts := X.2.2.2.2.1
  have hl := lv_entry [cv Φ (some x0), .int x1, .int x2, .ref o] (n := 5) (by simp only [lgs_r, lgs_i, lgs_l, lgs_0, List.length]; exact Nat.le_of_ble_eq_true rfl)
  rw [lg_entry_eq]
  generalize (lg_sl [cv Φ (some x0), .int x1, .int x2, .ref o] ++ List.replicate (5 - (lg_sl [cv Φ (some x0), .int x1, .int x2, .ref o]).length) Slot.unset).toArray = ls at hl ⊢
  simp only [lv_args_r, lv_args_i, lv_args_l, lv_args_0] at hl
  have hl : lv_has ls 5 [(0, cv Φ (some x0)), (1, .int x1), (2, .int x2), (3, .ref o)] := hl
  show W p l e (rA 8 1 6 136) s m [cv Φ (some x0), .int x1, .int x2, .ref o].toArray below meth c s.heap [] 0 0 (MQ below (lQ D Φ q o cL lvZ v) [cv Φ (some x0), .int x1, .int x2, .ref o].toArray s 1 6 (lA Φ o)) (F0 m 0 ls [])
  refine lv_aload_n hx hb dL_turn_0 rfl (lv_at hl 3 rfl) ?_
  refine lv_iconst (v := 0) hx hb dL_turn_1 (by decide) ?_
  refine c_aload_n hx hb dL_turn_2 rfl (lv_at hl 0 rfl) ?_
  refine lv_iload_n hx hb dL_turn_3 rfl (lv_at hl 1 rfl) ?_
  refine lv_iload_n hx hb dL_turn_4 rfl (lv_at hl 2 rfl) ?_
  refine l_call (c_tV (rest := [.int 0, .ref o]) X (K_X11_turn l hl9 D Φ σ x0 x1 x2 h) hrc (Nat.le_of_ble_eq_true rfl) ⟨w_1200, ww_X11_turn⟩ rfl hy_X11_turn rfl ⟨(Nat.le_of_ble_eq_true rfl), (Nat.le_of_ble_eq_true rfl)⟩ hP va_S.rf hl.1 (Nat.le_of_ble_eq_true rfl) dL_turn_5 rfl ⟨(Nat.le_of_ble_eq_true rfl), (Nat.le_of_ble_eq_true rfl)⟩) (fun k n q9 ce H locs hk hn hP hS hce hcv hcl => ?_) (fun u H locs hk hP hS => ?_)
  · have hc : lcdL [2] k 1 = some v := lcd_l hk hv
    obtain ⟨rfl, rfl⟩ := lcd1 hc
    refine vx_catch (E := excN 2) (name := excN 2) hown (tableOf []) ⟨0, 17, 20, 21⟩ (tableOf []) htab (l_pass (k := 2) X hN (by decide) (f := []) rfl (fun z hz => by cases hz)) (by decide) (by decide) (hts _ w_834) (va_Nw.use (cNest_on _ cn_11) (hK.2.2.1 _ cn_11)) hce hcv hcl ?_
    refine lv_astore hx hb dL_turn_20 hl (Nat.le_of_ble_eq_true rfl) rfl (fun ls hl => ?_)
    refine lv_iconst (v := (1 : Int32)) hx hb dL_turn_22 (by decide) ?_
    exact l_rx X hk hn hP hS hO ho dL_turn_23
  · obtain rfl := lcd_r hk hv
    refine W.eq (g2 := F0 m 8 ls [.int u, .int 0, .ref o]) rfl ?_
    refine lv_if_eq (tgt := 15) hx hb dL_turn_8 rfl (fun hz => ?_) (fun hz => ?_)
    · refine lv_lconst (v := 0) hx hb dL_turn_15 (by decide) ?_
      refine l_last (w := w) X hAr hP hS hO ho hi dL_turn_16 (fun H locs hP hS hO => ?_)
      refine lv_goto (tgt := 24) hx hb dL_turn_17 rfl ?_
      refine lv_iconst (v := 0) hx hb dL_turn_24 (by decide) ?_
      exact l_rn X hk (if_pos hz).symm hP hS hO dL_turn_25
    · refine lv_lconst (v := 1) hx hb dL_turn_11 (by decide) ?_
      refine lv_goto (tgt := 16) hx hb dL_turn_12 rfl ?_
      refine l_last (w := w) X hAr hP hS hO ho hi dL_turn_16 (fun H locs hP hS hO => ?_)
      refine lv_goto (tgt := 24) hx hb dL_turn_17 rfl ?_
      refine lv_iconst (v := 0) hx hb dL_turn_24 (by decide) ?_
      exact l_rn X hk (if_neg hz).symm hP hS hO dL_turn_25
theorem ww_L_turn : Cond.static yL_turn ∈ BG ∧ Cond.initialized (yL_turn).cls ∈ BG ∧ Cond.codeWith yL_turn cL_turn 5 (some .int) [(0, 17, 20, 21)] ∈ BG := ⟨w_1198, w_143, w_1199⟩
theorem hy_L_turn : (yL_turn).cls ≠ "java/lang/invoke/MethodHandle" ∧ (yL_turn).cls ≠ "java/lang/invoke/VarHandle" ∧ (parseMethodDescriptor (yL_turn).desc).map (fun d => d.parameters.length) = some 4 := ⟨by decide, by decide, by decide +kernel⟩
set_option maxRecDepth 20000 in
set_option maxHeartbeats 4000000 in
theorem K_L_rule (l : Launch) (hl9 : l.stackTraces = false) (D : cD) (Φ : cG) (σ : cS) (o : Nat) (cL : ClassId) (w : Int64) (x0 : Nat) (x1 : Int32) (x2 : Int32) {q : (Nat ⊕ Int32) × cS} {v : Int32} (hrc : rc σ (some x0) 11 = some x0) (h : f_X11_rule x0 x1 x2 σ = some q) (hv : lcd [2, 1] q.1 = some v) : Met l yL_rule (Cond.codeWith yL_rule cL_rule 5 (some .int) [(0, 10, 13, 21), (0, 10, 17, 15)] :: BG) (rA 8 8 93 136) (lPc D Φ σ o cL w [cv Φ (some x0), .int x1, .int x2, .ref o]) (lQ D Φ q o cL lvN v) 8 93 (lA Φ o) := by
  refine va_MetW (cc := cL_rule) (maxL := 5) (ret := some .int) (hh := [(0, 10, 13, 21), (0, 10, 17, 15)]) (by decide) rfl ?_
  intro p e s m args below meth c s₁ B hml hv9
  obtain ⟨rfl, ⟨hP, hK, hZ, hN⟩, hAr, hO, ho, hi⟩ := hv9
  have X : cX p s m [cv Φ (some x0), .int x1, .int x2, .ref o].toArray meth c cL_rule 5 (some .int) "CascaderyLaw" D Φ := cX_ofW B hml hK hZ
  have htab : c.exceptionTable.toList = tableOf [(0, 10, 13, 21), (0, 10, 17, 15)] := vx_table (x := yL_rule) B (atoms_spec (ws := Cond.codeWith yL_rule cL_rule 5 (some .int) [(0, 10, 13, 21), (0, 10, 17, 15)] :: BG) B.pre _ List.mem_cons_self)
  have hx := X.1
  have hb := X.2.1
  have hown := X.2.2.2.1
  have hts := X.2.2.2.2.1
  have hl := lv_entry [cv Φ (some x0), .int x1, .int x2, .ref o] (n := 5) (by simp only [lgs_r, lgs_i, lgs_l, lgs_0, List.length]; exact Nat.le_of_ble_eq_true rfl)
  rw [lg_entry_eq]
  generalize (lg_sl [cv Φ (some x0), .int x1, .int x2, .ref o] ++ List.replicate (5 - (lg_sl [cv Φ (some x0), .int x1, .int x2, .ref o]).length) Slot.unset).toArray = ls at hl ⊢
  simp only [lv_args_r, lv_args_i, lv_args_l, lv_args_0] at hl
  have hl : lv_has ls 5 [(0, cv Φ (some x0)), (1, .int x1), (2, .int x2), (3, .ref o)] := hl
  show W p l e (rA 8 8 93 136) s m [cv Φ (some x0), .int x1, .int x2, .ref o].toArray below meth c s.heap [] 0 0 (MQ below (lQ D Φ q o cL lvN v) [cv Φ (some x0), .int x1, .int x2, .ref o].toArray s 8 93 (lA Φ o)) (F0 m 0 ls [])
  refine lv_aload_n hx hb dL_rule_0 rfl (lv_at hl 3 rfl) ?_
  refine lv_iconst (v := 0) hx hb dL_rule_1 (by decide) ?_
  refine c_aload_n hx hb dL_rule_2 rfl (lv_at hl 0 rfl) ?_
  refine lv_iload_n hx hb dL_rule_3 rfl (lv_at hl 1 rfl) ?_
  refine lv_iload_n hx hb dL_rule_4 rfl (lv_at hl 2 rfl) ?_
  refine l_call (c_tV (rest := [.int 0, .ref o]) X (K_X11_rule l hl9 D Φ σ x0 x1 x2 h) hrc (Nat.le_of_ble_eq_true rfl) ⟨w_1215, ww_X11_rule⟩ rfl hy_X11_rule rfl ⟨(Nat.le_of_ble_eq_true rfl), (Nat.le_of_ble_eq_true rfl)⟩ hP va_S.rf hl.1 (Nat.le_of_ble_eq_true rfl) dL_rule_5 rfl ⟨(Nat.le_of_ble_eq_true rfl), (Nat.le_of_ble_eq_true rfl)⟩) (fun k n q9 ce H locs hk hn hP hS hce hcv hcl => ?_) (fun u H locs hk hP hS => ?_)
  · have hc : lcdL [2, 1] k 1 = some v := lcd_l hk hv
    rcases lcd2 hc with ⟨rfl, rfl⟩ | ⟨rfl, rfl⟩
    · refine vx_catch (E := excN 2) (name := excN 2) hown (tableOf []) ⟨0, 10, 13, 21⟩ (tableOf [(0, 10, 17, 15)]) htab (l_pass (k := 2) X hN (by decide) (f := []) rfl (fun z hz => by cases hz)) (by decide) (by decide) (hts _ w_834) (va_Nw.use (cNest_on _ cn_11) (hK.2.2.1 _ cn_11)) hce hcv hcl ?_
      refine lv_astore hx hb dL_rule_13 hl (Nat.le_of_ble_eq_true rfl) rfl (fun ls hl => ?_)
      refine lv_iconst (v := (1 : Int32)) hx hb dL_rule_15 (by decide) ?_
      exact l_rx X hk hn hP hS hO ho dL_rule_16
    · refine vx_catch (E := excN 1) (name := excN 1) hown (tableOf [(0, 10, 13, 21)]) ⟨0, 10, 17, 15⟩ (tableOf []) htab (l_pass (k := 1) X hN (by decide) (f := [(21, 2)]) rfl (fun z hz => by
      rw [List.mem_singleton.mp hz]
      exact ⟨by decide, by decide, by decide, w_834⟩)) (by decide) (by decide) (hts _ w_735) (va_Nw.use (cNest_on _ cn_10) (hK.2.2.1 _ cn_10)) hce hcv hcl ?_
      refine lv_astore hx hb dL_rule_17 hl (Nat.le_of_ble_eq_true rfl) rfl (fun ls hl => ?_)
      refine lv_iconst (v := (1 + 1 : Int32)) hx hb dL_rule_19 (by decide) ?_
      exact l_rx X hk hn hP hS hO ho dL_rule_20
  · obtain rfl := lcd_r hk hv
    refine W.eq (g2 := F0 m 8 ls [.int u, .int 0, .ref o]) rfl ?_
    refine lv_i2l hx hb dL_rule_8 rfl ?_
    refine l_last (w := w) X hAr hP hS hO ho hi dL_rule_9 (fun H locs hP hS hO => ?_)
    refine lv_goto (tgt := 21) hx hb dL_rule_10 rfl ?_
    refine lv_iconst (v := 0) hx hb dL_rule_21 (by decide) ?_
    exact l_rn X hk rfl hP hS hO dL_rule_22
theorem ww_L_rule : Cond.static yL_rule ∈ BG ∧ Cond.initialized (yL_rule).cls ∈ BG ∧ Cond.codeWith yL_rule cL_rule 5 (some .int) [(0, 10, 13, 21), (0, 10, 17, 15)] ∈ BG := ⟨w_1213, w_143, w_1214⟩
theorem hy_L_rule : (yL_rule).cls ≠ "java/lang/invoke/MethodHandle" ∧ (yL_rule).cls ≠ "java/lang/invoke/VarHandle" ∧ (parseMethodDescriptor (yL_rule).desc).map (fun d => d.parameters.length) = some 4 := ⟨by decide, by decide, by decide +kernel⟩
set_option maxRecDepth 20000 in
set_option maxHeartbeats 4000000 in
theorem K_L_when (l : Launch) (hl9 : l.stackTraces = false) (D : cD) (Φ : cG) (σ : cS) (x0 : Nat) (x1 : Int32) (x2 : Int32) (x3 : Int32) {q : (Nat ⊕ Unit) × cS} {v : Int32} (hrc : rc σ (some x0) 11 = some x0) (h : f_X11_when x0 x1 x2 x3 σ = some q) (hv : lcd [2, 0] q.1 = some v) : Met l yL_when (Cond.codeWith yL_when cL_when 5 (some .int) [(0, 7, 10, 21), (0, 7, 14, 13)] :: BG) (rA 8 2 12 136) (lPc0 D Φ σ [cv Φ (some x0), .int x1, .int x2, .int x3]) (lQ0 D Φ q v) 2 12 (cReg Φ) := by
  refine va_MetW (cc := cL_when) (maxL := 5) (ret := some .int) (hh := [(0, 7, 10, 21), (0, 7, 14, 13)]) (by decide) rfl ?_
  intro p e s m args below meth c s₁ B hml hv9
  obtain ⟨rfl, hP, hK, hZ, hN⟩ := hv9
  have X : cX p s m [cv Φ (some x0), .int x1, .int x2, .int x3].toArray meth c cL_when 5 (some .int) "CascaderyLaw" D Φ := cX_ofW B hml hK hZ
  have htab : c.exceptionTable.toList = tableOf [(0, 7, 10, 21), (0, 7, 14, 13)] := vx_table (x := yL_when) B (atoms_spec (ws := Cond.codeWith yL_when cL_when 5 (some .int) [(0, 7, 10, 21), (0, 7, 14, 13)] :: BG) B.pre _ List.mem_cons_self)
  have hx := X.1
  have hb := X.2.1
  have hown := X.2.2.2.1
  have hts := X.2.2.2.2.1
  have hl := lv_entry [cv Φ (some x0), .int x1, .int x2, .int x3] (n := 5) (by simp only [lgs_r, lgs_i, lgs_l, lgs_0, List.length]; exact Nat.le_of_ble_eq_true rfl)
  rw [lg_entry_eq]
  generalize (lg_sl [cv Φ (some x0), .int x1, .int x2, .int x3] ++ List.replicate (5 - (lg_sl [cv Φ (some x0), .int x1, .int x2, .int x3]).length) Slot.unset).toArray = ls at hl ⊢
  simp only [lv_args_r, lv_args_i, lv_args_l, lv_args_0] at hl
  have hl : lv_has ls 5 [(0, cv Φ (some x0)), (1, .int x1), (2, .int x2), (3, .int x3)] := hl
  show W p l e (rA 8 2 12 136) s m [cv Φ (some x0), .int x1, .int x2, .int x3].toArray below meth c s.heap [] 0 0 (MQ below (lQ0 D Φ q v) [cv Φ (some x0), .int x1, .int x2, .int x3].toArray s 2 12 (cReg Φ)) (F0 m 0 ls [])
  refine c_aload_n hx hb dL_when_0 rfl (lv_at hl 0 rfl) ?_
  refine lv_iload_n hx hb dL_when_1 rfl (lv_at hl 1 rfl) ?_
  refine lv_iload_n hx hb dL_when_2 rfl (lv_at hl 2 rfl) ?_
  refine lv_iload_n hx hb dL_when_3 rfl (lv_at hl 3 rfl) ?_
  refine l_call (c_tV (rest := []) X (K_X11_when l hl9 D Φ σ x0 x1 x2 x3 h) hrc (Nat.le_of_ble_eq_true rfl) ⟨w_1227, ww_X11_when⟩ rfl hy_X11_when rfl ⟨(Nat.le_of_ble_eq_true rfl), (Nat.le_of_ble_eq_true rfl)⟩ hP va_S.rf hl.1 (Nat.le_of_ble_eq_true rfl) dL_when_4 rfl ⟨(Nat.le_of_ble_eq_true rfl), (Nat.le_of_ble_eq_true rfl)⟩) (fun k n q9 ce H locs hk hn hP hS hce hcv hcl => ?_) (fun u H locs hk hP hS => ?_)
  · have hc : lcdL [2, 0] k 1 = some v := lcd_l hk hv
    rcases lcd2 hc with ⟨rfl, rfl⟩ | ⟨rfl, rfl⟩
    · refine vx_catch (E := excN 2) (name := excN 2) hown (tableOf []) ⟨0, 7, 10, 21⟩ (tableOf [(0, 7, 14, 13)]) htab (l_pass (k := 2) X hN (by decide) (f := []) rfl (fun z hz => by cases hz)) (by decide) (by decide) (hts _ w_834) (va_Nw.use (cNest_on _ cn_11) (hK.2.2.1 _ cn_11)) hce hcv hcl ?_
      refine lv_astore hx hb dL_when_10 hl (Nat.le_of_ble_eq_true rfl) rfl (fun ls hl => ?_)
      refine lv_iconst (v := (1 : Int32)) hx hb dL_when_12 (by decide) ?_
      exact l_rx0 X hn hP hS dL_when_13
    · refine vx_catch (E := excN 0) (name := excN 0) hown (tableOf [(0, 7, 10, 21)]) ⟨0, 7, 14, 13⟩ (tableOf []) htab (l_pass (k := 0) X hN (by decide) (f := [(21, 2)]) rfl (fun z hz => by
      rw [List.mem_singleton.mp hz]
      exact ⟨by decide, by decide, by decide, w_834⟩)) (by decide) (by decide) (hts _ w_734) (va_Nw.use (cNest_on _ cn_9) (hK.2.2.1 _ cn_9)) hce hcv hcl ?_
      refine lv_astore hx hb dL_when_14 hl (Nat.le_of_ble_eq_true rfl) rfl (fun ls hl => ?_)
      refine lv_iconst (v := (1 + 1 : Int32)) hx hb dL_when_16 (by decide) ?_
      exact l_rx0 X hn hP hS dL_when_17
  · obtain rfl := lcd_r hk hv
    refine W.eq (g2 := F0 m 7 ls []) rfl ?_
    refine lv_goto (tgt := 18) hx hb dL_when_7 rfl ?_
    refine lv_iconst (v := 0) hx hb dL_when_18 (by decide) ?_
    exact l_rx0 X (Nat.le_refl _) hP hS dL_when_19
theorem ww_L_when : Cond.static yL_when ∈ BG ∧ Cond.initialized (yL_when).cls ∈ BG ∧ Cond.codeWith yL_when cL_when 5 (some .int) [(0, 7, 10, 21), (0, 7, 14, 13)] ∈ BG := ⟨w_1225, w_143, w_1226⟩
theorem hy_L_when : (yL_when).cls ≠ "java/lang/invoke/MethodHandle" ∧ (yL_when).cls ≠ "java/lang/invoke/VarHandle" ∧ (parseMethodDescriptor (yL_when).desc).map (fun d => d.parameters.length) = some 4 := ⟨by decide, by decide, by decide +kernel⟩
set_option maxRecDepth 20000 in
set_option maxHeartbeats 4000000 in
theorem K_L_declare (l : Launch) (hl9 : l.stackTraces = false) (D : cD) (Φ : cG) (σ : cS) (o : Nat) (cL : ClassId) (w : Int64) (x0 : Nat) (x1 : Int32) (x2 : Int32) (x3 : Int32) (x4 : Int32) (x5 : Int32) {q : (Nat ⊕ Int32) × cS} {v : Int32} (hrc : rc σ (some x0) 11 = some x0) (h : f_X11_declare x0 x1 x2 x3 x4 x5 σ = some q) (hv : lcd [2, 0] q.1 = some v) : Met l yL_declare (Cond.codeWith yL_declare cL_declare 8 (some .int) [(0, 16, 19, 21), (0, 16, 23, 13)] :: BG) (rA 9 2 12 160) (lPc D Φ σ o cL w [cv Φ (some x0), .int x1, .int x2, .int x3, .int x4, .int x5, .ref o]) (lQ D Φ q o cL lvN v) 2 12 (lA Φ o) := by
  refine va_MetW (cc := cL_declare) (maxL := 8) (ret := some .int) (hh := [(0, 16, 19, 21), (0, 16, 23, 13)]) (by decide) rfl ?_
  intro p e s m args below meth c s₁ B hml hv9
  obtain ⟨rfl, ⟨hP, hK, hZ, hN⟩, hAr, hO, ho, hi⟩ := hv9
  have X : cX p s m [cv Φ (some x0), .int x1, .int x2, .int x3, .int x4, .int x5, .ref o].toArray meth c cL_declare 8 (some .int) "CascaderyLaw" D Φ := cX_ofW B hml hK hZ
  have htab : c.exceptionTable.toList = tableOf [(0, 16, 19, 21), (0, 16, 23, 13)] := vx_table (x := yL_declare) B (atoms_spec (ws := Cond.codeWith yL_declare cL_declare 8 (some .int) [(0, 16, 19, 21), (0, 16, 23, 13)] :: BG) B.pre _ List.mem_cons_self)
  have hx := X.1
  have hb := X.2.1
  have hown := X.2.2.2.1
  have hts := X.2.2.2.2.1
  have hl := lv_entry [cv Φ (some x0), .int x1, .int x2, .int x3, .int x4, .int x5, .ref o] (n := 8) (by simp only [lgs_r, lgs_i, lgs_l, lgs_0, List.length]; exact Nat.le_of_ble_eq_true rfl)
  rw [lg_entry_eq]
  generalize (lg_sl [cv Φ (some x0), .int x1, .int x2, .int x3, .int x4, .int x5, .ref o] ++ List.replicate (8 - (lg_sl [cv Φ (some x0), .int x1, .int x2, .int x3, .int x4, .int x5, .ref o]).length) Slot.unset).toArray = ls at hl ⊢
  simp only [lv_args_r, lv_args_i, lv_args_l, lv_args_0] at hl
  have hl : lv_has ls 8 [(0, cv Φ (some x0)), (1, .int x1), (2, .int x2), (3, .int x3), (4, .int x4), (5, .int x5), (6, .ref o)] := hl
  show W p l e (rA 9 2 12 160) s m [cv Φ (some x0), .int x1, .int x2, .int x3, .int x4, .int x5, .ref o].toArray below meth c s.heap [] 0 0 (MQ below (lQ D Φ q o cL lvN v) [cv Φ (some x0), .int x1, .int x2, .int x3, .int x4, .int x5, .ref o].toArray s 2 12 (lA Φ o)) (F0 m 0 ls [])
  refine lv_aload hx hb dL_declare_0 (lv_at hl 6 rfl) ?_
  refine lv_iconst (v := 0) hx hb dL_declare_2 (by decide) ?_
  refine c_aload_n hx hb dL_declare_3 rfl (lv_at hl 0 rfl) ?_
  refine lv_iload_n hx hb dL_declare_4 rfl (lv_at hl 1 rfl) ?_
  refine lv_iload_n hx hb dL_declare_5 rfl (lv_at hl 2 rfl) ?_
  refine lv_iload_n hx hb dL_declare_6 rfl (lv_at hl 3 rfl) ?_
  refine lv_iload hx hb dL_declare_7 (lv_at hl 4 rfl) ?_
  refine lv_iload hx hb dL_declare_9 (lv_at hl 5 rfl) ?_
  refine l_call (c_tV (rest := [.int 0, .ref o]) X (K_X11_declare l hl9 D Φ σ x0 x1 x2 x3 x4 x5 h) hrc (Nat.le_of_ble_eq_true rfl) ⟨w_1245, ww_X11_declare⟩ rfl hy_X11_declare rfl ⟨(Nat.le_of_ble_eq_true rfl), (Nat.le_of_ble_eq_true rfl)⟩ hP va_S.rf hl.1 (Nat.le_of_ble_eq_true rfl) dL_declare_11 rfl ⟨(Nat.le_of_ble_eq_true rfl), (Nat.le_of_ble_eq_true rfl)⟩) (fun k n q9 ce H locs hk hn hP hS hce hcv hcl => ?_) (fun u H locs hk hP hS => ?_)
  · have hc : lcdL [2, 0] k 1 = some v := lcd_l hk hv
    rcases lcd2 hc with ⟨rfl, rfl⟩ | ⟨rfl, rfl⟩
    · refine vx_catch (E := excN 2) (name := excN 2) hown (tableOf []) ⟨0, 16, 19, 21⟩ (tableOf [(0, 16, 23, 13)]) htab (l_pass (k := 2) X hN (by decide) (f := []) rfl (fun z hz => by cases hz)) (by decide) (by decide) (hts _ w_834) (va_Nw.use (cNest_on _ cn_11) (hK.2.2.1 _ cn_11)) hce hcv hcl ?_
      refine lv_astore hx hb dL_declare_19 hl (Nat.le_of_ble_eq_true rfl) rfl (fun ls hl => ?_)
      refine lv_iconst (v := (1 : Int32)) hx hb dL_declare_21 (by decide) ?_
      exact l_rx X hk hn hP hS hO ho dL_declare_22
    · refine vx_catch (E := excN 0) (name := excN 0) hown (tableOf [(0, 16, 19, 21)]) ⟨0, 16, 23, 13⟩ (tableOf []) htab (l_pass (k := 0) X hN (by decide) (f := [(21, 2)]) rfl (fun z hz => by
      rw [List.mem_singleton.mp hz]
      exact ⟨by decide, by decide, by decide, w_834⟩)) (by decide) (by decide) (hts _ w_734) (va_Nw.use (cNest_on _ cn_9) (hK.2.2.1 _ cn_9)) hce hcv hcl ?_
      refine lv_astore hx hb dL_declare_23 hl (Nat.le_of_ble_eq_true rfl) rfl (fun ls hl => ?_)
      refine lv_iconst (v := (1 + 1 : Int32)) hx hb dL_declare_25 (by decide) ?_
      exact l_rx X hk hn hP hS hO ho dL_declare_26
  · obtain rfl := lcd_r hk hv
    refine W.eq (g2 := F0 m 14 ls [.int u, .int 0, .ref o]) rfl ?_
    refine lv_i2l hx hb dL_declare_14 rfl ?_
    refine l_last (w := w) X hAr hP hS hO ho hi dL_declare_15 (fun H locs hP hS hO => ?_)
    refine lv_goto (tgt := 27) hx hb dL_declare_16 rfl ?_
    refine lv_iconst (v := 0) hx hb dL_declare_27 (by decide) ?_
    exact l_rn X hk rfl hP hS hO dL_declare_28
theorem ww_L_declare : Cond.static yL_declare ∈ BG ∧ Cond.initialized (yL_declare).cls ∈ BG ∧ Cond.codeWith yL_declare cL_declare 8 (some .int) [(0, 16, 19, 21), (0, 16, 23, 13)] ∈ BG := ⟨w_1243, w_143, w_1244⟩
theorem hy_L_declare : (yL_declare).cls ≠ "java/lang/invoke/MethodHandle" ∧ (yL_declare).cls ≠ "java/lang/invoke/VarHandle" ∧ (parseMethodDescriptor (yL_declare).desc).map (fun d => d.parameters.length) = some 7 := ⟨by decide, by decide, by decide +kernel⟩
set_option maxRecDepth 20000 in
set_option maxHeartbeats 4000000 in
theorem K_L_declareVar (l : Launch) (hl9 : l.stackTraces = false) (D : cD) (Φ : cG) (σ : cS) (o : Nat) (cL : ClassId) (w : Int64) (x0 : Nat) (x1 : Int32) (x2 : Int32) (x3 : Int32) (x4 : Int32) (x5 : Int32) (x6 : Int32) {q : (Nat ⊕ Int32) × cS} {v : Int32} (hrc : rc σ (some x0) 11 = some x0) (h : f_X11_declareVar x0 x1 x2 x3 x4 x5 x6 σ = some q) (hv : lcd [2, 0] q.1 = some v) : Met l yL_declareVar (Cond.codeWith yL_declareVar cL_declareVar 9 (some .int) [(0, 18, 21, 21), (0, 18, 25, 13)] :: BG) (rA 9 2 12 161) (lPc D Φ σ o cL w [cv Φ (some x0), .int x1, .int x2, .int x3, .int x4, .int x5, .int x6, .ref o]) (lQ D Φ q o cL lvN v) 2 12 (lA Φ o) := by
  refine va_MetW (cc := cL_declareVar) (maxL := 9) (ret := some .int) (hh := [(0, 18, 21, 21), (0, 18, 25, 13)]) (by decide) rfl ?_
  intro p e s m args below meth c s₁ B hml hv9
  obtain ⟨rfl, ⟨hP, hK, hZ, hN⟩, hAr, hO, ho, hi⟩ := hv9
  have X : cX p s m [cv Φ (some x0), .int x1, .int x2, .int x3, .int x4, .int x5, .int x6, .ref o].toArray meth c cL_declareVar 9 (some .int) "CascaderyLaw" D Φ := cX_ofW B hml hK hZ
  have htab : c.exceptionTable.toList = tableOf [(0, 18, 21, 21), (0, 18, 25, 13)] := vx_table (x := yL_declareVar) B (atoms_spec (ws := Cond.codeWith yL_declareVar cL_declareVar 9 (some .int) [(0, 18, 21, 21), (0, 18, 25, 13)] :: BG) B.pre _ List.mem_cons_self)
  have hx := X.1
  have hb := X.2.1
  have hown := X.2.2.2.1
  have hts := X.2.2.2.2.1
  have hl := lv_entry [cv Φ (some x0), .int x1, .int x2, .int x3, .int x4, .int x5, .int x6, .ref o] (n := 9) (by simp only [lgs_r, lgs_i, lgs_l, lgs_0, List.length]; exact Nat.le_of_ble_eq_true rfl)
  rw [lg_entry_eq]
  generalize (lg_sl [cv Φ (some x0), .int x1, .int x2, .int x3, .int x4, .int x5, .int x6, .ref o] ++ List.replicate (9 - (lg_sl [cv Φ (some x0), .int x1, .int x2, .int x3, .int x4, .int x5, .int x6, .ref o]).length) Slot.unset).toArray = ls at hl ⊢
  simp only [lv_args_r, lv_args_i, lv_args_l, lv_args_0] at hl
  have hl : lv_has ls 9 [(0, cv Φ (some x0)), (1, .int x1), (2, .int x2), (3, .int x3), (4, .int x4), (5, .int x5), (6, .int x6), (7, .ref o)] := hl
  show W p l e (rA 9 2 12 161) s m [cv Φ (some x0), .int x1, .int x2, .int x3, .int x4, .int x5, .int x6, .ref o].toArray below meth c s.heap [] 0 0 (MQ below (lQ D Φ q o cL lvN v) [cv Φ (some x0), .int x1, .int x2, .int x3, .int x4, .int x5, .int x6, .ref o].toArray s 2 12 (lA Φ o)) (F0 m 0 ls [])
  refine lv_aload hx hb dL_declareVar_0 (lv_at hl 7 rfl) ?_
  refine lv_iconst (v := 0) hx hb dL_declareVar_2 (by decide) ?_
  refine c_aload_n hx hb dL_declareVar_3 rfl (lv_at hl 0 rfl) ?_
  refine lv_iload_n hx hb dL_declareVar_4 rfl (lv_at hl 1 rfl) ?_
  refine lv_iload_n hx hb dL_declareVar_5 rfl (lv_at hl 2 rfl) ?_
  refine lv_iload_n hx hb dL_declareVar_6 rfl (lv_at hl 3 rfl) ?_
  refine lv_iload hx hb dL_declareVar_7 (lv_at hl 4 rfl) ?_
  refine lv_iload hx hb dL_declareVar_9 (lv_at hl 5 rfl) ?_
  refine lv_iload hx hb dL_declareVar_11 (lv_at hl 6 rfl) ?_
  refine l_call (c_tV (rest := [.int 0, .ref o]) X (K_X11_declareVar l hl9 D Φ σ x0 x1 x2 x3 x4 x5 x6 h) hrc (Nat.le_of_ble_eq_true rfl) ⟨w_1284, ww_X11_declareVar⟩ rfl hy_X11_declareVar rfl ⟨(Nat.le_of_ble_eq_true rfl), (Nat.le_of_ble_eq_true rfl)⟩ hP va_S.rf hl.1 (Nat.le_of_ble_eq_true rfl) dL_declareVar_13 rfl ⟨(Nat.le_of_ble_eq_true rfl), (Nat.le_of_ble_eq_true rfl)⟩) (fun k n q9 ce H locs hk hn hP hS hce hcv hcl => ?_) (fun u H locs hk hP hS => ?_)
  · have hc : lcdL [2, 0] k 1 = some v := lcd_l hk hv
    rcases lcd2 hc with ⟨rfl, rfl⟩ | ⟨rfl, rfl⟩
    · refine vx_catch (E := excN 2) (name := excN 2) hown (tableOf []) ⟨0, 18, 21, 21⟩ (tableOf [(0, 18, 25, 13)]) htab (l_pass (k := 2) X hN (by decide) (f := []) rfl (fun z hz => by cases hz)) (by decide) (by decide) (hts _ w_834) (va_Nw.use (cNest_on _ cn_11) (hK.2.2.1 _ cn_11)) hce hcv hcl ?_
      refine lv_astore hx hb dL_declareVar_21 hl (Nat.le_of_ble_eq_true rfl) rfl (fun ls hl => ?_)
      refine lv_iconst (v := (1 : Int32)) hx hb dL_declareVar_23 (by decide) ?_
      exact l_rx X hk hn hP hS hO ho dL_declareVar_24
    · refine vx_catch (E := excN 0) (name := excN 0) hown (tableOf [(0, 18, 21, 21)]) ⟨0, 18, 25, 13⟩ (tableOf []) htab (l_pass (k := 0) X hN (by decide) (f := [(21, 2)]) rfl (fun z hz => by
      rw [List.mem_singleton.mp hz]
      exact ⟨by decide, by decide, by decide, w_834⟩)) (by decide) (by decide) (hts _ w_734) (va_Nw.use (cNest_on _ cn_9) (hK.2.2.1 _ cn_9)) hce hcv hcl ?_
      refine lv_astore hx hb dL_declareVar_25 hl (Nat.le_of_ble_eq_true rfl) rfl (fun ls hl => ?_)
      refine lv_iconst (v := (1 + 1 : Int32)) hx hb dL_declareVar_27 (by decide) ?_
      exact l_rx X hk hn hP hS hO ho dL_declareVar_28
  · obtain rfl := lcd_r hk hv
    refine W.eq (g2 := F0 m 16 ls [.int u, .int 0, .ref o]) rfl ?_
    refine lv_i2l hx hb dL_declareVar_16 rfl ?_
    refine l_last (w := w) X hAr hP hS hO ho hi dL_declareVar_17 (fun H locs hP hS hO => ?_)
    refine lv_goto (tgt := 29) hx hb dL_declareVar_18 rfl ?_
    refine lv_iconst (v := 0) hx hb dL_declareVar_29 (by decide) ?_
    exact l_rn X hk rfl hP hS hO dL_declareVar_30
theorem ww_L_declareVar : Cond.static yL_declareVar ∈ BG ∧ Cond.initialized (yL_declareVar).cls ∈ BG ∧ Cond.codeWith yL_declareVar cL_declareVar 9 (some .int) [(0, 18, 21, 21), (0, 18, 25, 13)] ∈ BG := ⟨w_1282, w_143, w_1283⟩
theorem hy_L_declareVar : (yL_declareVar).cls ≠ "java/lang/invoke/MethodHandle" ∧ (yL_declareVar).cls ≠ "java/lang/invoke/VarHandle" ∧ (parseMethodDescriptor (yL_declareVar).desc).map (fun d => d.parameters.length) = some 8 := ⟨by decide, by decide, by decide +kernel⟩
set_option maxRecDepth 20000 in
set_option maxHeartbeats 4000000 in
theorem K_L_undeclare (l : Launch) (hl9 : l.stackTraces = false) (D : cD) (Φ : cG) (σ : cS) (o : Nat) (cL : ClassId) (w : Int64) (x0 : Nat) (x1 : Int32) (x2 : Int32) {q : (Nat ⊕ Int32) × cS} {v : Int32} (hrc : rc σ (some x0) 11 = some x0) (h : f_X11_undeclare x0 x1 x2 σ = some q) (hv : lcd [2, 0] q.1 = some v) : Met l yL_undeclare (Cond.codeWith yL_undeclare cL_undeclare 5 (some .int) [(0, 10, 13, 21), (0, 10, 17, 13)] :: BG) (rA 9 2 12 157) (lPc D Φ σ o cL w [cv Φ (some x0), .int x1, .int x2, .ref o]) (lQ D Φ q o cL lvN v) 2 12 (lA Φ o) := by
  refine va_MetW (cc := cL_undeclare) (maxL := 5) (ret := some .int) (hh := [(0, 10, 13, 21), (0, 10, 17, 13)]) (by decide) rfl ?_
  intro p e s m args below meth c s₁ B hml hv9
  obtain ⟨rfl, ⟨hP, hK, hZ, hN⟩, hAr, hO, ho, hi⟩ := hv9
  have X : cX p s m [cv Φ (some x0), .int x1, .int x2, .ref o].toArray meth c cL_undeclare 5 (some .int) "CascaderyLaw" D Φ := cX_ofW B hml hK hZ
  have htab : c.exceptionTable.toList = tableOf [(0, 10, 13, 21), (0, 10, 17, 13)] := vx_table (x := yL_undeclare) B (atoms_spec (ws := Cond.codeWith yL_undeclare cL_undeclare 5 (some .int) [(0, 10, 13, 21), (0, 10, 17, 13)] :: BG) B.pre _ List.mem_cons_self)
  have hx := X.1
  have hb := X.2.1
  have hown := X.2.2.2.1
  have hts := X.2.2.2.2.1
  have hl := lv_entry [cv Φ (some x0), .int x1, .int x2, .ref o] (n := 5) (by simp only [lgs_r, lgs_i, lgs_l, lgs_0, List.length]; exact Nat.le_of_ble_eq_true rfl)
  rw [lg_entry_eq]
  generalize (lg_sl [cv Φ (some x0), .int x1, .int x2, .ref o] ++ List.replicate (5 - (lg_sl [cv Φ (some x0), .int x1, .int x2, .ref o]).length) Slot.unset).toArray = ls at hl ⊢
  simp only [lv_args_r, lv_args_i, lv_args_l, lv_args_0] at hl
  have hl : lv_has ls 5 [(0, cv Φ (some x0)), (1, .int x1), (2, .int x2), (3, .ref o)] := hl
  show W p l e (rA 9 2 12 157) s m [cv Φ (some x0), .int x1, .int x2, .ref o].toArray below meth c s.heap [] 0 0 (MQ below (lQ D Φ q o cL lvN v) [cv Φ (some x0), .int x1, .int x2, .ref o].toArray s 2 12 (lA Φ o)) (F0 m 0 ls [])
  refine lv_aload_n hx hb dL_undeclare_0 rfl (lv_at hl 3 rfl) ?_
  refine lv_iconst (v := 0) hx hb dL_undeclare_1 (by decide) ?_
  refine c_aload_n hx hb dL_undeclare_2 rfl (lv_at hl 0 rfl) ?_
  refine lv_iload_n hx hb dL_undeclare_3 rfl (lv_at hl 1 rfl) ?_
  refine lv_iload_n hx hb dL_undeclare_4 rfl (lv_at hl 2 rfl) ?_
  refine l_call (c_tV (rest := [.int 0, .ref o]) X (K_X11_undeclare l hl9 D Φ σ x0 x1 x2 h) hrc (Nat.le_of_ble_eq_true rfl) ⟨w_1295, ww_X11_undeclare⟩ rfl hy_X11_undeclare rfl ⟨(Nat.le_of_ble_eq_true rfl), (Nat.le_of_ble_eq_true rfl)⟩ hP va_S.rf hl.1 (Nat.le_of_ble_eq_true rfl) dL_undeclare_5 rfl ⟨(Nat.le_of_ble_eq_true rfl), (Nat.le_of_ble_eq_true rfl)⟩) (fun k n q9 ce H locs hk hn hP hS hce hcv hcl => ?_) (fun u H locs hk hP hS => ?_)
  · have hc : lcdL [2, 0] k 1 = some v := lcd_l hk hv
    rcases lcd2 hc with ⟨rfl, rfl⟩ | ⟨rfl, rfl⟩
    · refine vx_catch (E := excN 2) (name := excN 2) hown (tableOf []) ⟨0, 10, 13, 21⟩ (tableOf [(0, 10, 17, 13)]) htab (l_pass (k := 2) X hN (by decide) (f := []) rfl (fun z hz => by cases hz)) (by decide) (by decide) (hts _ w_834) (va_Nw.use (cNest_on _ cn_11) (hK.2.2.1 _ cn_11)) hce hcv hcl ?_
      refine lv_astore hx hb dL_undeclare_13 hl (Nat.le_of_ble_eq_true rfl) rfl (fun ls hl => ?_)
      refine lv_iconst (v := (1 : Int32)) hx hb dL_undeclare_15 (by decide) ?_
      exact l_rx X hk hn hP hS hO ho dL_undeclare_16
    · refine vx_catch (E := excN 0) (name := excN 0) hown (tableOf [(0, 10, 13, 21)]) ⟨0, 10, 17, 13⟩ (tableOf []) htab (l_pass (k := 0) X hN (by decide) (f := [(21, 2)]) rfl (fun z hz => by
      rw [List.mem_singleton.mp hz]
      exact ⟨by decide, by decide, by decide, w_834⟩)) (by decide) (by decide) (hts _ w_734) (va_Nw.use (cNest_on _ cn_9) (hK.2.2.1 _ cn_9)) hce hcv hcl ?_
      refine lv_astore hx hb dL_undeclare_17 hl (Nat.le_of_ble_eq_true rfl) rfl (fun ls hl => ?_)
      refine lv_iconst (v := (1 + 1 : Int32)) hx hb dL_undeclare_19 (by decide) ?_
      exact l_rx X hk hn hP hS hO ho dL_undeclare_20
  · obtain rfl := lcd_r hk hv
    refine W.eq (g2 := F0 m 8 ls [.int u, .int 0, .ref o]) rfl ?_
    refine lv_i2l hx hb dL_undeclare_8 rfl ?_
    refine l_last (w := w) X hAr hP hS hO ho hi dL_undeclare_9 (fun H locs hP hS hO => ?_)
    refine lv_goto (tgt := 21) hx hb dL_undeclare_10 rfl ?_
    refine lv_iconst (v := 0) hx hb dL_undeclare_21 (by decide) ?_
    exact l_rn X hk rfl hP hS hO dL_undeclare_22
theorem ww_L_undeclare : Cond.static yL_undeclare ∈ BG ∧ Cond.initialized (yL_undeclare).cls ∈ BG ∧ Cond.codeWith yL_undeclare cL_undeclare 5 (some .int) [(0, 10, 13, 21), (0, 10, 17, 13)] ∈ BG := ⟨w_1293, w_143, w_1294⟩
theorem hy_L_undeclare : (yL_undeclare).cls ≠ "java/lang/invoke/MethodHandle" ∧ (yL_undeclare).cls ≠ "java/lang/invoke/VarHandle" ∧ (parseMethodDescriptor (yL_undeclare).desc).map (fun d => d.parameters.length) = some 4 := ⟨by decide, by decide, by decide +kernel⟩
set_option maxRecDepth 20000 in
set_option maxHeartbeats 4000000 in
theorem K_L_setWidth (l : Launch) (hl9 : l.stackTraces = false) (D : cD) (Φ : cG) (σ : cS) (o : Nat) (cL : ClassId) (w : Int64) (x0 : Nat) (x1 : Int32) {q : (Nat ⊕ Int32) × cS} {v : Int32} (hrc : rc σ (some x0) 11 = some x0) (h : f_X11_setWidth x0 x1 σ = some q) (hv : lcd [0] q.1 = some v) : Met l yL_setWidth (Cond.codeWith yL_setWidth cL_setWidth 4 (some .int) [(0, 9, 12, 13)] :: BG) (rA 8 1 6 132) (lPc D Φ σ o cL w [cv Φ (some x0), .int x1, .ref o]) (lQ D Φ q o cL lvN v) 1 6 (lA Φ o) := by
  refine va_MetW (cc := cL_setWidth) (maxL := 4) (ret := some .int) (hh := [(0, 9, 12, 13)]) (by decide) rfl ?_
  intro p e s m args below meth c s₁ B hml hv9
  obtain ⟨rfl, ⟨hP, hK, hZ, hN⟩, hAr, hO, ho, hi⟩ := hv9
  have X : cX p s m [cv Φ (some x0), .int x1, .ref o].toArray meth c cL_setWidth 4 (some .int) "CascaderyLaw" D Φ := cX_ofW B hml hK hZ
  have htab : c.exceptionTable.toList = tableOf [(0, 9, 12, 13)] := vx_table (x := yL_setWidth) B (atoms_spec (ws := Cond.codeWith yL_setWidth cL_setWidth 4 (some .int) [(0, 9, 12, 13)] :: BG) B.pre _ List.mem_cons_self)
  have hx := X.1
  have hb := X.2.1
  have hown := X.2.2.2.1
  have hts := X.2.2.2.2.1
  have hl := lv_entry [cv Φ (some x0), .int x1, .ref o] (n := 4) (by simp only [lgs_r, lgs_i, lgs_l, lgs_0, List.length]; exact Nat.le_of_ble_eq_true rfl)
  rw [lg_entry_eq]
  generalize (lg_sl [cv Φ (some x0), .int x1, .ref o] ++ List.replicate (4 - (lg_sl [cv Φ (some x0), .int x1, .ref o]).length) Slot.unset).toArray = ls at hl ⊢
  simp only [lv_args_r, lv_args_i, lv_args_l, lv_args_0] at hl
  have hl : lv_has ls 4 [(0, cv Φ (some x0)), (1, .int x1), (2, .ref o)] := hl
  show W p l e (rA 8 1 6 132) s m [cv Φ (some x0), .int x1, .ref o].toArray below meth c s.heap [] 0 0 (MQ below (lQ D Φ q o cL lvN v) [cv Φ (some x0), .int x1, .ref o].toArray s 1 6 (lA Φ o)) (F0 m 0 ls [])
  refine lv_aload_n hx hb dL_setWidth_0 rfl (lv_at hl 2 rfl) ?_
  refine lv_iconst (v := 0) hx hb dL_setWidth_1 (by decide) ?_
  refine c_aload_n hx hb dL_setWidth_2 rfl (lv_at hl 0 rfl) ?_
  refine lv_iload_n hx hb dL_setWidth_3 rfl (lv_at hl 1 rfl) ?_
  refine l_call (c_tV (rest := [.int 0, .ref o]) X (K_X11_setWidth l hl9 D Φ σ x0 x1 h) hrc (Nat.le_of_ble_eq_true rfl) ⟨w_1302, ww_X11_setWidth⟩ rfl hy_X11_setWidth rfl ⟨(Nat.le_of_ble_eq_true rfl), (Nat.le_of_ble_eq_true rfl)⟩ hP va_S.rf hl.1 (Nat.le_of_ble_eq_true rfl) dL_setWidth_4 rfl ⟨(Nat.le_of_ble_eq_true rfl), (Nat.le_of_ble_eq_true rfl)⟩) (fun k n q9 ce H locs hk hn hP hS hce hcv hcl => ?_) (fun u H locs hk hP hS => ?_)
  · have hc : lcdL [0] k 1 = some v := lcd_l hk hv
    obtain ⟨rfl, rfl⟩ := lcd1 hc
    refine vx_catch (E := excN 0) (name := excN 0) hown (tableOf []) ⟨0, 9, 12, 13⟩ (tableOf []) htab (l_pass (k := 0) X hN (by decide) (f := []) rfl (fun z hz => by cases hz)) (by decide) (by decide) (hts _ w_734) (va_Nw.use (cNest_on _ cn_9) (hK.2.2.1 _ cn_9)) hce hcv hcl ?_
    refine lv_astore_n hx hb dL_setWidth_12 rfl hl (Nat.le_of_ble_eq_true rfl) rfl (fun ls hl => ?_)
    refine lv_iconst (v := (1 : Int32)) hx hb dL_setWidth_13 (by decide) ?_
    exact l_rx X hk hn hP hS hO ho dL_setWidth_14
  · obtain rfl := lcd_r hk hv
    refine W.eq (g2 := F0 m 7 ls [.int u, .int 0, .ref o]) rfl ?_
    refine lv_i2l hx hb dL_setWidth_7 rfl ?_
    refine l_last (w := w) X hAr hP hS hO ho hi dL_setWidth_8 (fun H locs hP hS hO => ?_)
    refine lv_goto (tgt := 15) hx hb dL_setWidth_9 rfl ?_
    refine lv_iconst (v := 0) hx hb dL_setWidth_15 (by decide) ?_
    exact l_rn X hk rfl hP hS hO dL_setWidth_16
theorem ww_L_setWidth : Cond.static yL_setWidth ∈ BG ∧ Cond.initialized (yL_setWidth).cls ∈ BG ∧ Cond.codeWith yL_setWidth cL_setWidth 4 (some .int) [(0, 9, 12, 13)] ∈ BG := ⟨w_1300, w_143, w_1301⟩
theorem hy_L_setWidth : (yL_setWidth).cls ≠ "java/lang/invoke/MethodHandle" ∧ (yL_setWidth).cls ≠ "java/lang/invoke/VarHandle" ∧ (parseMethodDescriptor (yL_setWidth).desc).map (fun d => d.parameters.length) = some 3 := ⟨by decide, by decide, by decide +kernel⟩
set_option maxRecDepth 20000 in
set_option maxHeartbeats 4000000 in
theorem K_L_value (l : Launch) (hl9 : l.stackTraces = false) (D : cD) (Φ : cG) (σ : cS) (o : Nat) (cL : ClassId) (w : Int64) (x0 : Nat) (x1 : Int32) (x2 : Int32) {q : (Nat ⊕ Int32) × cS} {v : Int32} (hrc : rc σ (some x0) 11 = some x0) (h : f_X11_value x0 x1 x2 σ = some q) (hv : lcd [2, 0, 1] q.1 = some v) : Met l yL_value (Cond.codeWith yL_value cL_value 5 (some .int) [(0, 10, 13, 21), (0, 10, 17, 13), (0, 10, 21, 15)] :: BG) (rA 8 3 18 201) (lPc D Φ σ o cL w [cv Φ (some x0), .int x1, .int x2, .ref o]) (lQ D Φ q o cL lvN v) 3 18 (lA Φ o) := by
  refine va_MetW (cc := cL_value) (maxL := 5) (ret := some .int) (hh := [(0, 10, 13, 21), (0, 10, 17, 13), (0, 10, 21, 15)]) (by decide) rfl ?_
  intro p e s m args below meth c s₁ B hml hv9
  obtain ⟨rfl, ⟨hP, hK, hZ, hN⟩, hAr, hO, ho, hi⟩ := hv9
  have X : cX p s m [cv Φ (some x0), .int x1, .int x2, .ref o].toArray meth c cL_value 5 (some .int) "CascaderyLaw" D Φ := cX_ofW B hml hK hZ
  have htab : c.exceptionTable.toList = tableOf [(0, 10, 13, 21), (0, 10, 17, 13), (0, 10, 21, 15)] := vx_table (x := yL_value) B (atoms_spec (ws := Cond.codeWith yL_value cL_value 5 (some .int) [(0, 10, 13, 21), (0, 10, 17, 13), (0, 10, 21, 15)] :: BG) B.pre _ List.mem_cons_self)
  have hx := X.1
  have hb := X.2.1
  have hown := X.2.2.2.1
  have hts := X.2.2.2.2.1
  have hl := lv_entry [cv Φ (some x0), .int x1, .int x2, .ref o] (n := 5) (by simp only [lgs_r, lgs_i, lgs_l, lgs_0, List.length]; exact Nat.le_of_ble_eq_true rfl)
  rw [lg_entry_eq]
  generalize (lg_sl [cv Φ (some x0), .int x1, .int x2, .ref o] ++ List.replicate (5 - (lg_sl [cv Φ (some x0), .int x1, .int x2, .ref o]).length) Slot.unset).toArray = ls at hl ⊢
  simp only [lv_args_r, lv_args_i, lv_args_l, lv_args_0] at hl
  have hl : lv_has ls 5 [(0, cv Φ (some x0)), (1, .int x1), (2, .int x2), (3, .ref o)] := hl
  show W p l e (rA 8 3 18 201) s m [cv Φ (some x0), .int x1, .int x2, .ref o].toArray below meth c s.heap [] 0 0 (MQ below (lQ D Φ q o cL lvN v) [cv Φ (some x0), .int x1, .int x2, .ref o].toArray s 3 18 (lA Φ o)) (F0 m 0 ls [])
  refine lv_aload_n hx hb dL_value_0 rfl (lv_at hl 3 rfl) ?_
  refine lv_iconst (v := 0) hx hb dL_value_1 (by decide) ?_
  refine c_aload_n hx hb dL_value_2 rfl (lv_at hl 0 rfl) ?_
  refine lv_iload_n hx hb dL_value_3 rfl (lv_at hl 1 rfl) ?_
  refine lv_iload_n hx hb dL_value_4 rfl (lv_at hl 2 rfl) ?_
  refine l_call (c_tV (rest := [.int 0, .ref o]) X (K_X11_value l hl9 D Φ σ x0 x1 x2 h) hrc (Nat.le_of_ble_eq_true rfl) ⟨w_1309, ww_X11_value⟩ rfl hy_X11_value rfl ⟨(Nat.le_of_ble_eq_true rfl), (Nat.le_of_ble_eq_true rfl)⟩ hP va_S.rf hl.1 (Nat.le_of_ble_eq_true rfl) dL_value_5 rfl ⟨(Nat.le_of_ble_eq_true rfl), (Nat.le_of_ble_eq_true rfl)⟩) (fun k n q9 ce H locs hk hn hP hS hce hcv hcl => ?_) (fun u H locs hk hP hS => ?_)
  · have hc : lcdL [2, 0, 1] k 1 = some v := lcd_l hk hv
    rcases lcd3 hc with ⟨rfl, rfl⟩ | ⟨rfl, rfl⟩ | ⟨rfl, rfl⟩
    · refine vx_catch (E := excN 2) (name := excN 2) hown (tableOf []) ⟨0, 10, 13, 21⟩ (tableOf [(0, 10, 17, 13), (0, 10, 21, 15)]) htab (l_pass (k := 2) X hN (by decide) (f := []) rfl (fun z hz => by cases hz)) (by decide) (by decide) (hts _ w_834) (va_Nw.use (cNest_on _ cn_11) (hK.2.2.1 _ cn_11)) hce hcv hcl ?_
      refine lv_astore hx hb dL_value_13 hl (Nat.le_of_ble_eq_true rfl) rfl (fun ls hl => ?_)
      refine lv_iconst (v := (1 : Int32)) hx hb dL_value_15 (by decide) ?_
      exact l_rx X hk hn hP hS hO ho dL_value_16
    · refine vx_catch (E := excN 0) (name := excN 0) hown (tableOf [(0, 10, 13, 21)]) ⟨0, 10, 17, 13⟩ (tableOf [(0, 10, 21, 15)]) htab (l_pass (k := 0) X hN (by decide) (f := [(21, 2)]) rfl (fun z hz => by
      rw [List.mem_singleton.mp hz]
      exact ⟨by decide, by decide, by decide, w_834⟩)) (by decide) (by decide) (hts _ w_734) (va_Nw.use (cNest_on _ cn_9) (hK.2.2.1 _ cn_9)) hce hcv hcl ?_
      refine lv_astore hx hb dL_value_17 hl (Nat.le_of_ble_eq_true rfl) rfl (fun ls hl => ?_)
      refine lv_iconst (v := (1 + 1 : Int32)) hx hb dL_value_19 (by decide) ?_
      exact l_rx X hk hn hP hS hO ho dL_value_20
    · refine vx_catch (E := excN 1) (name := excN 1) hown (tableOf [(0, 10, 13, 21), (0, 10, 17, 13)]) ⟨0, 10, 21, 15⟩ (tableOf []) htab (l_pass (k := 1) X hN (by decide) (f := [(21, 2), (13, 0)]) rfl (fun z hz => by
      rcases List.mem_cons.mp hz with rfl | hz
      · exact ⟨by decide, by decide, by decide, w_834⟩
      · rw [List.mem_singleton.mp hz]
        exact ⟨by decide, by decide, by decide, w_734⟩)) (by decide) (by decide) (hts _ w_735) (va_Nw.use (cNest_on _ cn_10) (hK.2.2.1 _ cn_10)) hce hcv hcl ?_
      refine lv_astore hx hb dL_value_21 hl (Nat.le_of_ble_eq_true rfl) rfl (fun ls hl => ?_)
      refine lv_iconst (v := (1 + 1 + 1 : Int32)) hx hb dL_value_23 (by decide) ?_
      exact l_rx X hk hn hP hS hO ho dL_value_24
  · obtain rfl := lcd_r hk hv
    refine W.eq (g2 := F0 m 8 ls [.int u, .int 0, .ref o]) rfl ?_
    refine lv_i2l hx hb dL_value_8 rfl ?_
    refine l_last (w := w) X hAr hP hS hO ho hi dL_value_9 (fun H locs hP hS hO => ?_)
    refine lv_goto (tgt := 25) hx hb dL_value_10 rfl ?_
    refine lv_iconst (v := 0) hx hb dL_value_25 (by decide) ?_
    exact l_rn X hk rfl hP hS hO dL_value_26
theorem ww_L_value : Cond.static yL_value ∈ BG ∧ Cond.initialized (yL_value).cls ∈ BG ∧ Cond.codeWith yL_value cL_value 5 (some .int) [(0, 10, 13, 21), (0, 10, 17, 13), (0, 10, 21, 15)] ∈ BG := ⟨w_1307, w_143, w_1308⟩
theorem hy_L_value : (yL_value).cls ≠ "java/lang/invoke/MethodHandle" ∧ (yL_value).cls ≠ "java/lang/invoke/VarHandle" ∧ (parseMethodDescriptor (yL_value).desc).map (fun d => d.parameters.length) = some 4 := ⟨by decide, by decide, by decide +kernel⟩
set_option maxRecDepth 20000 in
set_option maxHeartbeats 4000000 in
theorem K_L_size (l : Launch) (hl9 : l.stackTraces = false) (D : cD) (Φ : cG) (σ : cS) (o : Nat) (cL : ClassId) (w : Int64) (x0 : Nat) (x1 : Int32) {q : (Nat ⊕ Int32) × cS} {v : Int32} (hrc : rc σ (some x0) 11 = some x0) (h : f_X11_size x0 x1 σ = some q) (hv : lcd [2, 1] q.1 = some v) : Met l yL_size (Cond.codeWith yL_size cL_size 4 (some .int) [(0, 9, 12, 21), (0, 9, 15, 15)] :: BG) (rA 8 2 12 200) (lPc D Φ σ o cL w [cv Φ (some x0), .int x1, .ref o]) (lQ D Φ q o cL lvN v) 2 12 (lA Φ o) := by
  refine va_MetW (cc := cL_size) (maxL := 4) (ret := some .int) (hh := [(0, 9, 12, 21), (0, 9, 15, 15)]) (by decide) rfl ?_
  intro p e s m args below meth c s₁ B hml hv9
  obtain ⟨rfl, ⟨hP, hK, hZ, hN⟩, hAr, hO, ho, hi⟩ := hv9
  have X : cX p s m [cv Φ (some x0), .int x1, .ref o].toArray meth c cL_size 4 (some .int) "CascaderyLaw" D Φ := cX_ofW B hml hK hZ
  have htab : c.exceptionTable.toList = tableOf [(0, 9, 12, 21), (0, 9, 15, 15)] := vx_table (x := yL_size) B (atoms_spec (ws := Cond.codeWith yL_size cL_size 4 (some .int) [(0, 9, 12, 21), (0, 9, 15, 15)] :: BG) B.pre _ List.mem_cons_self)
  have hx := X.1
  have hb := X.2.1
  have hown := X.2.2.2.1
  have hts := X.2.2.2.2.1
  have hl := lv_entry [cv Φ (some x0), .int x1, .ref o] (n := 4) (by simp only [lgs_r, lgs_i, lgs_l, lgs_0, List.length]; exact Nat.le_of_ble_eq_true rfl)
  rw [lg_entry_eq]
  generalize (lg_sl [cv Φ (some x0), .int x1, .ref o] ++ List.replicate (4 - (lg_sl [cv Φ (some x0), .int x1, .ref o]).length) Slot.unset).toArray = ls at hl ⊢
  simp only [lv_args_r, lv_args_i, lv_args_l, lv_args_0] at hl
  have hl : lv_has ls 4 [(0, cv Φ (some x0)), (1, .int x1), (2, .ref o)] := hl
  show W p l e (rA 8 2 12 200) s m [cv Φ (some x0), .int x1, .ref o].toArray below meth c s.heap [] 0 0 (MQ below (lQ D Φ q o cL lvN v) [cv Φ (some x0), .int x1, .ref o].toArray s 2 12 (lA Φ o)) (F0 m 0 ls [])
  refine lv_aload_n hx hb dL_size_0 rfl (lv_at hl 2 rfl) ?_
  refine lv_iconst (v := 0) hx hb dL_size_1 (by decide) ?_
  refine c_aload_n hx hb dL_size_2 rfl (lv_at hl 0 rfl) ?_
  refine lv_iload_n hx hb dL_size_3 rfl (lv_at hl 1 rfl) ?_
  refine l_call (c_tV (rest := [.int 0, .ref o]) X (K_X11_size l hl9 D Φ σ x0 x1 h) hrc (Nat.le_of_ble_eq_true rfl) ⟨w_1460, ww_X11_size⟩ rfl hy_X11_size rfl ⟨(Nat.le_of_ble_eq_true rfl), (Nat.le_of_ble_eq_true rfl)⟩ hP va_S.rf hl.1 (Nat.le_of_ble_eq_true rfl) dL_size_4 rfl ⟨(Nat.le_of_ble_eq_true rfl), (Nat.le_of_ble_eq_true rfl)⟩) (fun k n q9 ce H locs hk hn hP hS hce hcv hcl => ?_) (fun u H locs hk hP hS => ?_)
  · have hc : lcdL [2, 1] k 1 = some v := lcd_l hk hv
    rcases lcd2 hc with ⟨rfl, rfl⟩ | ⟨rfl, rfl⟩
    · refine vx_catch (E := excN 2) (name := excN 2) hown (tableOf []) ⟨0, 9, 12, 21⟩ (tableOf [(0, 9, 15, 15)]) htab (l_pass (k := 2) X hN (by decide) (f := []) rfl (fun z hz => by cases hz)) (by decide) (by decide) (hts _ w_834) (va_Nw.use (cNest_on _ cn_11) (hK.2.2.1 _ cn_11)) hce hcv hcl ?_
      refine lv_astore_n hx hb dL_size_12 rfl hl (Nat.le_of_ble_eq_true rfl) rfl (fun ls hl => ?_)
      refine lv_iconst (v := (1 : Int32)) hx hb dL_size_13 (by decide) ?_
      exact l_rx X hk hn hP hS hO ho dL_size_14
    · refine vx_catch (E := excN 1) (name := excN 1) hown (tableOf [(0, 9, 12, 21)]) ⟨0, 9, 15, 15⟩ (tableOf []) htab (l_pass (k := 1) X hN (by decide) (f := [(21, 2)]) rfl (fun z hz => by
      rw [List.mem_singleton.mp hz]
      exact ⟨by decide, by decide, by decide, w_834⟩)) (by decide) (by decide) (hts _ w_735) (va_Nw.use (cNest_on _ cn_10) (hK.2.2.1 _ cn_10)) hce hcv hcl ?_
      refine lv_astore_n hx hb dL_size_15 rfl hl (Nat.le_of_ble_eq_true rfl) rfl (fun ls hl => ?_)
      refine lv_iconst (v := (1 + 1 : Int32)) hx hb dL_size_16 (by decide) ?_
      exact l_rx X hk hn hP hS hO ho dL_size_17
  · obtain rfl := lcd_r hk hv
    refine W.eq (g2 := F0 m 7 ls [.int u, .int 0, .ref o]) rfl ?_
    refine lv_i2l hx hb dL_size_7 rfl ?_
    refine l_last (w := w) X hAr hP hS hO ho hi dL_size_8 (fun H locs hP hS hO => ?_)
    refine lv_goto (tgt := 18) hx hb dL_size_9 rfl ?_
    refine lv_iconst (v := 0) hx hb dL_size_18 (by decide) ?_
    exact l_rn X hk rfl hP hS hO dL_size_19
theorem ww_L_size : Cond.static yL_size ∈ BG ∧ Cond.initialized (yL_size).cls ∈ BG ∧ Cond.codeWith yL_size cL_size 4 (some .int) [(0, 9, 12, 21), (0, 9, 15, 15)] ∈ BG := ⟨w_1458, w_143, w_1459⟩
theorem hy_L_size : (yL_size).cls ≠ "java/lang/invoke/MethodHandle" ∧ (yL_size).cls ≠ "java/lang/invoke/VarHandle" ∧ (parseMethodDescriptor (yL_size).desc).map (fun d => d.parameters.length) = some 3 := ⟨by decide, by decide, by decide +kernel⟩
set_option maxRecDepth 20000 in
set_option maxHeartbeats 4000000 in
theorem K_L_seen (l : Launch) (hl9 : l.stackTraces = false) (D : cD) (Φ : cG) (σ : cS) (o : Nat) (cL : ClassId) (w : Int64) (x0 : Nat) (x1 : Int32) (x2 : Int32) {q : (Nat ⊕ Int32) × cS} {v : Int32} (hrc : rc σ (some x0) 11 = some x0) (h : f_X11_seen x0 x1 x2 σ = some q) (hv : lcd [2, 0, 1] q.1 = some v) : Met l yL_seen (Cond.codeWith yL_seen cL_seen 5 (some .int) [(0, 10, 13, 21), (0, 10, 17, 13), (0, 10, 21, 15)] :: BG) (rA 8 3 18 201) (lPc D Φ σ o cL w [cv Φ (some x0), .int x1, .int x2, .ref o]) (lQ D Φ q o cL lvN v) 3 18 (lA Φ o) := by
  refine va_MetW (cc := cL_seen) (maxL := 5) (ret := some .int) (hh := [(0, 10, 13, 21), (0, 10, 17, 13), (0, 10, 21, 15)]) (by decide) rfl ?_
  intro p e s m args below meth c s₁ B hml hv9
  obtain ⟨rfl, ⟨hP, hK, hZ, hN⟩, hAr, hO, ho, hi⟩ := hv9
  have X : cX p s m [cv Φ (some x0), .int x1, .int x2, .ref o].toArray meth c cL_seen 5 (some .int) "CascaderyLaw" D Φ := cX_ofW B hml hK hZ
  have htab : c.exceptionTable.toList = tableOf [(0, 10, 13, 21), (0, 10, 17, 13), (0, 10, 21, 15)] := vx_table (x := yL_seen) B (atoms_spec (ws := Cond.codeWith yL_seen cL_seen 5 (some .int) [(0, 10, 13, 21), (0, 10, 17, 13), (0, 10, 21, 15)] :: BG) B.pre _ List.mem_cons_self)
  have hx := X.1
  have hb := X.2.1
  have hown := X.2.2.2.1
  have hts := X.2.2.2.2.1
  have hl := lv_entry [cv Φ (some x0), .int x1, .int x2, .ref o] (n := 5) (by simp only [lgs_r, lgs_i, lgs_l, lgs_0, List.length]; exact Nat.le_of_ble_eq_true rfl)
  rw [lg_entry_eq]
  generalize (lg_sl [cv Φ (some x0), .int x1, .int x2, .ref o] ++ List.replicate (5 - (lg_sl [cv Φ (some x0), .int x1, .int x2, .ref o]).length) Slot.unset).toArray = ls at hl ⊢
  simp only [lv_args_r, lv_args_i, lv_args_l, lv_args_0] at hl
  have hl : lv_has ls 5 [(0, cv Φ (some x0)), (1, .int x1), (2, .int x2), (3, .ref o)] := hl
  show W p l e (rA 8 3 18 201) s m [cv Φ (some x0), .int x1, .int x2, .ref o].toArray below meth c s.heap [] 0 0 (MQ below (lQ D Φ q o cL lvN v) [cv Φ (some x0), .int x1, .int x2, .ref o].toArray s 3 18 (lA Φ o)) (F0 m 0 ls [])
  refine lv_aload_n hx hb dL_seen_0 rfl (lv_at hl 3 rfl) ?_
  refine lv_iconst (v := 0) hx hb dL_seen_1 (by decide) ?_
  refine c_aload_n hx hb dL_seen_2 rfl (lv_at hl 0 rfl) ?_
  refine lv_iload_n hx hb dL_seen_3 rfl (lv_at hl 1 rfl) ?_
  refine lv_iload_n hx hb dL_seen_4 rfl (lv_at hl 2 rfl) ?_
  refine l_call (c_tV (rest := [.int 0, .ref o]) X (K_X11_seen l hl9 D Φ σ x0 x1 x2 h) hrc (Nat.le_of_ble_eq_true rfl) ⟨w_1467, ww_X11_seen⟩ rfl hy_X11_seen rfl ⟨(Nat.le_of_ble_eq_true rfl), (Nat.le_of_ble_eq_true rfl)⟩ hP va_S.rf hl.1 (Nat.le_of_ble_eq_true rfl) dL_seen_5 rfl ⟨(Nat.le_of_ble_eq_true rfl), (Nat.le_of_ble_eq_true rfl)⟩) (fun k n q9 ce H locs hk hn hP hS hce hcv hcl => ?_) (fun u H locs hk hP hS => ?_)
  · have hc : lcdL [2, 0, 1] k 1 = some v := lcd_l hk hv
    rcases lcd3 hc with ⟨rfl, rfl⟩ | ⟨rfl, rfl⟩ | ⟨rfl, rfl⟩
    · refine vx_catch (E := excN 2) (name := excN 2) hown (tableOf []) ⟨0, 10, 13, 21⟩ (tableOf [(0, 10, 17, 13), (0, 10, 21, 15)]) htab (l_pass (k := 2) X hN (by decide) (f := []) rfl (fun z hz => by cases hz)) (by decide) (by decide) (hts _ w_834) (va_Nw.use (cNest_on _ cn_11) (hK.2.2.1 _ cn_11)) hce hcv hcl ?_
      refine lv_astore hx hb dL_seen_13 hl (Nat.le_of_ble_eq_true rfl) rfl (fun ls hl => ?_)
      refine lv_iconst (v := (1 : Int32)) hx hb dL_seen_15 (by decide) ?_
      exact l_rx X hk hn hP hS hO ho dL_seen_16
    · refine vx_catch (E := excN 0) (name := excN 0) hown (tableOf [(0, 10, 13, 21)]) ⟨0, 10, 17, 13⟩ (tableOf [(0, 10, 21, 15)]) htab (l_pass (k := 0) X hN (by decide) (f := [(21, 2)]) rfl (fun z hz => by
      rw [List.mem_singleton.mp hz]
      exact ⟨by decide, by decide, by decide, w_834⟩)) (by decide) (by decide) (hts _ w_734) (va_Nw.use (cNest_on _ cn_9) (hK.2.2.1 _ cn_9)) hce hcv hcl ?_
      refine lv_astore hx hb dL_seen_17 hl (Nat.le_of_ble_eq_true rfl) rfl (fun ls hl => ?_)
      refine lv_iconst (v := (1 + 1 : Int32)) hx hb dL_seen_19 (by decide) ?_
      exact l_rx X hk hn hP hS hO ho dL_seen_20
    · refine vx_catch (E := excN 1) (name := excN 1) hown (tableOf [(0, 10, 13, 21), (0, 10, 17, 13)]) ⟨0, 10, 21, 15⟩ (tableOf []) htab (l_pass (k := 1) X hN (by decide) (f := [(21, 2), (13, 0)]) rfl (fun z hz => by
      rcases List.mem_cons.mp hz with rfl | hz
      · exact ⟨by decide, by decide, by decide, w_834⟩
      · rw [List.mem_singleton.mp hz]
        exact ⟨by decide, by decide, by decide, w_734⟩)) (by decide) (by decide) (hts _ w_735) (va_Nw.use (cNest_on _ cn_10) (hK.2.2.1 _ cn_10)) hce hcv hcl ?_
      refine lv_astore hx hb dL_seen_21 hl (Nat.le_of_ble_eq_true rfl) rfl (fun ls hl => ?_)
      refine lv_iconst (v := (1 + 1 + 1 : Int32)) hx hb dL_seen_23 (by decide) ?_
      exact l_rx X hk hn hP hS hO ho dL_seen_24
  · obtain rfl := lcd_r hk hv
    refine W.eq (g2 := F0 m 8 ls [.int u, .int 0, .ref o]) rfl ?_
    refine lv_i2l hx hb dL_seen_8 rfl ?_
    refine l_last (w := w) X hAr hP hS hO ho hi dL_seen_9 (fun H locs hP hS hO => ?_)
    refine lv_goto (tgt := 25) hx hb dL_seen_10 rfl ?_
    refine lv_iconst (v := 0) hx hb dL_seen_25 (by decide) ?_
    exact l_rn X hk rfl hP hS hO dL_seen_26
theorem ww_L_seen : Cond.static yL_seen ∈ BG ∧ Cond.initialized (yL_seen).cls ∈ BG ∧ Cond.codeWith yL_seen cL_seen 5 (some .int) [(0, 10, 13, 21), (0, 10, 17, 13), (0, 10, 21, 15)] ∈ BG := ⟨w_1465, w_143, w_1466⟩
theorem hy_L_seen : (yL_seen).cls ≠ "java/lang/invoke/MethodHandle" ∧ (yL_seen).cls ≠ "java/lang/invoke/VarHandle" ∧ (parseMethodDescriptor (yL_seen).desc).map (fun d => d.parameters.length) = some 4 := ⟨by decide, by decide, by decide +kernel⟩
set_option maxRecDepth 20000 in
set_option maxHeartbeats 4000000 in
theorem K_L_made (l : Launch) (hl9 : l.stackTraces = false) (D : cD) (Φ : cG) (σ : cS) (o : Nat) (cL : ClassId) (w : Int64) (x0 : Nat) (x1 : Int32) {q : (Nat ⊕ Int32) × cS} {v : Int32} (hrc : rc σ (some x0) 11 = some x0) (h : f_X11_made x0 x1 σ = some q) (hv : lcd [2, 1] q.1 = some v) : Met l yL_made (Cond.codeWith yL_made cL_made 4 (some .int) [(0, 9, 12, 21), (0, 9, 15, 15)] :: BG) (rA 8 2 12 200) (lPc D Φ σ o cL w [cv Φ (some x0), .int x1, .ref o]) (lQ D Φ q o cL lvN v) 2 12 (lA Φ o) := by
  refine va_MetW (cc := cL_made) (maxL := 4) (ret := some .int) (hh := [(0, 9, 12, 21), (0, 9, 15, 15)]) (by decide) rfl ?_
  intro p e s m args below meth c s₁ B hml hv9
  obtain ⟨rfl, ⟨hP, hK, hZ, hN⟩, hAr, hO, ho, hi⟩ := hv9
  have X : cX p s m [cv Φ (some x0), .int x1, .ref o].toArray meth c cL_made 4 (some .int) "CascaderyLaw" D Φ := cX_ofW B hml hK hZ
  have htab : c.exceptionTable.toList = tableOf [(0, 9, 12, 21), (0, 9, 15, 15)] := vx_table (x := yL_made) B (atoms_spec (ws := Cond.codeWith yL_made cL_made 4 (some .int) [(0, 9, 12, 21), (0, 9, 15, 15)] :: BG) B.pre _ List.mem_cons_self)
  have hx := X.1
  have hb := X.2.1
  have hown := X.2.2.2.1
  have hts := X.2.2.2.2.1
  have hl := lv_entry [cv Φ (some x0), .int x1, .ref o] (n := 4) (by simp only [lgs_r, lgs_i, lgs_l, lgs_0, List.length]; exact Nat.le_of_ble_eq_true rfl)
  rw [lg_entry_eq]
  generalize (lg_sl [cv Φ (some x0), .int x1, .ref o] ++ List.replicate (4 - (lg_sl [cv Φ (some x0), .int x1, .ref o]).length) Slot.unset).toArray = ls at hl ⊢
  simp only [lv_args_r, lv_args_i, lv_args_l, lv_args_0] at hl
  have hl : lv_has ls 4 [(0, cv Φ (some x0)), (1, .int x1), (2, .ref o)] := hl
  show W p l e (rA 8 2 12 200) s m [cv Φ (some x0), .int x1, .ref o].toArray below meth c s.heap [] 0 0 (MQ below (lQ D Φ q o cL lvN v) [cv Φ (some x0), .int x1, .ref o].toArray s 2 12 (lA Φ o)) (F0 m 0 ls [])
  refine lv_aload_n hx hb dL_made_0 rfl (lv_at hl 2 rfl) ?_
  refine lv_iconst (v := 0) hx hb dL_made_1 (by decide) ?_
  refine c_aload_n hx hb dL_made_2 rfl (lv_at hl 0 rfl) ?_
  refine lv_iload_n hx hb dL_made_3 rfl (lv_at hl 1 rfl) ?_
  refine l_call (c_tV (rest := [.int 0, .ref o]) X (K_X11_made l hl9 D Φ σ x0 x1 h) hrc (Nat.le_of_ble_eq_true rfl) ⟨w_1475, ww_X11_made⟩ rfl hy_X11_made rfl ⟨(Nat.le_of_ble_eq_true rfl), (Nat.le_of_ble_eq_true rfl)⟩ hP va_S.rf hl.1 (Nat.le_of_ble_eq_true rfl) dL_made_4 rfl ⟨(Nat.le_of_ble_eq_true rfl), (Nat.le_of_ble_eq_true rfl)⟩) (fun k n q9 ce H locs hk hn hP hS hce hcv hcl => ?_) (fun u H locs hk hP hS => ?_)
  · have hc : lcdL [2, 1] k 1 = some v := lcd_l hk hv
    rcases lcd2 hc with ⟨rfl, rfl⟩ | ⟨rfl, rfl⟩
    · refine vx_catch (E := excN 2) (name := excN 2) hown (tableOf []) ⟨0, 9, 12, 21⟩ (tableOf [(0, 9, 15, 15)]) htab (l_pass (k := 2) X hN (by decide) (f := []) rfl (fun z hz => by cases hz)) (by decide) (by decide) (hts _ w_834) (va_Nw.use (cNest_on _ cn_11) (hK.2.2.1 _ cn_11)) hce hcv hcl ?_
      refine lv_astore_n hx hb dL_made_12 rfl hl (Nat.le_of_ble_eq_true rfl) rfl (fun ls hl => ?_)
      refine lv_iconst (v := (1 : Int32)) hx hb dL_made_13 (by decide) ?_
      exact l_rx X hk hn hP hS hO ho dL_made_14
    · refine vx_catch (E := excN 1) (name := excN 1) hown (tableOf [(0, 9, 12, 21)]) ⟨0, 9, 15, 15⟩ (tableOf []) htab (l_pass (k := 1) X hN (by decide) (f := [(21, 2)]) rfl (fun z hz => by
      rw [List.mem_singleton.mp hz]
      exact ⟨by decide, by decide, by decide, w_834⟩)) (by decide) (by decide) (hts _ w_735) (va_Nw.use (cNest_on _ cn_10) (hK.2.2.1 _ cn_10)) hce hcv hcl ?_
      refine lv_astore_n hx hb dL_made_15 rfl hl (Nat.le_of_ble_eq_true rfl) rfl (fun ls hl => ?_)
      refine lv_iconst (v := (1 + 1 : Int32)) hx hb dL_made_16 (by decide) ?_
      exact l_rx X hk hn hP hS hO ho dL_made_17
  · obtain rfl := lcd_r hk hv
    refine W.eq (g2 := F0 m 7 ls [.int u, .int 0, .ref o]) rfl ?_
    refine lv_i2l hx hb dL_made_7 rfl ?_
    refine l_last (w := w) X hAr hP hS hO ho hi dL_made_8 (fun H locs hP hS hO => ?_)
    refine lv_goto (tgt := 18) hx hb dL_made_9 rfl ?_
    refine lv_iconst (v := 0) hx hb dL_made_18 (by decide) ?_
    exact l_rn X hk rfl hP hS hO dL_made_19
theorem ww_L_made : Cond.static yL_made ∈ BG ∧ Cond.initialized (yL_made).cls ∈ BG ∧ Cond.codeWith yL_made cL_made 4 (some .int) [(0, 9, 12, 21), (0, 9, 15, 15)] ∈ BG := ⟨w_1473, w_143, w_1474⟩
theorem hy_L_made : (yL_made).cls ≠ "java/lang/invoke/MethodHandle" ∧ (yL_made).cls ≠ "java/lang/invoke/VarHandle" ∧ (parseMethodDescriptor (yL_made).desc).map (fun d => d.parameters.length) = some 3 := ⟨by decide, by decide, by decide +kernel⟩
set_option maxRecDepth 20000 in
set_option maxHeartbeats 4000000 in
theorem K_L_why (l : Launch) (hl9 : l.stackTraces = false) (D : cD) (Φ : cG) (σ : cS) (o : Nat) (cL : ClassId) (w : Int64) (x0 : Nat) (x1 : Int32) (x2 : Int32) (x3 : Int32) {q : (Nat ⊕ Int32) × cS} {v : Int32} (hrc : rc σ (some x0) 11 = some x0) (h : f_X11_why x0 x1 x2 x3 σ = some q) (hv : lcd [2, 0, 1] q.1 = some v) : Met l yL_why (Cond.codeWith yL_why cL_why 6 (some .int) [(0, 12, 15, 21), (0, 12, 19, 13), (0, 12, 23, 15)] :: BG) (rA 8 4 24 203) (lPc D Φ σ o cL w [cv Φ (some x0), .int x1, .int x2, .int x3, .ref o]) (lQ D Φ q o cL lvN v) 4 24 (lA Φ o) := by
  refine va_MetW (cc := cL_why) (maxL := 6) (ret := some .int) (hh := [(0, 12, 15, 21), (0, 12, 19, 13), (0, 12, 23, 15)]) (by decide) rfl ?_
  intro p e s m args below meth c s₁ B hml hv9
  obtain ⟨rfl, ⟨hP, hK, hZ, hN⟩, hAr, hO, ho, hi⟩ := hv9
  have X : cX p s m [cv Φ (some x0), .int x1, .int x2, .int x3, .ref o].toArray meth c cL_why 6 (some .int) "CascaderyLaw" D Φ := cX_ofW B hml hK hZ
  have htab : c.exceptionTable.toList = tableOf [(0, 12, 15, 21), (0, 12, 19, 13), (0, 12, 23, 15)] := vx_table (x := yL_why) B (atoms_spec (ws := Cond.codeWith yL_why cL_why 6 (some .int) [(0, 12, 15, 21), (0, 12, 19, 13), (0, 12, 23, 15)] :: BG) B.pre _ List.mem_cons_self)
  have hx := X.1
  have hb := X.2.1
  have hown := X.2.2.2.1
  have hts := X.2.2.2.2.1
  have hl := lv_entry [cv Φ (some x0), .int x1, .int x2, .int x3, .ref o] (n := 6) (by simp only [lgs_r, lgs_i, lgs_l, lgs_0, List.length]; exact Nat.le_of_ble_eq_true rfl)
  rw [lg_entry_eq]
  generalize (lg_sl [cv Φ (some x0), .int x1, .int x2, .int x3, .ref o] ++ List.replicate (6 - (lg_sl [cv Φ (some x0), .int x1, .int x2, .int x3, .ref o]).length) Slot.unset).toArray = ls at hl ⊢
  simp only [lv_args_r, lv_args_i, lv_args_l, lv_args_0] at hl
  have hl : lv_has ls 6 [(0, cv Φ (some x0)), (1, .int x1), (2, .int x2), (3, .int x3), (4, .ref o)] := hl
  show W p l e (rA 8 4 24 203) s m [cv Φ (some x0), .int x1, .int x2, .int x3, .ref o].toArray below meth c s.heap [] 0 0 (MQ below (lQ D Φ q o cL lvN v) [cv Φ (some x0), .int x1, .int x2, .int x3, .ref o].toArray s 4 24 (lA Φ o)) (F0 m 0 ls [])
  refine lv_aload hx hb dL_why_0 (lv_at hl 4 rfl) ?_
  refine lv_iconst (v := 0) hx hb dL_why_2 (by decide) ?_
  refine c_aload_n hx hb dL_why_3 rfl (lv_at hl 0 rfl) ?_
  refine lv_iload_n hx hb dL_why_4 rfl (lv_at hl 1 rfl) ?_
  refine lv_iload_n hx hb dL_why_5 rfl (lv_at hl 2 rfl) ?_
  refine lv_iload_n hx hb dL_why_6 rfl (lv_at hl 3 rfl) ?_
  refine l_call (c_tV (rest := [.int 0, .ref o]) X (K_X11_why l hl9 D Φ σ x0 x1 x2 x3 h) hrc (Nat.le_of_ble_eq_true rfl) ⟨w_1486, ww_X11_why⟩ rfl hy_X11_why rfl ⟨(Nat.le_of_ble_eq_true rfl), (Nat.le_of_ble_eq_true rfl)⟩ hP va_S.rf hl.1 (Nat.le_of_ble_eq_true rfl) dL_why_7 rfl ⟨(Nat.le_of_ble_eq_true rfl), (Nat.le_of_ble_eq_true rfl)⟩) (fun k n q9 ce H locs hk hn hP hS hce hcv hcl => ?_) (fun u H locs hk hP hS => ?_)
  · have hc : lcdL [2, 0, 1] k 1 = some v := lcd_l hk hv
    rcases lcd3 hc with ⟨rfl, rfl⟩ | ⟨rfl, rfl⟩ | ⟨rfl, rfl⟩
    · refine vx_catch (E := excN 2) (name := excN 2) hown (tableOf []) ⟨0, 12, 15, 21⟩ (tableOf [(0, 12, 19, 13), (0, 12, 23, 15)]) htab (l_pass (k := 2) X hN (by decide) (f := []) rfl (fun z hz => by cases hz)) (by decide) (by decide) (hts _ w_834) (va_Nw.use (cNest_on _ cn_11) (hK.2.2.1 _ cn_11)) hce hcv hcl ?_
      refine lv_astore hx hb dL_why_15 hl (Nat.le_of_ble_eq_true rfl) rfl (fun ls hl => ?_)
      refine lv_iconst (v := (1 : Int32)) hx hb dL_why_17 (by decide) ?_
      exact l_rx X hk hn hP hS hO ho dL_why_18
    · refine vx_catch (E := excN 0) (name := excN 0) hown (tableOf [(0, 12, 15, 21)]) ⟨0, 12, 19, 13⟩ (tableOf [(0, 12, 23, 15)]) htab (l_pass (k := 0) X hN (by decide) (f := [(21, 2)]) rfl (fun z hz => by
      rw [List.mem_singleton.mp hz]
      exact ⟨by decide, by decide, by decide, w_834⟩)) (by decide) (by decide) (hts _ w_734) (va_Nw.use (cNest_on _ cn_9) (hK.2.2.1 _ cn_9)) hce hcv hcl ?_
      refine lv_astore hx hb dL_why_19 hl (Nat.le_of_ble_eq_true rfl) rfl (fun ls hl => ?_)
      refine lv_iconst (v := (1 + 1 : Int32)) hx hb dL_why_21 (by decide) ?_
      exact l_rx X hk hn hP hS hO ho dL_why_22
    · refine vx_catch (E := excN 1) (name := excN 1) hown (tableOf [(0, 12, 15, 21), (0, 12, 19, 13)]) ⟨0, 12, 23, 15⟩ (tableOf []) htab (l_pass (k := 1) X hN (by decide) (f := [(21, 2), (13, 0)]) rfl (fun z hz => by
      rcases List.mem_cons.mp hz with rfl | hz
      · exact ⟨by decide, by decide, by decide, w_834⟩
      · rw [List.mem_singleton.mp hz]
        exact ⟨by decide, by decide, by decide, w_734⟩)) (by decide) (by decide) (hts _ w_735) (va_Nw.use (cNest_on _ cn_10) (hK.2.2.1 _ cn_10)) hce hcv hcl ?_
      refine lv_astore hx hb dL_why_23 hl (Nat.le_of_ble_eq_true rfl) rfl (fun ls hl => ?_)
      refine lv_iconst (v := (1 + 1 + 1 : Int32)) hx hb dL_why_25 (by decide) ?_
      exact l_rx X hk hn hP hS hO ho dL_why_26
  · obtain rfl := lcd_r hk hv
    refine W.eq (g2 := F0 m 10 ls [.int u, .int 0, .ref o]) rfl ?_
    refine lv_i2l hx hb dL_why_10 rfl ?_
    refine l_last (w := w) X hAr hP hS hO ho hi dL_why_11 (fun H locs hP hS hO => ?_)
    refine lv_goto (tgt := 27) hx hb dL_why_12 rfl ?_
    refine lv_iconst (v := 0) hx hb dL_why_27 (by decide) ?_
    exact l_rn X hk rfl hP hS hO dL_why_28
theorem ww_L_why : Cond.static yL_why ∈ BG ∧ Cond.initialized (yL_why).cls ∈ BG ∧ Cond.codeWith yL_why cL_why 6 (some .int) [(0, 12, 15, 21), (0, 12, 19, 13), (0, 12, 23, 15)] ∈ BG := ⟨w_1484, w_143, w_1485⟩
theorem hy_L_why : (yL_why).cls ≠ "java/lang/invoke/MethodHandle" ∧ (yL_why).cls ≠ "java/lang/invoke/VarHandle" ∧ (parseMethodDescriptor (yL_why).desc).map (fun d => d.parameters.length) = some 5 := ⟨by decide, by decide, by decide +kernel⟩
set_option maxRecDepth 20000 in
set_option maxHeartbeats 4000000 in
theorem K_L_valueAnew (l : Launch) (hl9 : l.stackTraces = false) (D : cD) (Φ : cG) (σ : cS) (o : Nat) (cL : ClassId) (w : Int64) (x0 : Nat) (x1 : Int32) (x2 : Int32) {q : (Nat ⊕ Int32) × cS} {v : Int32} (hrc : rc σ (some x0) 11 = some x0) (h : f_X11_valueAnew x0 x1 x2 σ = some q) (hv : lcd [2, 0, 1] q.1 = some v) : Met l yL_valueAnew (Cond.codeWith yL_valueAnew cL_valueAnew 5 (some .int) [(0, 10, 13, 21), (0, 10, 17, 13), (0, 10, 21, 15)] :: BG) (rA 8 3 18 178) (lPc D Φ σ o cL w [cv Φ (some x0), .int x1, .int x2, .ref o]) (lQ D Φ q o cL lvN v) 3 18 (lA Φ o) := by
  refine va_MetW (cc := cL_valueAnew) (maxL := 5) (ret := some .int) (hh := [(0, 10, 13, 21), (0, 10, 17, 13), (0, 10, 21, 15)]) (by decide) rfl ?_
  intro p e s m args below meth c s₁ B hml hv9
  obtain ⟨rfl, ⟨hP, hK, hZ, hN⟩, hAr, hO, ho, hi⟩ := hv9
  have X : cX p s m [cv Φ (some x0), .int x1, .int x2, .ref o].toArray meth c cL_valueAnew 5 (some .int) "CascaderyLaw" D Φ := cX_ofW B hml hK hZ
  have htab : c.exceptionTable.toList = tableOf [(0, 10, 13, 21), (0, 10, 17, 13), (0, 10, 21, 15)] := vx_table (x := yL_valueAnew) B (atoms_spec (ws := Cond.codeWith yL_valueAnew cL_valueAnew 5 (some .int) [(0, 10, 13, 21), (0, 10, 17, 13), (0, 10, 21, 15)] :: BG) B.pre _ List.mem_cons_self)
  have hx := X.1
  have hb := X.2.1
  have hown := X.2.2.2.1
  have hts := X.2.2.2.2.1
  have hl := lv_entry [cv Φ (some x0), .int x1, .int x2, .ref o] (n := 5) (by simp only [lgs_r, lgs_i, lgs_l, lgs_0, List.length]; exact Nat.le_of_ble_eq_true rfl)
  rw [lg_entry_eq]
  generalize (lg_sl [cv Φ (some x0), .int x1, .int x2, .ref o] ++ List.replicate (5 - (lg_sl [cv Φ (some x0), .int x1, .int x2, .ref o]).length) Slot.unset).toArray = ls at hl ⊢
  simp only [lv_args_r, lv_args_i, lv_args_l, lv_args_0] at hl
  have hl : lv_has ls 5 [(0, cv Φ (some x0)), (1, .int x1), (2, .int x2), (3, .ref o)] := hl
  show W p l e (rA 8 3 18 178) s m [cv Φ (some x0), .int x1, .int x2, .ref o].toArray below meth c s.heap [] 0 0 (MQ below (lQ D Φ q o cL lvN v) [cv Φ (some x0), .int x1, .int x2, .ref o].toArray s 3 18 (lA Φ o)) (F0 m 0 ls [])
  refine lv_aload_n hx hb dL_valueAnew_0 rfl (lv_at hl 3 rfl) ?_
  refine lv_iconst (v := 0) hx hb dL_valueAnew_1 (by decide) ?_
  refine c_aload_n hx hb dL_valueAnew_2 rfl (lv_at hl 0 rfl) ?_
  refine lv_iload_n hx hb dL_valueAnew_3 rfl (lv_at hl 1 rfl) ?_
  refine lv_iload_n hx hb dL_valueAnew_4 rfl (lv_at hl 2 rfl) ?_
  refine l_call (c_tV (rest := [.int 0, .ref o]) X (K_X11_valueAnew l hl9 D Φ σ x0 x1 x2 h) hrc (Nat.le_of_ble_eq_true rfl) ⟨w_1501, ww_X11_valueAnew⟩ rfl hy_X11_valueAnew rfl ⟨(Nat.le_of_ble_eq_true rfl), (Nat.le_of_ble_eq_true rfl)⟩ hP va_S.rf hl.1 (Nat.le_of_ble_eq_true rfl) dL_valueAnew_5 rfl ⟨(Nat.le_of_ble_eq_true rfl), (Nat.le_of_ble_eq_true rfl)⟩) (fun k n q9 ce H locs hk hn hP hS hce hcv hcl => ?_) (fun u H locs hk hP hS => ?_)
  · have hc : lcdL [2, 0, 1] k 1 = some v := lcd_l hk hv
    rcases lcd3 hc with ⟨rfl, rfl⟩ | ⟨rfl, rfl⟩ | ⟨rfl, rfl⟩
    · refine vx_catch (E := excN 2) (name := excN 2) hown (tableOf []) ⟨0, 10, 13, 21⟩ (tableOf [(0, 10, 17, 13), (0, 10, 21, 15)]) htab (l_pass (k := 2) X hN (by decide) (f := []) rfl (fun z hz => by cases hz)) (by decide) (by decide) (hts _ w_834) (va_Nw.use (cNest_on _ cn_11) (hK.2.2.1 _ cn_11)) hce hcv hcl ?_
      refine lv_astore hx hb dL_valueAnew_13 hl (Nat.le_of_ble_eq_true rfl) rfl (fun ls hl => ?_)
      refine lv_iconst (v := (1 : Int32)) hx hb dL_valueAnew_15 (by decide) ?_
      exact l_rx X hk hn hP hS hO ho dL_valueAnew_16
    · refine vx_catch (E := excN 0) (name := excN 0) hown (tableOf [(0, 10, 13, 21)]) ⟨0, 10, 17, 13⟩ (tableOf [(0, 10, 21, 15)]) htab (l_pass (k := 0) X hN (by decide) (f := [(21, 2)]) rfl (fun z hz => by
      rw [List.mem_singleton.mp hz]
      exact ⟨by decide, by decide, by decide, w_834⟩)) (by decide) (by decide) (hts _ w_734) (va_Nw.use (cNest_on _ cn_9) (hK.2.2.1 _ cn_9)) hce hcv hcl ?_
      refine lv_astore hx hb dL_valueAnew_17 hl (Nat.le_of_ble_eq_true rfl) rfl (fun ls hl => ?_)
      refine lv_iconst (v := (1 + 1 : Int32)) hx hb dL_valueAnew_19 (by decide) ?_
      exact l_rx X hk hn hP hS hO ho dL_valueAnew_20
    · refine vx_catch (E := excN 1) (name := excN 1) hown (tableOf [(0, 10, 13, 21), (0, 10, 17, 13)]) ⟨0, 10, 21, 15⟩ (tableOf []) htab (l_pass (k := 1) X hN (by decide) (f := [(21, 2), (13, 0)]) rfl (fun z hz => by
      rcases List.mem_cons.mp hz with rfl | hz
      · exact ⟨by decide, by decide, by decide, w_834⟩
      · rw [List.mem_singleton.mp hz]
        exact ⟨by decide, by decide, by decide, w_734⟩)) (by decide) (by decide) (hts _ w_735) (va_Nw.use (cNest_on _ cn_10) (hK.2.2.1 _ cn_10)) hce hcv hcl ?_
      refine lv_astore hx hb dL_valueAnew_21 hl (Nat.le_of_ble_eq_true rfl) rfl (fun ls hl => ?_)
      refine lv_iconst (v := (1 + 1 + 1 : Int32)) hx hb dL_valueAnew_23 (by decide) ?_
      exact l_rx X hk hn hP hS hO ho dL_valueAnew_24
  · obtain rfl := lcd_r hk hv
    refine W.eq (g2 := F0 m 8 ls [.int u, .int 0, .ref o]) rfl ?_
    refine lv_i2l hx hb dL_valueAnew_8 rfl ?_
    refine l_last (w := w) X hAr hP hS hO ho hi dL_valueAnew_9 (fun H locs hP hS hO => ?_)
    refine lv_goto (tgt := 25) hx hb dL_valueAnew_10 rfl ?_
    refine lv_iconst (v := 0) hx hb dL_valueAnew_25 (by decide) ?_
    exact l_rn X hk rfl hP hS hO dL_valueAnew_26
theorem ww_L_valueAnew : Cond.static yL_valueAnew ∈ BG ∧ Cond.initialized (yL_valueAnew).cls ∈ BG ∧ Cond.codeWith yL_valueAnew cL_valueAnew 5 (some .int) [(0, 10, 13, 21), (0, 10, 17, 13), (0, 10, 21, 15)] ∈ BG := ⟨w_1499, w_143, w_1500⟩
theorem hy_L_valueAnew : (yL_valueAnew).cls ≠ "java/lang/invoke/MethodHandle" ∧ (yL_valueAnew).cls ≠ "java/lang/invoke/VarHandle" ∧ (parseMethodDescriptor (yL_valueAnew).desc).map (fun d => d.parameters.length) = some 4 := ⟨by decide, by decide, by decide +kernel⟩
set_option maxRecDepth 20000 in
set_option maxHeartbeats 4000000 in
theorem K_L_tick (l : Launch) (hl9 : l.stackTraces = false) (D : cD) (Φ : cG) (σ : cS) (o : Nat) (cL : ClassId) (w : Int64) (x0 : Nat) (x1 : Int32) {q : (Nat ⊕ Int32) × cS} {v : Int32} (hrc : rc σ (some x0) 11 = some x0) (h : f_X11_tick x0 x1 σ = some q) (hv : lcd [0] q.1 = some v) : Met l yL_tick (Cond.codeWith yL_tick cL_tick 4 (some .int) [(0, 9, 12, 13)] :: BG) (rA 8 1 6 131) (lPc D Φ σ o cL w [cv Φ (some x0), .int x1, .ref o]) (lQ D Φ q o cL lvN v) 1 6 (lA Φ o) := by
  refine va_MetW (cc := cL_tick) (maxL := 4) (ret := some .int) (hh := [(0, 9, 12, 13)]) (by decide) rfl ?_
  intro p e s m args below meth c s₁ B hml hv9
  obtain ⟨rfl, ⟨hP, hK, hZ, hN⟩, hAr, hO, ho, hi⟩ := hv9
  have X : cX p s m [cv Φ (some x0), .int x1, .ref o].toArray meth c cL_tick 4 (some .int) "CascaderyLaw" D Φ := cX_ofW B hml hK hZ
  have htab : c.exceptionTable.toList = tableOf [(0, 9, 12, 13)] := vx_table (x := yL_tick) B (atoms_spec (ws := Cond.codeWith yL_tick cL_tick 4 (some .int) [(0, 9, 12, 13)] :: BG) B.pre _ List.mem_cons_self)
  have hx := X.1
  have hb := X.2.1
  have hown := X.2.2.2.1
  have hts := X.2.2.2.2.1
  have hl := lv_entry [cv Φ (some x0), .int x1, .ref o] (n := 4) (by simp only [lgs_r, lgs_i, lgs_l, lgs_0, List.length]; exact Nat.le_of_ble_eq_true rfl)
  rw [lg_entry_eq]
  generalize (lg_sl [cv Φ (some x0), .int x1, .ref o] ++ List.replicate (4 - (lg_sl [cv Φ (some x0), .int x1, .ref o]).length) Slot.unset).toArray = ls at hl ⊢
  simp only [lv_args_r, lv_args_i, lv_args_l, lv_args_0] at hl
  have hl : lv_has ls 4 [(0, cv Φ (some x0)), (1, .int x1), (2, .ref o)] := hl
  show W p l e (rA 8 1 6 131) s m [cv Φ (some x0), .int x1, .ref o].toArray below meth c s.heap [] 0 0 (MQ below (lQ D Φ q o cL lvN v) [cv Φ (some x0), .int x1, .ref o].toArray s 1 6 (lA Φ o)) (F0 m 0 ls [])
  refine lv_aload_n hx hb dL_tick_0 rfl (lv_at hl 2 rfl) ?_
  refine lv_iconst (v := 0) hx hb dL_tick_1 (by decide) ?_
  refine c_aload_n hx hb dL_tick_2 rfl (lv_at hl 0 rfl) ?_
  refine lv_iload_n hx hb dL_tick_3 rfl (lv_at hl 1 rfl) ?_
  refine l_call (c_tV (rest := [.int 0, .ref o]) X (K_X11_tick l hl9 D Φ σ x0 x1 h) hrc (Nat.le_of_ble_eq_true rfl) ⟨w_1512, ww_X11_tick⟩ rfl hy_X11_tick rfl ⟨(Nat.le_of_ble_eq_true rfl), (Nat.le_of_ble_eq_true rfl)⟩ hP va_S.rf hl.1 (Nat.le_of_ble_eq_true rfl) dL_tick_4 rfl ⟨(Nat.le_of_ble_eq_true rfl), (Nat.le_of_ble_eq_true rfl)⟩) (fun k n q9 ce H locs hk hn hP hS hce hcv hcl => ?_) (fun u H locs hk hP hS => ?_)
  · have hc : lcdL [0] k 1 = some v := lcd_l hk hv
    obtain ⟨rfl, rfl⟩ := lcd1 hc
    refine vx_catch (E := excN 0) (name := excN 0) hown (tableOf []) ⟨0, 9, 12, 13⟩ (tableOf []) htab (l_pass (k := 0) X hN (by decide) (f := []) rfl (fun z hz => by cases hz)) (by decide) (by decide) (hts _ w_734) (va_Nw.use (cNest_on _ cn_9) (hK.2.2.1 _ cn_9)) hce hcv hcl ?_
    refine lv_astore_n hx hb dL_tick_12 rfl hl (Nat.le_of_ble_eq_true rfl) rfl (fun ls hl => ?_)
    refine lv_iconst (v := (1 : Int32)) hx hb dL_tick_13 (by decide) ?_
    exact l_rx X hk hn hP hS hO ho dL_tick_14
  · obtain rfl := lcd_r hk hv
    refine W.eq (g2 := F0 m 7 ls [.int u, .int 0, .ref o]) rfl ?_
    refine lv_i2l hx hb dL_tick_7 rfl ?_
    refine l_last (w := w) X hAr hP hS hO ho hi dL_tick_8 (fun H locs hP hS hO => ?_)
    refine lv_goto (tgt := 15) hx hb dL_tick_9 rfl ?_
    refine lv_iconst (v := 0) hx hb dL_tick_15 (by decide) ?_
    exact l_rn X hk rfl hP hS hO dL_tick_16
theorem ww_L_tick : Cond.static yL_tick ∈ BG ∧ Cond.initialized (yL_tick).cls ∈ BG ∧ Cond.codeWith yL_tick cL_tick 4 (some .int) [(0, 9, 12, 13)] ∈ BG := ⟨w_1510, w_143, w_1511⟩
theorem hy_L_tick : (yL_tick).cls ≠ "java/lang/invoke/MethodHandle" ∧ (yL_tick).cls ≠ "java/lang/invoke/VarHandle" ∧ (parseMethodDescriptor (yL_tick).desc).map (fun d => d.parameters.length) = some 3 := ⟨by decide, by decide, by decide +kernel⟩
set_option maxRecDepth 20000 in
set_option maxHeartbeats 4000000 in
theorem K_L_animation (l : Launch) (hl9 : l.stackTraces = false) (D : cD) (Φ : cG) (σ : cS) (x0 : Nat) (x1 : Int32) (x2 : Int32) (x3 : Int32) (x4 : Int32) {q : (Nat ⊕ Unit) × cS} {v : Int32} (hrc : rc σ (some x0) 11 = some x0) (h : f_X11_animation x0 x1 x2 x3 x4 σ = some q) (hv : lcd [0] q.1 = some v) : Met l yL_animation (Cond.codeWith yL_animation cL_animation 6 (some .int) [(0, 9, 12, 13)] :: BG) (rA 7 1 6 115) (lPc0 D Φ σ [cv Φ (some x0), .int x1, .int x2, .int x3, .int x4]) (lQ0 D Φ q v) 1 6 (cReg Φ) := by
  refine va_MetW (cc := cL_animation) (maxL := 6) (ret := some .int) (hh := [(0, 9, 12, 13)]) (by decide) rfl ?_
  intro p e s m args below meth c s₁ B hml hv9
  obtain ⟨rfl, hP, hK, hZ, hN⟩ := hv9
  have X : cX p s m [cv Φ (some x0), .int x1, .int x2, .int x3, .int x4].toArray meth c cL_animation 6 (some .int) "CascaderyLaw" D Φ := cX_ofW B hml hK hZ
  have htab : c.exceptionTable.toList = tableOf [(0, 9, 12, 13)] := vx_table (x := yL_animation) B (atoms_spec (ws := Cond.codeWith yL_animation cL_animation 6 (some .int) [(0, 9, 12, 13)] :: BG) B.pre _ List.mem_cons_self)
  have hx := X.1
  have hb := X.2.1
  have hown := X.2.2.2.1
  have hts := X.2.2.2.2.1
  have hl := lv_entry [cv Φ (some x0), .int x1, .int x2, .int x3, .int x4] (n := 6) (by simp only [lgs_r, lgs_i, lgs_l, lgs_0, List.length]; exact Nat.le_of_ble_eq_true rfl)
  rw [lg_entry_eq]
  generalize (lg_sl [cv Φ (some x0), .int x1, .int x2, .int x3, .int x4] ++ List.replicate (6 - (lg_sl [cv Φ (some x0), .int x1, .int x2, .int x3, .int x4]).length) Slot.unset).toArray = ls at hl ⊢
  simp only [lv_args_r, lv_args_i, lv_args_l, lv_args_0] at hl
  have hl : lv_has ls 6 [(0, cv Φ (some x0)), (1, .int x1), (2, .int x2), (3, .int x3), (4, .int x4)] := hl
  show W p l e (rA 7 1 6 115) s m [cv Φ (some x0), .int x1, .int x2, .int x3, .int x4].toArray below meth c s.heap [] 0 0 (MQ below (lQ0 D Φ q v) [cv Φ (some x0), .int x1, .int x2, .int x3, .int x4].toArray s 1 6 (cReg Φ)) (F0 m 0 ls [])
  refine c_aload_n hx hb dL_animation_0 rfl (lv_at hl 0 rfl) ?_
  refine lv_iload_n hx hb dL_animation_1 rfl (lv_at hl 1 rfl) ?_
  refine lv_iload_n hx hb dL_animation_2 rfl (lv_at hl 2 rfl) ?_
  refine lv_iload_n hx hb dL_animation_3 rfl (lv_at hl 3 rfl) ?_
  refine lv_iload hx hb dL_animation_4 (lv_at hl 4 rfl) ?_
  refine l_call (c_tV (rest := []) X (K_X11_animation l hl9 D Φ σ x0 x1 x2 x3 x4 h) hrc (Nat.le_of_ble_eq_true rfl) ⟨w_1519, ww_X11_animation⟩ rfl hy_X11_animation rfl ⟨(Nat.le_of_ble_eq_true rfl), (Nat.le_of_ble_eq_true rfl)⟩ hP va_S.rf hl.1 (Nat.le_of_ble_eq_true rfl) dL_animation_6 rfl ⟨(Nat.le_of_ble_eq_true rfl), (Nat.le_of_ble_eq_true rfl)⟩) (fun k n q9 ce H locs hk hn hP hS hce hcv hcl => ?_) (fun u H locs hk hP hS => ?_)
  · have hc : lcdL [0] k 1 = some v := lcd_l hk hv
    obtain ⟨rfl, rfl⟩ := lcd1 hc
    refine vx_catch (E := excN 0) (name := excN 0) hown (tableOf []) ⟨0, 9, 12, 13⟩ (tableOf []) htab (l_pass (k := 0) X hN (by decide) (f := []) rfl (fun z hz => by cases hz)) (by decide) (by decide) (hts _ w_734) (va_Nw.use (cNest_on _ cn_9) (hK.2.2.1 _ cn_9)) hce hcv hcl ?_
    refine lv_astore hx hb dL_animation_12 hl (Nat.le_of_ble_eq_true rfl) rfl (fun ls hl => ?_)
    refine lv_iconst (v := (1 : Int32)) hx hb dL_animation_14 (by decide) ?_
    exact l_rx0 X hn hP hS dL_animation_15
  · obtain rfl := lcd_r hk hv
    refine W.eq (g2 := F0 m 9 ls []) rfl ?_
    refine lv_goto (tgt := 16) hx hb dL_animation_9 rfl ?_
    refine lv_iconst (v := 0) hx hb dL_animation_16 (by decide) ?_
    exact l_rx0 X (Nat.le_refl _) hP hS dL_animation_17
theorem ww_L_animation : Cond.static yL_animation ∈ BG ∧ Cond.initialized (yL_animation).cls ∈ BG ∧ Cond.codeWith yL_animation cL_animation 6 (some .int) [(0, 9, 12, 13)] ∈ BG := ⟨w_1517, w_143, w_1518⟩
theorem hy_L_animation : (yL_animation).cls ≠ "java/lang/invoke/MethodHandle" ∧ (yL_animation).cls ≠ "java/lang/invoke/VarHandle" ∧ (parseMethodDescriptor (yL_animation).desc).map (fun d => d.parameters.length) = some 5 := ⟨by decide, by decide, by decide +kernel⟩
set_option maxRecDepth 20000 in
set_option maxHeartbeats 4000000 in
theorem K_L_frame (l : Launch) (hl9 : l.stackTraces = false) (D : cD) (Φ : cG) (σ : cS) (o : Nat) (cL : ClassId) (w : Int64) (x0 : Nat) (x1 : Int32) (x2 : Int32) (x3 : Int32) (x4 : Int32) {q : (Nat ⊕ Int32) × cS} {v : Int32} (hrc : rc σ (some x0) 11 = some x0) (h : f_X11_frame x0 x1 x2 x3 x4 σ = some q) (hv : lcd [0] q.1 = some v) : Met l yL_frame (Cond.codeWith yL_frame cL_frame 7 (some .int) [(0, 14, 17, 13)] :: BG) (rA 7 1 6 115) (lPc D Φ σ o cL w [cv Φ (some x0), .int x1, .int x2, .int x3, .int x4, .ref o]) (lQ D Φ q o cL lvN v) 1 6 (lA Φ o) := by
  refine va_MetW (cc := cL_frame) (maxL := 7) (ret := some .int) (hh := [(0, 14, 17, 13)]) (by decide) rfl ?_
  intro p e s m args below meth c s₁ B hml hv9
  obtain ⟨rfl, ⟨hP, hK, hZ, hN⟩, hAr, hO, ho, hi⟩ := hv9
  have X : cX p s m [cv Φ (some x0), .int x1, .int x2, .int x3, .int x4, .ref o].toArray meth c cL_frame 7 (some .int) "CascaderyLaw" D Φ := cX_ofW B hml hK hZ
  have htab : c.exceptionTable.toList = tableOf [(0, 14, 17, 13)] := vx_table (x := yL_frame) B (atoms_spec (ws := Cond.codeWith yL_frame cL_frame 7 (some .int) [(0, 14, 17, 13)] :: BG) B.pre _ List.mem_cons_self)
  have hx := X.1
  have hb := X.2.1
  have hown := X.2.2.2.1
  have hts := X.2.2.2.2.1
  have hl := lv_entry [cv Φ (some x0), .int x1, .int x2, .int x3, .int x4, .ref o] (n := 7) (by simp only [lgs_r, lgs_i, lgs_l, lgs_0, List.length]; exact Nat.le_of_ble_eq_true rfl)
  rw [lg_entry_eq]
  generalize (lg_sl [cv Φ (some x0), .int x1, .int x2, .int x3, .int x4, .ref o] ++ List.replicate (7 - (lg_sl [cv Φ (some x0), .int x1, .int x2, .int x3, .int x4, .ref o]).length) Slot.unset).toArray = ls at hl ⊢
  simp only [lv_args_r, lv_args_i, lv_args_l, lv_args_0] at hl
  have hl : lv_has ls 7 [(0, cv Φ (some x0)), (1, .int x1), (2, .int x2), (3, .int x3), (4, .int x4), (5, .ref o)] := hl
  show W p l e (rA 7 1 6 115) s m [cv Φ (some x0), .int x1, .int x2, .int x3, .int x4, .ref o].toArray below meth c s.heap [] 0 0 (MQ below (lQ D Φ q o cL lvN v) [cv Φ (some x0), .int x1, .int x2, .int x3, .int x4, .ref o].toArray s 1 6 (lA Φ o)) (F0 m 0 ls [])
  refine lv_aload hx hb dL_frame_0 (lv_at hl 5 rfl) ?_
  refine lv_iconst (v := 0) hx hb dL_frame_2 (by decide) ?_
  refine c_aload_n hx hb dL_frame_3 rfl (lv_at hl 0 rfl) ?_
  refine lv_iload_n hx hb dL_frame_4 rfl (lv_at hl 1 rfl) ?_
  refine lv_iload_n hx hb dL_frame_5 rfl (lv_at hl 2 rfl) ?_
  refine lv_iload_n hx hb dL_frame_6 rfl (lv_at hl 3 rfl) ?_
  refine lv_iload hx hb dL_frame_7 (lv_at hl 4 rfl) ?_
  refine l_call (c_tV (rest := [.int 0, .ref o]) X (K_X11_frame l hl9 D Φ σ x0 x1 x2 x3 x4 h) hrc (Nat.le_of_ble_eq_true rfl) ⟨w_1526, ww_X11_frame⟩ rfl hy_X11_frame rfl ⟨(Nat.le_of_ble_eq_true rfl), (Nat.le_of_ble_eq_true rfl)⟩ hP va_S.rf hl.1 (Nat.le_of_ble_eq_true rfl) dL_frame_9 rfl ⟨(Nat.le_of_ble_eq_true rfl), (Nat.le_of_ble_eq_true rfl)⟩) (fun k n q9 ce H locs hk hn hP hS hce hcv hcl => ?_) (fun u H locs hk hP hS => ?_)
  · have hc : lcdL [0] k 1 = some v := lcd_l hk hv
    obtain ⟨rfl, rfl⟩ := lcd1 hc
    refine vx_catch (E := excN 0) (name := excN 0) hown (tableOf []) ⟨0, 14, 17, 13⟩ (tableOf []) htab (l_pass (k := 0) X hN (by decide) (f := []) rfl (fun z hz => by cases hz)) (by decide) (by decide) (hts _ w_734) (va_Nw.use (cNest_on _ cn_9) (hK.2.2.1 _ cn_9)) hce hcv hcl ?_
    refine lv_astore hx hb dL_frame_17 hl (Nat.le_of_ble_eq_true rfl) rfl (fun ls hl => ?_)
    refine lv_iconst (v := (1 : Int32)) hx hb dL_frame_19 (by decide) ?_
    exact l_rx X hk hn hP hS hO ho dL_frame_20
  · obtain rfl := lcd_r hk hv
    refine W.eq (g2 := F0 m 12 ls [.int u, .int 0, .ref o]) rfl ?_
    refine lv_i2l hx hb dL_frame_12 rfl ?_
    refine l_last (w := w) X hAr hP hS hO ho hi dL_frame_13 (fun H locs hP hS hO => ?_)
    refine lv_goto (tgt := 21) hx hb dL_frame_14 rfl ?_
    refine lv_iconst (v := 0) hx hb dL_frame_21 (by decide) ?_
    exact l_rn X hk rfl hP hS hO dL_frame_22
theorem ww_L_frame : Cond.static yL_frame ∈ BG ∧ Cond.initialized (yL_frame).cls ∈ BG ∧ Cond.codeWith yL_frame cL_frame 7 (some .int) [(0, 14, 17, 13)] ∈ BG := ⟨w_1524, w_143, w_1525⟩
theorem hy_L_frame : (yL_frame).cls ≠ "java/lang/invoke/MethodHandle" ∧ (yL_frame).cls ≠ "java/lang/invoke/VarHandle" ∧ (parseMethodDescriptor (yL_frame).desc).map (fun d => d.parameters.length) = some 6 := ⟨by decide, by decide, by decide +kernel⟩
set_option maxRecDepth 20000 in
set_option maxHeartbeats 4000000 in
theorem K_L_listen (l : Launch) (hl9 : l.stackTraces = false) (D : cD) (Φ : cG) (σ : cS) (o : Nat) (cL : ClassId) (w : Int64) (x0 : Nat) (x1 : Int32) (x2 : Int32) (x3 : Int32) (x4 : Int32) {q : (Nat ⊕ Int32) × cS} {v : Int32} (hrc : rc σ (some x0) 11 = some x0) (h : f_X11_listen x0 x1 x2 x3 x4 σ = some q) (hv : lcd [2, 0, 1] q.1 = some v) : Met l yL_listen (Cond.codeWith yL_listen cL_listen 7 (some .int) [(0, 14, 17, 21), (0, 14, 21, 13), (0, 14, 25, 15)] :: BG) (rA 8 5 28 138) (lPc D Φ σ o cL w [cv Φ (some x0), .int x1, .int x2, .int x3, .int x4, .ref o]) (lQ D Φ q o cL lvN v) 5 28 (lA Φ o) := by
  refine va_MetW (cc := cL_listen) (maxL := 7) (ret := some .int) (hh := [(0, 14, 17, 21), (0, 14, 21, 13), (0, 14, 25, 15)]) (by decide) rfl ?_
  intro p e s m args below meth c s₁ B hml hv9
  obtain ⟨rfl, ⟨hP, hK, hZ, hN⟩, hAr, hO, ho, hi⟩ := hv9
  have X : cX p s m [cv Φ (some x0), .int x1, .int x2, .int x3, .int x4, .ref o].toArray meth c cL_listen 7 (some .int) "CascaderyLaw" D Φ := cX_ofW B hml hK hZ
  have htab : c.exceptionTable.toList = tableOf [(0, 14, 17, 21), (0, 14, 21, 13), (0, 14, 25, 15)] := vx_table (x := yL_listen) B (atoms_spec (ws := Cond.codeWith yL_listen cL_listen 7 (some .int) [(0, 14, 17, 21), (0, 14, 21, 13), (0, 14, 25, 15)] :: BG) B.pre _ List.mem_cons_self)
  have hx := X.1
  have hb := X.2.1
  have hown := X.2.2.2.1
  have hts := X.2.2.2.2.1
  have hl := lv_entry [cv Φ (some x0), .int x1, .int x2, .int x3, .int x4, .ref o] (n := 7) (by simp only [lgs_r, lgs_i, lgs_l, lgs_0, List.length]; exact Nat.le_of_ble_eq_true rfl)
  rw [lg_entry_eq]
  generalize (lg_sl [cv Φ (some x0), .int x1, .int x2, .int x3, .int x4, .ref o] ++ List.replicate (7 - (lg_sl [cv Φ (some x0), .int x1, .int x2, .int x3, .int x4, .ref o]).length) Slot.unset).toArray = ls at hl ⊢
  simp only [lv_args_r, lv_args_i, lv_args_l, lv_args_0] at hl
  have hl : lv_has ls 7 [(0, cv Φ (some x0)), (1, .int x1), (2, .int x2), (3, .int x3), (4, .int x4), (5, .ref o)] := hl
  show W p l e (rA 8 5 28 138) s m [cv Φ (some x0), .int x1, .int x2, .int x3, .int x4, .ref o].toArray below meth c s.heap [] 0 0 (MQ below (lQ D Φ q o cL lvN v) [cv Φ (some x0), .int x1, .int x2, .int x3, .int x4, .ref o].toArray s 5 28 (lA Φ o)) (F0 m 0 ls [])
  refine lv_aload hx hb dL_listen_0 (lv_at hl 5 rfl) ?_
  refine lv_iconst (v := 0) hx hb dL_listen_2 (by decide) ?_
  refine c_aload_n hx hb dL_listen_3 rfl (lv_at hl 0 rfl) ?_
  refine lv_iload_n hx hb dL_listen_4 rfl (lv_at hl 1 rfl) ?_
  refine lv_iload_n hx hb dL_listen_5 rfl (lv_at hl 2 rfl) ?_
  refine lv_iload_n hx hb dL_listen_6 rfl (lv_at hl 3 rfl) ?_
  refine lv_iload hx hb dL_listen_7 (lv_at hl 4 rfl) ?_
  refine l_call (c_tV (rest := [.int 0, .ref o]) X (K_X11_listen l hl9 D Φ σ x0 x1 x2 x3 x4 h) hrc (Nat.le_of_ble_eq_true rfl) ⟨w_1543, ww_X11_listen⟩ rfl hy_X11_listen rfl ⟨(Nat.le_of_ble_eq_true rfl), (Nat.le_of_ble_eq_true rfl)⟩ hP va_S.rf hl.1 (Nat.le_of_ble_eq_true rfl) dL_listen_9 rfl ⟨(Nat.le_of_ble_eq_true rfl), (Nat.le_of_ble_eq_true rfl)⟩) (fun k n q9 ce H locs hk hn hP hS hce hcv hcl => ?_) (fun u H locs hk hP hS => ?_)
  · have hc : lcdL [2, 0, 1] k 1 = some v := lcd_l hk hv
    rcases lcd3 hc with ⟨rfl, rfl⟩ | ⟨rfl, rfl⟩ | ⟨rfl, rfl⟩
    · refine vx_catch (E := excN 2) (name := excN 2) hown (tableOf []) ⟨0, 14, 17, 21⟩ (tableOf [(0, 14, 21, 13), (0, 14, 25, 15)]) htab (l_pass (k := 2) X hN (by decide) (f := []) rfl (fun z hz => by cases hz)) (by decide) (by decide) (hts _ w_834) (va_Nw.use (cNest_on _ cn_11) (hK.2.2.1 _ cn_11)) hce hcv hcl ?_
      refine lv_astore hx hb dL_listen_17 hl (Nat.le_of_ble_eq_true rfl) rfl (fun ls hl => ?_)
      refine lv_iconst (v := (1 : Int32)) hx hb dL_listen_19 (by decide) ?_
      exact l_rx X hk hn hP hS hO ho dL_listen_20
    · refine vx_catch (E := excN 0) (name := excN 0) hown (tableOf [(0, 14, 17, 21)]) ⟨0, 14, 21, 13⟩ (tableOf [(0, 14, 25, 15)]) htab (l_pass (k := 0) X hN (by decide) (f := [(21, 2)]) rfl (fun z hz => by
      rw [List.mem_singleton.mp hz]
      exact ⟨by decide, by decide, by decide, w_834⟩)) (by decide) (by decide) (hts _ w_734) (va_Nw.use (cNest_on _ cn_9) (hK.2.2.1 _ cn_9)) hce hcv hcl ?_
      refine lv_astore hx hb dL_listen_21 hl (Nat.le_of_ble_eq_true rfl) rfl (fun ls hl => ?_)
      refine lv_iconst (v := (1 + 1 : Int32)) hx hb dL_listen_23 (by decide) ?_
      exact l_rx X hk hn hP hS hO ho dL_listen_24
    · refine vx_catch (E := excN 1) (name := excN 1) hown (tableOf [(0, 14, 17, 21), (0, 14, 21, 13)]) ⟨0, 14, 25, 15⟩ (tableOf []) htab (l_pass (k := 1) X hN (by decide) (f := [(21, 2), (13, 0)]) rfl (fun z hz => by
      rcases List.mem_cons.mp hz with rfl | hz
      · exact ⟨by decide, by decide, by decide, w_834⟩
      · rw [List.mem_singleton.mp hz]
        exact ⟨by decide, by decide, by decide, w_734⟩)) (by decide) (by decide) (hts _ w_735) (va_Nw.use (cNest_on _ cn_10) (hK.2.2.1 _ cn_10)) hce hcv hcl ?_
      refine lv_astore hx hb dL_listen_25 hl (Nat.le_of_ble_eq_true rfl) rfl (fun ls hl => ?_)
      refine lv_iconst (v := (1 + 1 + 1 : Int32)) hx hb dL_listen_27 (by decide) ?_
      exact l_rx X hk hn hP hS hO ho dL_listen_28
  · obtain rfl := lcd_r hk hv
    refine W.eq (g2 := F0 m 12 ls [.int u, .int 0, .ref o]) rfl ?_
    refine lv_i2l hx hb dL_listen_12 rfl ?_
    refine l_last (w := w) X hAr hP hS hO ho hi dL_listen_13 (fun H locs hP hS hO => ?_)
    refine lv_goto (tgt := 29) hx hb dL_listen_14 rfl ?_
    refine lv_iconst (v := 0) hx hb dL_listen_29 (by decide) ?_
    exact l_rn X hk rfl hP hS hO dL_listen_30
theorem ww_L_listen : Cond.static yL_listen ∈ BG ∧ Cond.initialized (yL_listen).cls ∈ BG ∧ Cond.codeWith yL_listen cL_listen 7 (some .int) [(0, 14, 17, 21), (0, 14, 21, 13), (0, 14, 25, 15)] ∈ BG := ⟨w_1541, w_143, w_1542⟩
theorem hy_L_listen : (yL_listen).cls ≠ "java/lang/invoke/MethodHandle" ∧ (yL_listen).cls ≠ "java/lang/invoke/VarHandle" ∧ (parseMethodDescriptor (yL_listen).desc).map (fun d => d.parameters.length) = some 6 := ⟨by decide, by decide, by decide +kernel⟩
