set_option maxRecDepth 100000 in
theorem w_1202 : Cond.methodLink "CascaderyLaw" 15 yX11_putTop ∈ BG := bg_in 1202 (by decide +kernel) (by decide +kernel)
set_option maxRecDepth 100000 in
theorem w_729 : Cond.classLink "CascaderyLaw" 19 "java/lang/IndexOutOfBoundsException" ∈ BG := bg_in 729 (by decide +kernel) (by decide +kernel)
theorem cn_10 : Cond.castable "java/lang/IndexOutOfBoundsException" "java/lang/IndexOutOfBoundsException" ∈ cNest := List.mem_of_getElem? (i := 10) rfl
set_option maxRecDepth 100000 in
theorem w_730 : Cond.classLink "CascaderyLaw" 21 "java/lang/IllegalStateException" ∈ BG := bg_in 730 (by decide +kernel) (by decide +kernel)
theorem cn_9 : Cond.castable "java/lang/IllegalStateException" "java/lang/IllegalStateException" ∈ cNest := List.mem_of_getElem? (i := 9) rfl
set_option maxRecDepth 100000 in
theorem w_1201 : Cond.codeWith yL_tops cL_tops 5 (some .int) [(0, 8, 9, 19), (0, 8, 14, 21)] ∈ BG := bg_in 1201 (by rfl) (by decide +kernel)
set_option maxRecDepth 100000 in
theorem w_1200 : Cond.static yL_tops ∈ BG := bg_in 1200 (by decide +kernel) (by decide +kernel)
set_option maxRecDepth 100000 in
theorem w_55 : Cond.initialized "CascaderyLaw" ∈ BG := bg_in 55 (by decide +kernel) (by decide +kernel)
set_option maxRecDepth 100000 in
theorem w_731 : Cond.methodLink "CascaderyLaw" 23 yX11_put ∈ BG := bg_in 731 (by decide +kernel) (by decide +kernel)
set_option maxRecDepth 100000 in
theorem w_728 : Cond.codeWith yL_puts cL_puts 5 (some .int) [(0, 8, 9, 19), (0, 8, 14, 21)] ∈ BG := bg_in 728 (by rfl) (by decide +kernel)
set_option maxRecDepth 100000 in
theorem w_727 : Cond.static yL_puts ∈ BG := bg_in 727 (by decide +kernel) (by decide +kernel)
set_option maxRecDepth 100000 in
theorem w_841 : Cond.methodLink "CascaderyLaw" 26 yX11_take ∈ BG := bg_in 841 (by decide +kernel) (by decide +kernel)
set_option maxRecDepth 100000 in
theorem w_840 : Cond.codeWith yL_takes cL_takes 3 (some .int) [(0, 5, 6, 19), (0, 5, 10, 21)] ∈ BG := bg_in 840 (by rfl) (by decide +kernel)
set_option maxRecDepth 100000 in
theorem w_839 : Cond.static yL_takes ∈ BG := bg_in 839 (by decide +kernel) (by decide +kernel)
set_option maxRecDepth 100000 in
theorem w_1209 : Cond.methodLink "CascaderyLaw" 29 yX11_shadow ∈ BG := bg_in 1209 (by decide +kernel) (by decide +kernel)
set_option maxRecDepth 100000 in
theorem w_1208 : Cond.codeWith yL_shadows cL_shadows 3 (some .int) [(0, 6, 7, 19), (0, 6, 11, 21)] ∈ BG := bg_in 1208 (by rfl) (by decide +kernel)
set_option maxRecDepth 100000 in
theorem w_1207 : Cond.static yL_shadows ∈ BG := bg_in 1207 (by decide +kernel) (by decide +kernel)
set_option maxRecDepth 100000 in
theorem w_853 : Cond.methodLink "CascaderyLaw" 33 yX11_test ∈ BG := bg_in 853 (by decide +kernel) (by decide +kernel)
set_option maxRecDepth 100000 in
theorem w_852 : Cond.classLink "CascaderyLaw" 37 "java/lang/IllegalArgumentException" ∈ BG := bg_in 852 (by decide +kernel) (by decide +kernel)
theorem cn_8 : Cond.castable "java/lang/IllegalArgumentException" "java/lang/IllegalArgumentException" ∈ cNest := List.mem_of_getElem? (i := 8) rfl
set_option maxRecDepth 100000 in
theorem w_851 : Cond.codeWith yL_tests cL_tests 5 (some .int) [(0, 7, 8, 37), (0, 7, 13, 19), (0, 7, 18, 21)] ∈ BG := bg_in 851 (by rfl) (by decide +kernel)
set_option maxRecDepth 100000 in
theorem w_850 : Cond.static yL_tests ∈ BG := bg_in 850 (by decide +kernel) (by decide +kernel)
set_option maxRecDepth 100000 in
theorem w_882 : Cond.methodLink "CascaderyLaw" 39 yX11_join ∈ BG := bg_in 882 (by decide +kernel) (by decide +kernel)
set_option maxRecDepth 100000 in
theorem w_881 : Cond.codeWith yL_joins cL_joins 3 (some .int) [(0, 5, 6, 37), (0, 5, 10, 21)] ∈ BG := bg_in 881 (by rfl) (by decide +kernel)
set_option maxRecDepth 100000 in
theorem w_880 : Cond.static yL_joins ∈ BG := bg_in 880 (by decide +kernel) (by decide +kernel)
set_option maxRecDepth 100000 in
theorem w_1245 : Cond.methodLink "CascaderyLaw" 42 yX11_sheet ∈ BG := bg_in 1245 (by decide +kernel) (by decide +kernel)
set_option maxRecDepth 100000 in
theorem w_1244 : Cond.codeWith yL_sheets cL_sheets 5 (some .int) [(0, 7, 8, 37), (0, 7, 13, 19), (0, 7, 18, 21)] ∈ BG := bg_in 1244 (by rfl) (by decide +kernel)
set_option maxRecDepth 100000 in
theorem w_1243 : Cond.static yL_sheets ∈ BG := bg_in 1243 (by decide +kernel) (by decide +kernel)
set_option maxRecDepth 100000 in
theorem w_1283 : Cond.methodLink "CascaderyLaw" 45 yX11_rule ∈ BG := bg_in 1283 (by decide +kernel) (by decide +kernel)
set_option maxRecDepth 100000 in
theorem w_1282 : Cond.codeWith yL_rules cL_rules 4 (some .int) [(0, 6, 7, 19), (0, 6, 11, 21)] ∈ BG := bg_in 1282 (by rfl) (by decide +kernel)
set_option maxRecDepth 100000 in
theorem w_1281 : Cond.static yL_rules ∈ BG := bg_in 1281 (by decide +kernel) (by decide +kernel)
set_option maxRecDepth 100000 in
theorem w_1303 : Cond.methodLink "CascaderyLaw" 49 yX11_declare ∈ BG := bg_in 1303 (by decide +kernel) (by decide +kernel)
set_option maxRecDepth 100000 in
theorem w_1302 : Cond.codeWith yL_declares cL_declares 7 (some .int) [(0, 11, 12, 19), (0, 11, 17, 37)] ∈ BG := bg_in 1302 (by rfl) (by decide +kernel)
set_option maxRecDepth 100000 in
theorem w_1301 : Cond.static yL_declares ∈ BG := bg_in 1301 (by decide +kernel) (by decide +kernel)
set_option maxRecDepth 100000 in
theorem w_1346 : Cond.methodLink "CascaderyLaw" 53 yX11_declareVar ∈ BG := bg_in 1346 (by decide +kernel) (by decide +kernel)
set_option maxRecDepth 100000 in
theorem w_1345 : Cond.codeWith yL_varies cL_varies 7 (some .int) [(0, 12, 13, 19), (0, 12, 18, 37)] ∈ BG := bg_in 1345 (by rfl) (by decide +kernel)
set_option maxRecDepth 100000 in
theorem w_1344 : Cond.static yL_varies ∈ BG := bg_in 1344 (by decide +kernel) (by decide +kernel)
set_option maxRecDepth 100000 in
theorem w_1357 : Cond.methodLink "CascaderyLaw" 57 yX11_when ∈ BG := bg_in 1357 (by decide +kernel) (by decide +kernel)
set_option maxRecDepth 100000 in
theorem w_1356 : Cond.codeWith yL_whens cL_whens 5 (some .int) [(0, 8, 9, 19), (0, 8, 14, 37)] ∈ BG := bg_in 1356 (by rfl) (by decide +kernel)
set_option maxRecDepth 100000 in
theorem w_1355 : Cond.static yL_whens ∈ BG := bg_in 1355 (by decide +kernel) (by decide +kernel)
set_option maxRecDepth 100000 in
theorem w_893 : Cond.methodLink "CascaderyLaw" 60 yX11_value ∈ BG := bg_in 893 (by decide +kernel) (by decide +kernel)
set_option maxRecDepth 100000 in
theorem w_1106 : Cond.constant "CascaderyLaw" 63 (-2000002) ∈ BG := bg_in 1106 (by decide +kernel) (by decide +kernel)
set_option maxRecDepth 100000 in
theorem w_1107 : Cond.constant "CascaderyLaw" 64 (-2000003) ∈ BG := bg_in 1107 (by decide +kernel) (by decide +kernel)
set_option maxRecDepth 100000 in
theorem w_1108 : Cond.constant "CascaderyLaw" 65 (-2000004) ∈ BG := bg_in 1108 (by decide +kernel) (by decide +kernel)
set_option maxRecDepth 100000 in
theorem w_892 : Cond.codeWith yL_value cL_value 4 (some .int) [(0, 6, 7, 19), (0, 6, 11, 37), (0, 6, 15, 21)] ∈ BG := bg_in 892 (by rfl) (by decide +kernel)
set_option maxRecDepth 100000 in
theorem w_891 : Cond.static yL_value ∈ BG := bg_in 891 (by decide +kernel) (by decide +kernel)
theorem dL_tops_0 : decode cL_tops 0 = .ok (.aload_n 0, 1) := by decide +kernel
theorem dL_tops_1 : decode cL_tops 1 = .ok (.iload_n 1, 1) := by decide +kernel
theorem dL_tops_2 : decode cL_tops 2 = .ok (.iload_n 2, 1) := by decide +kernel
theorem dL_tops_3 : decode cL_tops 3 = .ok (.iload_n 3, 1) := by decide +kernel
theorem dL_tops_4 : decode cL_tops 4 = .ok (.invokevirtual 15, 3) := by decide +kernel
theorem dL_tops_7 : decode cL_tops 7 = .ok (.iconst 0, 1) := by decide +kernel
theorem dL_tops_8 : decode cL_tops 8 = .ok (.ireturn, 1) := by decide +kernel
theorem dL_tops_9 : decode cL_tops 9 = .ok (.astore 4, 2) := by decide +kernel
theorem dL_tops_11 : decode cL_tops 11 = .ok (.bipush (-2), 2) := by decide +kernel
theorem dL_tops_13 : decode cL_tops 13 = .ok (.ireturn, 1) := by decide +kernel
theorem dL_tops_14 : decode cL_tops 14 = .ok (.astore 4, 2) := by decide +kernel
theorem dL_tops_16 : decode cL_tops 16 = .ok (.bipush (-4), 2) := by decide +kernel
theorem dL_tops_18 : decode cL_tops 18 = .ok (.ireturn, 1) := by decide +kernel
theorem dL_puts_0 : decode cL_puts 0 = .ok (.aload_n 0, 1) := by decide +kernel
theorem dL_puts_1 : decode cL_puts 1 = .ok (.iload_n 1, 1) := by decide +kernel
theorem dL_puts_2 : decode cL_puts 2 = .ok (.iload_n 2, 1) := by decide +kernel
theorem dL_puts_3 : decode cL_puts 3 = .ok (.iload_n 3, 1) := by decide +kernel
theorem dL_puts_4 : decode cL_puts 4 = .ok (.invokevirtual 23, 3) := by decide +kernel
theorem dL_puts_7 : decode cL_puts 7 = .ok (.iconst 0, 1) := by decide +kernel
theorem dL_puts_8 : decode cL_puts 8 = .ok (.ireturn, 1) := by decide +kernel
theorem dL_puts_9 : decode cL_puts 9 = .ok (.astore 4, 2) := by decide +kernel
theorem dL_puts_11 : decode cL_puts 11 = .ok (.bipush (-2), 2) := by decide +kernel
theorem dL_puts_13 : decode cL_puts 13 = .ok (.ireturn, 1) := by decide +kernel
theorem dL_puts_14 : decode cL_puts 14 = .ok (.astore 4, 2) := by decide +kernel
theorem dL_puts_16 : decode cL_puts 16 = .ok (.bipush (-4), 2) := by decide +kernel
theorem dL_puts_18 : decode cL_puts 18 = .ok (.ireturn, 1) := by decide +kernel
theorem dL_takes_0 : decode cL_takes 0 = .ok (.aload_n 0, 1) := by decide +kernel
theorem dL_takes_1 : decode cL_takes 1 = .ok (.iload_n 1, 1) := by decide +kernel
theorem dL_takes_2 : decode cL_takes 2 = .ok (.invokevirtual 26, 3) := by decide +kernel
theorem dL_takes_5 : decode cL_takes 5 = .ok (.ireturn, 1) := by decide +kernel
theorem dL_takes_6 : decode cL_takes 6 = .ok (.astore_n 2, 1) := by decide +kernel
theorem dL_takes_7 : decode cL_takes 7 = .ok (.bipush (-2), 2) := by decide +kernel
theorem dL_takes_9 : decode cL_takes 9 = .ok (.ireturn, 1) := by decide +kernel
theorem dL_takes_10 : decode cL_takes 10 = .ok (.astore_n 2, 1) := by decide +kernel
theorem dL_takes_11 : decode cL_takes 11 = .ok (.bipush (-4), 2) := by decide +kernel
theorem dL_takes_13 : decode cL_takes 13 = .ok (.ireturn, 1) := by decide +kernel
theorem dL_shadows_0 : decode cL_shadows 0 = .ok (.aload_n 0, 1) := by decide +kernel
theorem dL_shadows_1 : decode cL_shadows 1 = .ok (.iload_n 1, 1) := by decide +kernel
theorem dL_shadows_2 : decode cL_shadows 2 = .ok (.invokevirtual 29, 3) := by decide +kernel
theorem dL_shadows_5 : decode cL_shadows 5 = .ok (.iconst 0, 1) := by decide +kernel
theorem dL_shadows_6 : decode cL_shadows 6 = .ok (.ireturn, 1) := by decide +kernel
theorem dL_shadows_7 : decode cL_shadows 7 = .ok (.astore_n 2, 1) := by decide +kernel
theorem dL_shadows_8 : decode cL_shadows 8 = .ok (.bipush (-2), 2) := by decide +kernel
theorem dL_shadows_10 : decode cL_shadows 10 = .ok (.ireturn, 1) := by decide +kernel
theorem dL_shadows_11 : decode cL_shadows 11 = .ok (.astore_n 2, 1) := by decide +kernel
theorem dL_shadows_12 : decode cL_shadows 12 = .ok (.bipush (-4), 2) := by decide +kernel
theorem dL_shadows_14 : decode cL_shadows 14 = .ok (.ireturn, 1) := by decide +kernel
theorem dL_tests_0 : decode cL_tests 0 = .ok (.aload_n 0, 1) := by decide +kernel
theorem dL_tests_1 : decode cL_tests 1 = .ok (.iload_n 1, 1) := by decide +kernel
theorem dL_tests_2 : decode cL_tests 2 = .ok (.iload_n 2, 1) := by decide +kernel
theorem dL_tests_3 : decode cL_tests 3 = .ok (.iload_n 3, 1) := by decide +kernel
theorem dL_tests_4 : decode cL_tests 4 = .ok (.invokevirtual 33, 3) := by decide +kernel
theorem dL_tests_7 : decode cL_tests 7 = .ok (.ireturn, 1) := by decide +kernel
theorem dL_tests_8 : decode cL_tests 8 = .ok (.astore 4, 2) := by decide +kernel
theorem dL_tests_10 : decode cL_tests 10 = .ok (.bipush (-3), 2) := by decide +kernel
theorem dL_tests_12 : decode cL_tests 12 = .ok (.ireturn, 1) := by decide +kernel
theorem dL_tests_13 : decode cL_tests 13 = .ok (.astore 4, 2) := by decide +kernel
theorem dL_tests_15 : decode cL_tests 15 = .ok (.bipush (-2), 2) := by decide +kernel
theorem dL_tests_17 : decode cL_tests 17 = .ok (.ireturn, 1) := by decide +kernel
theorem dL_tests_18 : decode cL_tests 18 = .ok (.astore 4, 2) := by decide +kernel
theorem dL_tests_20 : decode cL_tests 20 = .ok (.bipush (-4), 2) := by decide +kernel
theorem dL_tests_22 : decode cL_tests 22 = .ok (.ireturn, 1) := by decide +kernel
theorem dL_joins_0 : decode cL_joins 0 = .ok (.aload_n 0, 1) := by decide +kernel
theorem dL_joins_1 : decode cL_joins 1 = .ok (.iload_n 1, 1) := by decide +kernel
theorem dL_joins_2 : decode cL_joins 2 = .ok (.invokevirtual 39, 3) := by decide +kernel
theorem dL_joins_5 : decode cL_joins 5 = .ok (.ireturn, 1) := by decide +kernel
theorem dL_joins_6 : decode cL_joins 6 = .ok (.astore_n 2, 1) := by decide +kernel
theorem dL_joins_7 : decode cL_joins 7 = .ok (.bipush (-3), 2) := by decide +kernel
theorem dL_joins_9 : decode cL_joins 9 = .ok (.ireturn, 1) := by decide +kernel
theorem dL_joins_10 : decode cL_joins 10 = .ok (.astore_n 2, 1) := by decide +kernel
theorem dL_joins_11 : decode cL_joins 11 = .ok (.bipush (-4), 2) := by decide +kernel
theorem dL_joins_13 : decode cL_joins 13 = .ok (.ireturn, 1) := by decide +kernel
theorem dL_sheets_0 : decode cL_sheets 0 = .ok (.aload_n 0, 1) := by decide +kernel
theorem dL_sheets_1 : decode cL_sheets 1 = .ok (.iload_n 1, 1) := by decide +kernel
theorem dL_sheets_2 : decode cL_sheets 2 = .ok (.iload_n 2, 1) := by decide +kernel
theorem dL_sheets_3 : decode cL_sheets 3 = .ok (.iload_n 3, 1) := by decide +kernel
theorem dL_sheets_4 : decode cL_sheets 4 = .ok (.invokevirtual 42, 3) := by decide +kernel
theorem dL_sheets_7 : decode cL_sheets 7 = .ok (.ireturn, 1) := by decide +kernel
theorem dL_sheets_8 : decode cL_sheets 8 = .ok (.astore 4, 2) := by decide +kernel
theorem dL_sheets_10 : decode cL_sheets 10 = .ok (.bipush (-3), 2) := by decide +kernel
theorem dL_sheets_12 : decode cL_sheets 12 = .ok (.ireturn, 1) := by decide +kernel
theorem dL_sheets_13 : decode cL_sheets 13 = .ok (.astore 4, 2) := by decide +kernel
theorem dL_sheets_15 : decode cL_sheets 15 = .ok (.bipush (-2), 2) := by decide +kernel
theorem dL_sheets_17 : decode cL_sheets 17 = .ok (.ireturn, 1) := by decide +kernel
theorem dL_sheets_18 : decode cL_sheets 18 = .ok (.astore 4, 2) := by decide +kernel
theorem dL_sheets_20 : decode cL_sheets 20 = .ok (.bipush (-4), 2) := by decide +kernel
theorem dL_sheets_22 : decode cL_sheets 22 = .ok (.ireturn, 1) := by decide +kernel
theorem dL_rules_0 : decode cL_rules 0 = .ok (.aload_n 0, 1) := by decide +kernel
theorem dL_rules_1 : decode cL_rules 1 = .ok (.iload_n 1, 1) := by decide +kernel
theorem dL_rules_2 : decode cL_rules 2 = .ok (.iload_n 2, 1) := by decide +kernel
theorem dL_rules_3 : decode cL_rules 3 = .ok (.invokevirtual 45, 3) := by decide +kernel
theorem dL_rules_6 : decode cL_rules 6 = .ok (.ireturn, 1) := by decide +kernel
theorem dL_rules_7 : decode cL_rules 7 = .ok (.astore_n 3, 1) := by decide +kernel
theorem dL_rules_8 : decode cL_rules 8 = .ok (.bipush (-2), 2) := by decide +kernel
theorem dL_rules_10 : decode cL_rules 10 = .ok (.ireturn, 1) := by decide +kernel
theorem dL_rules_11 : decode cL_rules 11 = .ok (.astore_n 3, 1) := by decide +kernel
theorem dL_rules_12 : decode cL_rules 12 = .ok (.bipush (-4), 2) := by decide +kernel
theorem dL_rules_14 : decode cL_rules 14 = .ok (.ireturn, 1) := by decide +kernel
theorem dL_declares_0 : decode cL_declares 0 = .ok (.aload_n 0, 1) := by decide +kernel
theorem dL_declares_1 : decode cL_declares 1 = .ok (.iload_n 1, 1) := by decide +kernel
theorem dL_declares_2 : decode cL_declares 2 = .ok (.iload_n 2, 1) := by decide +kernel
theorem dL_declares_3 : decode cL_declares 3 = .ok (.iload_n 3, 1) := by decide +kernel
theorem dL_declares_4 : decode cL_declares 4 = .ok (.iload 4, 2) := by decide +kernel
theorem dL_declares_6 : decode cL_declares 6 = .ok (.iload 5, 2) := by decide +kernel
theorem dL_declares_8 : decode cL_declares 8 = .ok (.invokevirtual 49, 3) := by decide +kernel
theorem dL_declares_11 : decode cL_declares 11 = .ok (.ireturn, 1) := by decide +kernel
theorem dL_declares_12 : decode cL_declares 12 = .ok (.astore 6, 2) := by decide +kernel
theorem dL_declares_14 : decode cL_declares 14 = .ok (.bipush (-2), 2) := by decide +kernel
theorem dL_declares_16 : decode cL_declares 16 = .ok (.ireturn, 1) := by decide +kernel
theorem dL_declares_17 : decode cL_declares 17 = .ok (.astore 6, 2) := by decide +kernel
theorem dL_declares_19 : decode cL_declares 19 = .ok (.bipush (-3), 2) := by decide +kernel
theorem dL_declares_21 : decode cL_declares 21 = .ok (.ireturn, 1) := by decide +kernel
theorem dL_varies_0 : decode cL_varies 0 = .ok (.aload_n 0, 1) := by decide +kernel
theorem dL_varies_1 : decode cL_varies 1 = .ok (.iload_n 1, 1) := by decide +kernel
theorem dL_varies_2 : decode cL_varies 2 = .ok (.iload_n 2, 1) := by decide +kernel
theorem dL_varies_3 : decode cL_varies 3 = .ok (.iload_n 3, 1) := by decide +kernel
theorem dL_varies_4 : decode cL_varies 4 = .ok (.iload 4, 2) := by decide +kernel
theorem dL_varies_6 : decode cL_varies 6 = .ok (.iload 5, 2) := by decide +kernel
theorem dL_varies_8 : decode cL_varies 8 = .ok (.iconst 0, 1) := by decide +kernel
theorem dL_varies_9 : decode cL_varies 9 = .ok (.invokevirtual 53, 3) := by decide +kernel
theorem dL_varies_12 : decode cL_varies 12 = .ok (.ireturn, 1) := by decide +kernel
theorem dL_varies_13 : decode cL_varies 13 = .ok (.astore 6, 2) := by decide +kernel
theorem dL_varies_15 : decode cL_varies 15 = .ok (.bipush (-2), 2) := by decide +kernel
theorem dL_varies_17 : decode cL_varies 17 = .ok (.ireturn, 1) := by decide +kernel
theorem dL_varies_18 : decode cL_varies 18 = .ok (.astore 6, 2) := by decide +kernel
theorem dL_varies_20 : decode cL_varies 20 = .ok (.bipush (-3), 2) := by decide +kernel
theorem dL_varies_22 : decode cL_varies 22 = .ok (.ireturn, 1) := by decide +kernel
theorem dL_whens_0 : decode cL_whens 0 = .ok (.aload_n 0, 1) := by decide +kernel
theorem dL_whens_1 : decode cL_whens 1 = .ok (.iload_n 1, 1) := by decide +kernel
theorem dL_whens_2 : decode cL_whens 2 = .ok (.iload_n 2, 1) := by decide +kernel
theorem dL_whens_3 : decode cL_whens 3 = .ok (.iload_n 3, 1) := by decide +kernel
theorem dL_whens_4 : decode cL_whens 4 = .ok (.invokevirtual 57, 3) := by decide +kernel
theorem dL_whens_7 : decode cL_whens 7 = .ok (.iconst 0, 1) := by decide +kernel
theorem dL_whens_8 : decode cL_whens 8 = .ok (.ireturn, 1) := by decide +kernel
theorem dL_whens_9 : decode cL_whens 9 = .ok (.astore 4, 2) := by decide +kernel
theorem dL_whens_11 : decode cL_whens 11 = .ok (.bipush (-2), 2) := by decide +kernel
theorem dL_whens_13 : decode cL_whens 13 = .ok (.ireturn, 1) := by decide +kernel
theorem dL_whens_14 : decode cL_whens 14 = .ok (.astore 4, 2) := by decide +kernel
theorem dL_whens_16 : decode cL_whens 16 = .ok (.bipush (-3), 2) := by decide +kernel
theorem dL_whens_18 : decode cL_whens 18 = .ok (.ireturn, 1) := by decide +kernel
theorem dL_value_0 : decode cL_value 0 = .ok (.aload_n 0, 1) := by decide +kernel
theorem dL_value_1 : decode cL_value 1 = .ok (.iload_n 1, 1) := by decide +kernel
theorem dL_value_2 : decode cL_value 2 = .ok (.iload_n 2, 1) := by decide +kernel
theorem dL_value_3 : decode cL_value 3 = .ok (.invokevirtual 60, 3) := by decide +kernel
theorem dL_value_6 : decode cL_value 6 = .ok (.ireturn, 1) := by decide +kernel
theorem dL_value_7 : decode cL_value 7 = .ok (.astore_n 3, 1) := by decide +kernel
theorem dL_value_8 : decode cL_value 8 = .ok (.ldc 63, 2) := by decide +kernel
theorem dL_value_10 : decode cL_value 10 = .ok (.ireturn, 1) := by decide +kernel
theorem dL_value_11 : decode cL_value 11 = .ok (.astore_n 3, 1) := by decide +kernel
theorem dL_value_12 : decode cL_value 12 = .ok (.ldc 64, 2) := by decide +kernel
theorem dL_value_14 : decode cL_value 14 = .ok (.ireturn, 1) := by decide +kernel
theorem dL_value_15 : decode cL_value 15 = .ok (.astore_n 3, 1) := by decide +kernel
theorem dL_value_16 : decode cL_value 16 = .ok (.ldc 65, 2) := by decide +kernel
theorem dL_value_18 : decode cL_value 18 = .ok (.ireturn, 1) := by decide +kernel
theorem lvN_inj {x y : Int32} (h : lvN x = lvN y) : x = y := by
  have := congrArg Int64.toInt32 h
  unfold lvN at this
  rwa [Int32.toInt32_toInt64, Int32.toInt32_toInt64] at this
def oR (g : mS → Option (Int32 × mS)) (V : lwS) : Option ((Int32 × Int32) × lwS) := if V.2.1 < 60000 then (g V.1).bind fun r => some ((r.2.2 81, r.1), (r.2, V.2.1 + 1, V.2.2)) else none
def oU (g : mS → Option mS) (V : lwS) : Option ((Int32 × Int32) × lwS) := if V.2.1 < 60000 then (g V.1).bind fun r => some ((r.2 81, 0), (r, V.2.1 + 1, V.2.2)) else none
theorem oR_spec {g : mS → Option (Int32 × mS)} {V : lwS} {r : (Int32 × Int32) × lwS} (h : oR g V = some r) : V.2.1 < 60000 ∧ ∃ a σ', g V.1 = some (a, σ') ∧ r = ((σ'.2 81, a), (σ', V.2.1 + 1, V.2.2)) := by
  unfold oR at h
  by_cases c : V.2.1 < 60000
  · rw [if_pos c] at h
    obtain ⟨q, hq, h⟩ := ob h
    exact ⟨c, q.1, q.2, hq, (Option.some.inj h).symm⟩
  · rw [if_neg c] at h; cases h
theorem oU_spec {g : mS → Option mS} {V : lwS} {r : (Int32 × Int32) × lwS} (h : oU g V = some r) : V.2.1 < 60000 ∧ ∃ σ', g V.1 = some σ' ∧ r = ((σ'.2 81, 0), (σ', V.2.1 + 1, V.2.2)) := by
  unfold oU at h
  by_cases c : V.2.1 < 60000
  · rw [if_pos c] at h
    obtain ⟨q, hq, h⟩ := ob h
    exact ⟨c, q, hq, (Option.some.inj h).symm⟩
  · rw [if_neg c] at h; cases h
def oC (g : mS → Option (Int32 × mS)) (V : lwS) : Option (Int32 × lwS) := (oR g V).bind fun r => if r.1.1 = 0 then some (r.1.2, r.2) else none
def oM (f : (Int32 × Int32) → Int32) (x : Option ((Int32 × Int32) × lwS)) : Option (Int32 × lwS) := x.bind fun r => some (f r.1, r.2)
section LW2
variable {p : Program} {l : Launch} {e : Env} {R : Room} {s : State} {m : MethodId} {args : Array Value} {below : List Frame} {meth : Method} {c : Code} {H : Heap} {locs : List Loc} {cells slots : Nat} {Q : State → Prop} {cc : ByteArray} {pc : Nat} {ls : Array Slot} {rest : List Value} {D : cD} {Φ : cG} {nL : Nat} {S : cS} {ret : Option FieldType} {own : String} {b : Nat × Nat} {V V' : lwS}
theorem l_callw {U : Type} {vu : U → Option Value} {v : (Nat ⊕ U) × cS} {mc ms : Nat} {st0 : List Value} {a : Array Value} (hr : vx_Run p l e R s m args below meth c H locs 0 0 mc ms (F0 m pc ls st0) rest (cQt vu D (lwF b V.2.2) v a) (cXC D (lwF b V.2.2) v) (cReg (lwF b V.2.2))) (hP : cP D (lwF b V.2.2) S H) (hAr : lwAr D b V.2.2 H) (hS : va_S (cReg (lwO b)) s.heap H locs) (hJ : ∀ n, v.2.2 ≤ n → RJ V'.2.1 (v.2.1, n) V'.1) (hA : V'.2.2 = V.2.2)
    (kx : ∀ (k : Nat) (q9 : Addr) (ce : Cell) (H1 : Heap) (locs1 : List Loc), v.1 = .inl k → lwI D b V' H1 → va_S (cReg (lwO b)) s.heap H1 locs1 → H1[q9]? = some ce → ce.vm = .none → s.vm.findClass (excN k) = some ce.cls → vx_W p l e R s m args below meth c H1 locs1 mc ms Q (F0 m pc ls rest) q9)
    (kk : ∀ (w : U) (H1 : Heap) (locs1 : List Loc), v.1 = .inr w → lwI D b V' H1 → va_S (cReg (lwO b)) s.heap H1 locs1 → W p l e R s m args below meth c H1 locs1 mc ms Q (F0 m (pc + 3) ls ((vu w).toList ++ rest))) : W p l e R s m args below meth c H locs 0 0 Q (F0 m pc ls st0) := by
  intro T hT XX
  rcases hr T hT XX with ⟨v', st₀, t, T', L, h0, X', hL, e1, e2, ⟨w, hw, hv, hp, hF⟩, st⟩ | ⟨q9, st₀, t, T', L, E, ce, h0, X', hL, e1, e2, ⟨k, n, hk, hE, hn, hp, hF⟩, hce, hcv, hcl, st⟩
  · cases hv
    obtain ⟨k1, k2, k3⟩ := vx_keep h0 e1 hS (fun _ _ h => lwF_reg h) (fun _ h => lwF_reg h) hL hF
    rw [Nat.zero_add, Nat.zero_add] at X'
    have hI' : lwI D b V' T'.heap := ⟨⟨v.2, hJ v.2.2 (Nat.le_refl _), by rw [hA, e1]; exact hp⟩, by rw [hA]; exact hAr.kept hP k2⟩
    obtain ⟨t2, a1, b1⟩ := kk w T'.heap (locs ++ L) hw hI' k3 T' rfl X'
    exact ⟨t2, st t2 a1, b1⟩
  · obtain ⟨k1, k2, k3⟩ := vx_keep h0 e1 hS (fun _ _ h => lwF_reg h) (fun _ h => lwF_reg h) hL hF
    subst hE
    rw [Nat.zero_add, Nat.zero_add] at X'
    have hI' : lwI D b V' T'.heap := ⟨⟨(v.2.1, n), hJ n hn, by rw [hA, e1]; exact hp⟩, by rw [hA]; exact hAr.kept hP k2⟩
    obtain ⟨t2, a1, b1⟩ := kx k q9 ce T'.heap (locs ++ L) hk hI' k3 (by rw [e1]; exact hce) hcv hcl T' rfl X'
    exact ⟨t2, st.trans a1, b1⟩
theorem l_pass (X : cX p s m args meth c cc nL ret own D Φ) (hN : lNc s) {k : Nat} (hk : k < 3) {pre : List (Nat × Nat × Nat × Nat)} {f : List (Nat × Nat)} (hf : pre.map (fun z => z.2.2.2) = f.map (fun z => z.1)) (hw : ∀ z ∈ f, z.1 ≠ 0 ∧ z.2 < 3 ∧ k ≠ z.2 ∧ Cond.classLink own z.1 (excN z.2) ∈ BG) : ∀ z ∈ tableOf pre, covers z pc = false ∨ (z.catchType ≠ 0 ∧ ∃ nm : String, (Cond.classLink own z.catchType nm).before args s = true ∧ va_Nc (excN k) nm s) := by
  intro z hz
  obtain ⟨z1, hz1, rfl⟩ := List.mem_map.mp hz
  have h1 : z1.2.2.2 ∈ f.map (fun z => z.1) := by rw [← hf]; exact List.mem_map_of_mem hz1
  obtain ⟨z2, hz2, h2⟩ := List.mem_map.mp h1
  obtain ⟨g1, g2, g3, g4⟩ := hw z2 hz2
  refine Or.inr ⟨by show z1.2.2.2 ≠ 0; rw [← h2]; exact g1, excN z2.2, ?_, hN k hk z2.2 g2 g3⟩
  show (Cond.classLink own z1.2.2.2 (excN z2.2)).before args s = true
  rw [← h2]
  exact X.2.2.2.2.1 _ g4
theorem lwX_ofW {y : MethodName} {rm : Room} {maxL : Nat} {s₁ : State} {hh : List (Nat × Nat × Nat × Nat)} (B : BodyLoose p l y (headSpec (Cond.codeWith y cc maxL ret hh :: BG) rm) cc maxL ret e s m args below meth c s₁) (hml : c.maxLocals = maxL) (hK : cK D s) (hZ : cZ (lwO b) s s.heap) (hN : lNc s) (hy : y.cls = "CascaderyLaw") : lwX p s m args meth c cc maxL ret D b :=
  ⟨⟨B.exec, B.bytes, hml, by rw [← hy]; exact findClass_of_methodNamed B.named, fun w hw => atoms_spec (ws := Cond.codeWith y cc maxL ret hh :: BG) B.pre w (List.mem_cons_of_mem _ hw), hK, hZ, B.returns, B.notSynchronized⟩, hN⟩
theorem lwX_of {y : MethodName} {rm : Room} {maxL : Nat} {s₁ : State} (B : BodyLoose p l y (headSpec (Cond.code y cc maxL ret :: BG) rm) cc maxL ret e s m args below meth c s₁) (hml : c.maxLocals = maxL) (hK : cK D s) (hZ : cZ (lwO b) s s.heap) (hN : lNc s) (hy : y.cls = "CascaderyLaw") : lwX p s m args meth c cc maxL ret D b :=
  ⟨by have := cX_of (Φ := lwO b) B hml hK hZ; rw [hy] at this; exact this, hN⟩
end LW2
def f_L_tops (x1 : Int32) (x2 : Int32) (x3 : Int32) (V : lwS) : Option (Int32 × lwS) := oM (fun r => if r.1 = 0 then 0 else if r.1 = 1 then (-2) else (-4)) (oU (f_putTop x1 x2 x3) V)
set_option maxRecDepth 20000 in
set_option maxHeartbeats 4000000 in
theorem K_L_tops (l : Launch) (hl9 : l.stackTraces = false) (D : cD) (b : Nat × Nat) (V : lwS) (x1 : Int32) (x2 : Int32) (x3 : Int32) {v : Int32} {V' : lwS} (h : f_L_tops x1 x2 x3 V = some (v, V')) : Met l yL_tops (Cond.codeWith yL_tops cL_tops 5 (some .int) [(0, 8, 9, 19), (0, 8, 14, 21)] :: BG) (rA 8 4 24 137) (lwPc D b V [cv (lwO b) (some 1), .int x1, .int x2, .int x3]) (lwQ D b V' (some (.int v))) 4 24 (cReg (lwO b)) := by
  refine va_MetW (cc := cL_tops) (maxL := 5) (ret := some .int) (hh := [(0, 8, 9, 19), (0, 8, 14, 21)]) (by decide) rfl ?_
  intro p e s m args below meth c s₁ B hml hv9
  obtain ⟨rfl, hI, hK, hZ, hN⟩ := hv9
  have X := lwX_ofW B hml hK hZ hN rfl
  have htab : c.exceptionTable.toList = tableOf [(0, 8, 9, 19), (0, 8, 14, 21)] := vx_table (x := yL_tops) B (atoms_spec (ws := Cond.codeWith yL_tops cL_tops 5 (some .int) [(0, 8, 9, 19), (0, 8, 14, 21)] :: BG) B.pre _ List.mem_cons_self)
  obtain ⟨r9, hr9, h⟩ := ob h
  obtain ⟨hk6, σ', hg, rfl⟩ := oU_spec hr9
  obtain ⟨⟨S, ⟨T, Gq, Lq, A, ex, K, v9, nw, w⟩, hP⟩, hAr⟩ := hI
  have sq := sq_putTop hk6 w (x1) (x2) (x3)
  obtain ⟨q, r, hq, hr, hag, hJ⟩ := sq
  have : r = σ' := Option.some.inj (hr.symm.trans hg)
  subst this
  obtain ⟨hve, hVe⟩ := Prod.mk.inj (Option.some.inj h)
  subst hVe
  have hx := X.1.1
  have hb := X.1.2.1
  have hown := X.1.2.2.2.1
  have hts := X.1.2.2.2.2.1
  have hl := lv_entry [cv (lwO b) (some 1), .int x1, .int x2, .int x3] (n := 5) (by simp only [lgs_r, lgs_i, lgs_l, lgs_0, List.length]; exact Nat.le_of_ble_eq_true rfl)
  rw [lg_entry_eq]
  generalize (lg_sl [cv (lwO b) (some 1), .int x1, .int x2, .int x3] ++ List.replicate (5 - (lg_sl [cv (lwO b) (some 1), .int x1, .int x2, .int x3]).length) Slot.unset).toArray = ls at hl ⊢
  simp only [lv_args_r, lv_args_i, lv_args_l, lv_args_0] at hl
  have hl : lv_has ls 5 [(0, cv (lwO b) (some 1)), (1, .int x1), (2, .int x2), (3, .int x3)] := hl
  have hS : va_S (cReg (lwO b)) s.heap s.heap [] := va_S.rf
  show W p l e (rA 8 4 24 137) s m [cv (lwO b) (some 1), .int x1, .int x2, .int x3].toArray below meth c s.heap [] 0 0 (MQ below (lwQ D b (r, V.2.1 + 1, V.2.2) (some (.int v))) [cv (lwO b) (some 1), .int x1, .int x2, .int x3].toArray s 4 24 (cReg (lwO b))) (F0 m 0 ls [])
  refine c_aload_n hx hb dL_tops_0 rfl (lv_at hl 0 rfl) ?_
  refine lv_iload_n hx hb dL_tops_1 rfl (lv_at hl 1 rfl) ?_
  refine lv_iload_n hx hb dL_tops_2 rfl (lv_at hl 2 rfl) ?_
  refine lv_iload_n hx hb dL_tops_3 rfl (lv_at hl 3 rfl) ?_
  refine l_callw (V := V) (V' := (r, V.2.1 + 1, V.2.2)) (rest := []) (c_tVz (e := e) (below := below) (locs := []) (rest := []) (Φ := lwF b V.2.2) X.1 (K_X11_putTop l hl9 D (lwF b V.2.2) S 1 (x1) (x2) (x3) hq) (RJ.rcs ⟨T, Gq, Lq, A, ex, K, v9, nw, w⟩) ⟨by decide, by decide⟩ ⟨w_1202, ww_X11_putTop⟩ rfl hy_X11_putTop rfl ⟨(Nat.le_of_ble_eq_true rfl), (Nat.le_of_ble_eq_true rfl)⟩ hP (lwZ X hS) hl.1 (Nat.le_of_ble_eq_true rfl) dL_tops_4 rfl ⟨(Nat.le_of_ble_eq_true rfl), (Nat.le_of_ble_eq_true rfl)⟩) hP hAr hS (fun n hn => (hJ n hn).rj) rfl (fun k q9 ce H locs hk hI hS hce hcv hcl => ?_) (fun u H locs hk hI hS => ?_)
  · rw [hk] at hag
    have hc : lcdL [2, 1] k 1 = some (r.2 81) := hag
    rcases lcd2 hc with ⟨hk9, hc9⟩ | ⟨hk9, hc9⟩
    · subst hk9
      have hv : v = (-2) := by rw [← hve, hc9]; rfl
      subst hv
      refine vx_catch (E := excN 2) (name := excN 2) hown (tableOf []) ⟨0, 8, 9, 19⟩ (tableOf [(0, 8, 14, 21)]) htab (l_pass (k := 2) X.1 hN (by decide) (f := []) rfl (fun z hz => by cases hz)) (by decide) (by decide) (hts _ w_729) (va_Nw.use (cNest_on _ cn_10) (hK.2.2.1 _ cn_10)) hce hcv hcl ?_
      refine lv_astore hx hb dL_tops_9 hl (Nat.le_of_ble_eq_true rfl) rfl (fun ls hl => ?_)
      refine lv_bipush (v := (-2)) hx hb dL_tops_11 (by decide) ?_
      exact l_ri X hI hS (Nat.le_refl _) (Nat.le_refl _) dL_tops_13
    · subst hk9
      have hv : v = (-4) := by rw [← hve, hc9]; rfl
      subst hv
      refine vx_catch (E := excN 1) (name := excN 1) hown (tableOf [(0, 8, 9, 19)]) ⟨0, 8, 14, 21⟩ (tableOf []) htab (l_pass (k := 1) X.1 hN (by decide) (f := [(19, 2)]) rfl (fun z hz => by
      rw [List.mem_singleton.mp hz]
      exact ⟨by decide, by decide, by decide, w_729⟩)) (by decide) (by decide) (hts _ w_730) (va_Nw.use (cNest_on _ cn_9) (hK.2.2.1 _ cn_9)) hce hcv hcl ?_
      refine lv_astore hx hb dL_tops_14 hl (Nat.le_of_ble_eq_true rfl) rfl (fun ls hl => ?_)
      refine lv_bipush (v := (-4)) hx hb dL_tops_16 (by decide) ?_
      exact l_ri X hI hS (Nat.le_refl _) (Nat.le_refl _) dL_tops_18
  · rw [hk] at hag
    have h0 : r.2 81 = 0 := (lcd_r rfl hag).symm
    have hv : v = 0 := by rw [← hve, h0]; rfl
    subst hv
    refine W.eq (g2 := F0 m 7 ls []) rfl ?_
    refine lv_iconst (v := 0) hx hb dL_tops_7 (by decide) ?_
    exact l_ri X hI hS (Nat.le_refl _) (Nat.le_refl _) dL_tops_8
theorem ww_L_tops : Cond.static yL_tops ∈ BG ∧ Cond.initialized (yL_tops).cls ∈ BG ∧ Cond.codeWith yL_tops cL_tops 5 (some .int) [(0, 8, 9, 19), (0, 8, 14, 21)] ∈ BG := ⟨w_1200, w_55, w_1201⟩
theorem hy_L_tops : (yL_tops).cls ≠ "java/lang/invoke/MethodHandle" ∧ (yL_tops).cls ≠ "java/lang/invoke/VarHandle" ∧ (parseMethodDescriptor (yL_tops).desc).map (fun d => d.parameters.length) = some 4 := ⟨by decide, by decide, by decide +kernel⟩
def f_L_puts (x1 : Int32) (x2 : Int32) (x3 : Int32) (V : lwS) : Option (Int32 × lwS) := oM (fun r => if r.1 = 0 then 0 else if r.1 = 1 then (-2) else (-4)) (oU (f_put x1 x2 x3) V)
set_option maxRecDepth 20000 in
set_option maxHeartbeats 4000000 in
theorem K_L_puts (l : Launch) (hl9 : l.stackTraces = false) (D : cD) (b : Nat × Nat) (V : lwS) (x1 : Int32) (x2 : Int32) (x3 : Int32) {v : Int32} {V' : lwS} (h : f_L_puts x1 x2 x3 V = some (v, V')) : Met l yL_puts (Cond.codeWith yL_puts cL_puts 5 (some .int) [(0, 8, 9, 19), (0, 8, 14, 21)] :: BG) (rA 8 4 24 137) (lwPc D b V [cv (lwO b) (some 1), .int x1, .int x2, .int x3]) (lwQ D b V' (some (.int v))) 4 24 (cReg (lwO b)) := by
  refine va_MetW (cc := cL_puts) (maxL := 5) (ret := some .int) (hh := [(0, 8, 9, 19), (0, 8, 14, 21)]) (by decide) rfl ?_
  intro p e s m args below meth c s₁ B hml hv9
  obtain ⟨rfl, hI, hK, hZ, hN⟩ := hv9
  have X := lwX_ofW B hml hK hZ hN rfl
  have htab : c.exceptionTable.toList = tableOf [(0, 8, 9, 19), (0, 8, 14, 21)] := vx_table (x := yL_puts) B (atoms_spec (ws := Cond.codeWith yL_puts cL_puts 5 (some .int) [(0, 8, 9, 19), (0, 8, 14, 21)] :: BG) B.pre _ List.mem_cons_self)
  obtain ⟨r9, hr9, h⟩ := ob h
  obtain ⟨hk6, σ', hg, rfl⟩ := oU_spec hr9
  obtain ⟨⟨S, ⟨T, Gq, Lq, A, ex, K, v9, nw, w⟩, hP⟩, hAr⟩ := hI
  have sq := sq_put hk6 w (x1) (x2) (x3)
  obtain ⟨q, r, hq, hr, hag, hJ⟩ := sq
  have : r = σ' := Option.some.inj (hr.symm.trans hg)
  subst this
  obtain ⟨hve, hVe⟩ := Prod.mk.inj (Option.some.inj h)
  subst hVe
  have hx := X.1.1
  have hb := X.1.2.1
  have hown := X.1.2.2.2.1
  have hts := X.1.2.2.2.2.1
  have hl := lv_entry [cv (lwO b) (some 1), .int x1, .int x2, .int x3] (n := 5) (by simp only [lgs_r, lgs_i, lgs_l, lgs_0, List.length]; exact Nat.le_of_ble_eq_true rfl)
  rw [lg_entry_eq]
  generalize (lg_sl [cv (lwO b) (some 1), .int x1, .int x2, .int x3] ++ List.replicate (5 - (lg_sl [cv (lwO b) (some 1), .int x1, .int x2, .int x3]).length) Slot.unset).toArray = ls at hl ⊢
  simp only [lv_args_r, lv_args_i, lv_args_l, lv_args_0] at hl
  have hl : lv_has ls 5 [(0, cv (lwO b) (some 1)), (1, .int x1), (2, .int x2), (3, .int x3)] := hl
  have hS : va_S (cReg (lwO b)) s.heap s.heap [] := va_S.rf
  show W p l e (rA 8 4 24 137) s m [cv (lwO b) (some 1), .int x1, .int x2, .int x3].toArray below meth c s.heap [] 0 0 (MQ below (lwQ D b (r, V.2.1 + 1, V.2.2) (some (.int v))) [cv (lwO b) (some 1), .int x1, .int x2, .int x3].toArray s 4 24 (cReg (lwO b))) (F0 m 0 ls [])
  refine c_aload_n hx hb dL_puts_0 rfl (lv_at hl 0 rfl) ?_
  refine lv_iload_n hx hb dL_puts_1 rfl (lv_at hl 1 rfl) ?_
  refine lv_iload_n hx hb dL_puts_2 rfl (lv_at hl 2 rfl) ?_
  refine lv_iload_n hx hb dL_puts_3 rfl (lv_at hl 3 rfl) ?_
  refine l_callw (V := V) (V' := (r, V.2.1 + 1, V.2.2)) (rest := []) (c_tVz (e := e) (below := below) (locs := []) (rest := []) (Φ := lwF b V.2.2) X.1 (K_X11_put l hl9 D (lwF b V.2.2) S 1 (x1) (x2) (x3) hq) (RJ.rcs ⟨T, Gq, Lq, A, ex, K, v9, nw, w⟩) ⟨by decide, by decide⟩ ⟨w_731, ww_X11_put⟩ rfl hy_X11_put rfl ⟨(Nat.le_of_ble_eq_true rfl), (Nat.le_of_ble_eq_true rfl)⟩ hP (lwZ X hS) hl.1 (Nat.le_of_ble_eq_true rfl) dL_puts_4 rfl ⟨(Nat.le_of_ble_eq_true rfl), (Nat.le_of_ble_eq_true rfl)⟩) hP hAr hS (fun n hn => (hJ n hn).rj) rfl (fun k q9 ce H locs hk hI hS hce hcv hcl => ?_) (fun u H locs hk hI hS => ?_)
  · rw [hk] at hag
    have hc : lcdL [2, 1] k 1 = some (r.2 81) := hag
    rcases lcd2 hc with ⟨hk9, hc9⟩ | ⟨hk9, hc9⟩
    · subst hk9
      have hv : v = (-2) := by rw [← hve, hc9]; rfl
      subst hv
      refine vx_catch (E := excN 2) (name := excN 2) hown (tableOf []) ⟨0, 8, 9, 19⟩ (tableOf [(0, 8, 14, 21)]) htab (l_pass (k := 2) X.1 hN (by decide) (f := []) rfl (fun z hz => by cases hz)) (by decide) (by decide) (hts _ w_729) (va_Nw.use (cNest_on _ cn_10) (hK.2.2.1 _ cn_10)) hce hcv hcl ?_
      refine lv_astore hx hb dL_puts_9 hl (Nat.le_of_ble_eq_true rfl) rfl (fun ls hl => ?_)
      refine lv_bipush (v := (-2)) hx hb dL_puts_11 (by decide) ?_
      exact l_ri X hI hS (Nat.le_refl _) (Nat.le_refl _) dL_puts_13
    · subst hk9
      have hv : v = (-4) := by rw [← hve, hc9]; rfl
      subst hv
      refine vx_catch (E := excN 1) (name := excN 1) hown (tableOf [(0, 8, 9, 19)]) ⟨0, 8, 14, 21⟩ (tableOf []) htab (l_pass (k := 1) X.1 hN (by decide) (f := [(19, 2)]) rfl (fun z hz => by
      rw [List.mem_singleton.mp hz]
      exact ⟨by decide, by decide, by decide, w_729⟩)) (by decide) (by decide) (hts _ w_730) (va_Nw.use (cNest_on _ cn_9) (hK.2.2.1 _ cn_9)) hce hcv hcl ?_
      refine lv_astore hx hb dL_puts_14 hl (Nat.le_of_ble_eq_true rfl) rfl (fun ls hl => ?_)
      refine lv_bipush (v := (-4)) hx hb dL_puts_16 (by decide) ?_
      exact l_ri X hI hS (Nat.le_refl _) (Nat.le_refl _) dL_puts_18
  · rw [hk] at hag
    have h0 : r.2 81 = 0 := (lcd_r rfl hag).symm
    have hv : v = 0 := by rw [← hve, h0]; rfl
    subst hv
    refine W.eq (g2 := F0 m 7 ls []) rfl ?_
    refine lv_iconst (v := 0) hx hb dL_puts_7 (by decide) ?_
    exact l_ri X hI hS (Nat.le_refl _) (Nat.le_refl _) dL_puts_8
theorem ww_L_puts : Cond.static yL_puts ∈ BG ∧ Cond.initialized (yL_puts).cls ∈ BG ∧ Cond.codeWith yL_puts cL_puts 5 (some .int) [(0, 8, 9, 19), (0, 8, 14, 21)] ∈ BG := ⟨w_727, w_55, w_728⟩
theorem hy_L_puts : (yL_puts).cls ≠ "java/lang/invoke/MethodHandle" ∧ (yL_puts).cls ≠ "java/lang/invoke/VarHandle" ∧ (parseMethodDescriptor (yL_puts).desc).map (fun d => d.parameters.length) = some 4 := ⟨by decide, by decide, by decide +kernel⟩
def f_L_takes (x1 : Int32) (V : lwS) : Option (Int32 × lwS) := oM (fun r => if r.1 = 0 then r.2 else if r.1 = 1 then (-2) else (-4)) (oR (f_take x1) V)
set_option maxRecDepth 20000 in
set_option maxHeartbeats 4000000 in
theorem K_L_takes (l : Launch) (hl9 : l.stackTraces = false) (D : cD) (b : Nat × Nat) (V : lwS) (x1 : Int32) {v : Int32} {V' : lwS} (h : f_L_takes x1 V = some (v, V')) : Met l yL_takes (Cond.codeWith yL_takes cL_takes 3 (some .int) [(0, 5, 6, 19), (0, 5, 10, 21)] :: BG) (rA 8 2 12 139) (lwPc D b V [cv (lwO b) (some 1), .int x1]) (lwQ D b V' (some (.int v))) 2 12 (cReg (lwO b)) := by
  refine va_MetW (cc := cL_takes) (maxL := 3) (ret := some .int) (hh := [(0, 5, 6, 19), (0, 5, 10, 21)]) (by decide) rfl ?_
  intro p e s m args below meth c s₁ B hml hv9
  obtain ⟨rfl, hI, hK, hZ, hN⟩ := hv9
  have X := lwX_ofW B hml hK hZ hN rfl
  have htab : c.exceptionTable.toList = tableOf [(0, 5, 6, 19), (0, 5, 10, 21)] := vx_table (x := yL_takes) B (atoms_spec (ws := Cond.codeWith yL_takes cL_takes 3 (some .int) [(0, 5, 6, 19), (0, 5, 10, 21)] :: BG) B.pre _ List.mem_cons_self)
  obtain ⟨r9, hr9, h⟩ := ob h
  obtain ⟨hk6, a9, σ', hg, rfl⟩ := oR_spec hr9
  obtain ⟨⟨S, ⟨T, Gq, Lq, A, ex, K, v9, nw, w⟩, hP⟩, hAr⟩ := hI
  have sq := sq_take hk6 w (x1)
  obtain ⟨q, r, hq, hr, ⟨hag, hvl⟩, hJ⟩ := sq
  have : r = (a9, σ') := Option.some.inj (hr.symm.trans hg)
  subst this
  obtain ⟨hve, hVe⟩ := Prod.mk.inj (Option.some.inj h)
  subst hVe
  have hx := X.1.1
  have hb := X.1.2.1
  have hown := X.1.2.2.2.1
  have hts := X.1.2.2.2.2.1
  have hl := lv_entry [cv (lwO b) (some 1), .int x1] (n := 3) (by simp only [lgs_r, lgs_i, lgs_l, lgs_0, List.length]; exact Nat.le_of_ble_eq_true rfl)
  rw [lg_entry_eq]
  generalize (lg_sl [cv (lwO b) (some 1), .int x1] ++ List.replicate (3 - (lg_sl [cv (lwO b) (some 1), .int x1]).length) Slot.unset).toArray = ls at hl ⊢
  simp only [lv_args_r, lv_args_i, lv_args_l, lv_args_0] at hl
  have hl : lv_has ls 3 [(0, cv (lwO b) (some 1)), (1, .int x1)] := hl
  have hS : va_S (cReg (lwO b)) s.heap s.heap [] := va_S.rf
  show W p l e (rA 8 2 12 139) s m [cv (lwO b) (some 1), .int x1].toArray below meth c s.heap [] 0 0 (MQ below (lwQ D b (σ', V.2.1 + 1, V.2.2) (some (.int v))) [cv (lwO b) (some 1), .int x1].toArray s 2 12 (cReg (lwO b))) (F0 m 0 ls [])
  refine c_aload_n hx hb dL_takes_0 rfl (lv_at hl 0 rfl) ?_
  refine lv_iload_n hx hb dL_takes_1 rfl (lv_at hl 1 rfl) ?_
  refine l_callw (V := V) (V' := (σ', V.2.1 + 1, V.2.2)) (rest := []) (c_tVz (e := e) (below := below) (locs := []) (rest := []) (Φ := lwF b V.2.2) X.1 (K_X11_take l hl9 D (lwF b V.2.2) S 1 (x1) hq) (RJ.rcs ⟨T, Gq, Lq, A, ex, K, v9, nw, w⟩) ⟨by decide, by decide⟩ ⟨w_841, ww_X11_take⟩ rfl hy_X11_take rfl ⟨(Nat.le_of_ble_eq_true rfl), (Nat.le_of_ble_eq_true rfl)⟩ hP (lwZ X hS) hl.1 (Nat.le_of_ble_eq_true rfl) dL_takes_2 rfl ⟨(Nat.le_of_ble_eq_true rfl), (Nat.le_of_ble_eq_true rfl)⟩) hP hAr hS (fun n hn => (hJ n hn).rj) rfl (fun k q9 ce H locs hk hI hS hce hcv hcl => ?_) (fun u H locs hk hI hS => ?_)
  · rw [hk] at hag
    have hc : lcdL [2, 1] k 1 = some (σ'.2 81) := hag
    rcases lcd2 hc with ⟨hk9, hc9⟩ | ⟨hk9, hc9⟩
    · subst hk9
      have hv : v = (-2) := by rw [← hve, hc9]; rfl
      subst hv
      refine vx_catch (E := excN 2) (name := excN 2) hown (tableOf []) ⟨0, 5, 6, 19⟩ (tableOf [(0, 5, 10, 21)]) htab (l_pass (k := 2) X.1 hN (by decide) (f := []) rfl (fun z hz => by cases hz)) (by decide) (by decide) (hts _ w_729) (va_Nw.use (cNest_on _ cn_10) (hK.2.2.1 _ cn_10)) hce hcv hcl ?_
      refine lv_astore_n hx hb dL_takes_6 rfl hl (Nat.le_of_ble_eq_true rfl) rfl (fun ls hl => ?_)
      refine lv_bipush (v := (-2)) hx hb dL_takes_7 (by decide) ?_
      exact l_ri X hI hS (Nat.le_refl _) (Nat.le_refl _) dL_takes_9
    · subst hk9
      have hv : v = (-4) := by rw [← hve, hc9]; rfl
      subst hv
      refine vx_catch (E := excN 1) (name := excN 1) hown (tableOf [(0, 5, 6, 19)]) ⟨0, 5, 10, 21⟩ (tableOf []) htab (l_pass (k := 1) X.1 hN (by decide) (f := [(19, 2)]) rfl (fun z hz => by
      rw [List.mem_singleton.mp hz]
      exact ⟨by decide, by decide, by decide, w_729⟩)) (by decide) (by decide) (hts _ w_730) (va_Nw.use (cNest_on _ cn_9) (hK.2.2.1 _ cn_9)) hce hcv hcl ?_
      refine lv_astore_n hx hb dL_takes_10 rfl hl (Nat.le_of_ble_eq_true rfl) rfl (fun ls hl => ?_)
      refine lv_bipush (v := (-4)) hx hb dL_takes_11 (by decide) ?_
      exact l_ri X hI hS (Nat.le_refl _) (Nat.le_refl _) dL_takes_13
  · rw [hk] at hag
    have h0 : σ'.2 81 = 0 := (lcd_r rfl hag).symm
    have hu := lvN_inj (hvl u hk)
    have hv : v = u := by rw [← hve, h0, hu]; rfl
    subst hv
    refine W.eq (g2 := F0 m 5 ls [.int v]) rfl ?_
    exact l_ri X hI hS (Nat.le_refl _) (Nat.le_refl _) dL_takes_5
theorem ww_L_takes : Cond.static yL_takes ∈ BG ∧ Cond.initialized (yL_takes).cls ∈ BG ∧ Cond.codeWith yL_takes cL_takes 3 (some .int) [(0, 5, 6, 19), (0, 5, 10, 21)] ∈ BG := ⟨w_839, w_55, w_840⟩
theorem hy_L_takes : (yL_takes).cls ≠ "java/lang/invoke/MethodHandle" ∧ (yL_takes).cls ≠ "java/lang/invoke/VarHandle" ∧ (parseMethodDescriptor (yL_takes).desc).map (fun d => d.parameters.length) = some 2 := ⟨by decide, by decide, by decide +kernel⟩
def f_L_shadows (x1 : Int32) (V : lwS) : Option (Int32 × lwS) := oM (fun r => if r.1 = 0 then 0 else if r.1 = 1 then (-2) else (-4)) (oU (f_shadow x1) V)
set_option maxRecDepth 20000 in
set_option maxHeartbeats 4000000 in
theorem K_L_shadows (l : Launch) (hl9 : l.stackTraces = false) (D : cD) (b : Nat × Nat) (V : lwS) (x1 : Int32) {v : Int32} {V' : lwS} (h : f_L_shadows x1 V = some (v, V')) : Met l yL_shadows (Cond.codeWith yL_shadows cL_shadows 3 (some .int) [(0, 6, 7, 19), (0, 6, 11, 21)] :: BG) (rA 8 2 12 134) (lwPc D b V [cv (lwO b) (some 1), .int x1]) (lwQ D b V' (some (.int v))) 2 12 (cReg (lwO b)) := by
  refine va_MetW (cc := cL_shadows) (maxL := 3) (ret := some .int) (hh := [(0, 6, 7, 19), (0, 6, 11, 21)]) (by decide) rfl ?_
  intro p e s m args below meth c s₁ B hml hv9
  obtain ⟨rfl, hI, hK, hZ, hN⟩ := hv9
  have X := lwX_ofW B hml hK hZ hN rfl
  have htab : c.exceptionTable.toList = tableOf [(0, 6, 7, 19), (0, 6, 11, 21)] := vx_table (x := yL_shadows) B (atoms_spec (ws := Cond.codeWith yL_shadows cL_shadows 3 (some .int) [(0, 6, 7, 19), (0, 6, 11, 21)] :: BG) B.pre _ List.mem_cons_self)
  obtain ⟨r9, hr9, h⟩ := ob h
  obtain ⟨hk6, σ', hg, rfl⟩ := oU_spec hr9
  obtain ⟨⟨S, ⟨T, Gq, Lq, A, ex, K, v9, nw, w⟩, hP⟩, hAr⟩ := hI
  have sq := sq_shadow hk6 w (x1)
  obtain ⟨q, r, hq, hr, hag, hJ⟩ := sq
  have : r = σ' := Option.some.inj (hr.symm.trans hg)
  subst this
  obtain ⟨hve, hVe⟩ := Prod.mk.inj (Option.some.inj h)
  subst hVe
  have hx := X.1.1
  have hb := X.1.2.1
  have hown := X.1.2.2.2.1
  have hts := X.1.2.2.2.2.1
  have hl := lv_entry [cv (lwO b) (some 1), .int x1] (n := 3) (by simp only [lgs_r, lgs_i, lgs_l, lgs_0, List.length]; exact Nat.le_of_ble_eq_true rfl)
  rw [lg_entry_eq]
  generalize (lg_sl [cv (lwO b) (some 1), .int x1] ++ List.replicate (3 - (lg_sl [cv (lwO b) (some 1), .int x1]).length) Slot.unset).toArray = ls at hl ⊢
  simp only [lv_args_r, lv_args_i, lv_args_l, lv_args_0] at hl
  have hl : lv_has ls 3 [(0, cv (lwO b) (some 1)), (1, .int x1)] := hl
  have hS : va_S (cReg (lwO b)) s.heap s.heap [] := va_S.rf
  show W p l e (rA 8 2 12 134) s m [cv (lwO b) (some 1), .int x1].toArray below meth c s.heap [] 0 0 (MQ below (lwQ D b (r, V.2.1 + 1, V.2.2) (some (.int v))) [cv (lwO b) (some 1), .int x1].toArray s 2 12 (cReg (lwO b))) (F0 m 0 ls [])
  refine c_aload_n hx hb dL_shadows_0 rfl (lv_at hl 0 rfl) ?_
  refine lv_iload_n hx hb dL_shadows_1 rfl (lv_at hl 1 rfl) ?_
  refine l_callw (V := V) (V' := (r, V.2.1 + 1, V.2.2)) (rest := []) (c_tVz (e := e) (below := below) (locs := []) (rest := []) (Φ := lwF b V.2.2) X.1 (K_X11_shadow l hl9 D (lwF b V.2.2) S 1 (x1) hq) (RJ.rcs ⟨T, Gq, Lq, A, ex, K, v9, nw, w⟩) ⟨by decide, by decide⟩ ⟨w_1209, ww_X11_shadow⟩ rfl hy_X11_shadow rfl ⟨(Nat.le_of_ble_eq_true rfl), (Nat.le_of_ble_eq_true rfl)⟩ hP (lwZ X hS) hl.1 (Nat.le_of_ble_eq_true rfl) dL_shadows_2 rfl ⟨(Nat.le_of_ble_eq_true rfl), (Nat.le_of_ble_eq_true rfl)⟩) hP hAr hS (fun n hn => (hJ n hn).rj) rfl (fun k q9 ce H locs hk hI hS hce hcv hcl => ?_) (fun u H locs hk hI hS => ?_)
  · rw [hk] at hag
    have hc : lcdL [2, 1] k 1 = some (r.2 81) := hag
    rcases lcd2 hc with ⟨hk9, hc9⟩ | ⟨hk9, hc9⟩
    · subst hk9
      have hv : v = (-2) := by rw [← hve, hc9]; rfl
      subst hv
      refine vx_catch (E := excN 2) (name := excN 2) hown (tableOf []) ⟨0, 6, 7, 19⟩ (tableOf [(0, 6, 11, 21)]) htab (l_pass (k := 2) X.1 hN (by decide) (f := []) rfl (fun z hz => by cases hz)) (by decide) (by decide) (hts _ w_729) (va_Nw.use (cNest_on _ cn_10) (hK.2.2.1 _ cn_10)) hce hcv hcl ?_
      refine lv_astore_n hx hb dL_shadows_7 rfl hl (Nat.le_of_ble_eq_true rfl) rfl (fun ls hl => ?_)
      refine lv_bipush (v := (-2)) hx hb dL_shadows_8 (by decide) ?_
      exact l_ri X hI hS (Nat.le_refl _) (Nat.le_refl _) dL_shadows_10
    · subst hk9
      have hv : v = (-4) := by rw [← hve, hc9]; rfl
      subst hv
      refine vx_catch (E := excN 1) (name := excN 1) hown (tableOf [(0, 6, 7, 19)]) ⟨0, 6, 11, 21⟩ (tableOf []) htab (l_pass (k := 1) X.1 hN (by decide) (f := [(19, 2)]) rfl (fun z hz => by
      rw [List.mem_singleton.mp hz]
      exact ⟨by decide, by decide, by decide, w_729⟩)) (by decide) (by decide) (hts _ w_730) (va_Nw.use (cNest_on _ cn_9) (hK.2.2.1 _ cn_9)) hce hcv hcl ?_
      refine lv_astore_n hx hb dL_shadows_11 rfl hl (Nat.le_of_ble_eq_true rfl) rfl (fun ls hl => ?_)
      refine lv_bipush (v := (-4)) hx hb dL_shadows_12 (by decide) ?_
      exact l_ri X hI hS (Nat.le_refl _) (Nat.le_refl _) dL_shadows_14
  · rw [hk] at hag
    have h0 : r.2 81 = 0 := (lcd_r rfl hag).symm
    have hv : v = 0 := by rw [← hve, h0]; rfl
    subst hv
    refine W.eq (g2 := F0 m 5 ls []) rfl ?_
    refine lv_iconst (v := 0) hx hb dL_shadows_5 (by decide) ?_
    exact l_ri X hI hS (Nat.le_refl _) (Nat.le_refl _) dL_shadows_6
theorem ww_L_shadows : Cond.static yL_shadows ∈ BG ∧ Cond.initialized (yL_shadows).cls ∈ BG ∧ Cond.codeWith yL_shadows cL_shadows 3 (some .int) [(0, 6, 7, 19), (0, 6, 11, 21)] ∈ BG := ⟨w_1207, w_55, w_1208⟩
theorem hy_L_shadows : (yL_shadows).cls ≠ "java/lang/invoke/MethodHandle" ∧ (yL_shadows).cls ≠ "java/lang/invoke/VarHandle" ∧ (parseMethodDescriptor (yL_shadows).desc).map (fun d => d.parameters.length) = some 2 := ⟨by decide, by decide, by decide +kernel⟩
def f_L_tests (x1 : Int32) (x2 : Int32) (x3 : Int32) (V : lwS) : Option (Int32 × lwS) := oM (fun r => if r.1 = 0 then r.2 else if r.1 = 1 then (-3) else if r.1 = 2 then (-2) else (-4)) (oR (f_test x1 x2 x3) V)
set_option maxRecDepth 20000 in
set_option maxHeartbeats 4000000 in
theorem K_L_tests (l : Launch) (hl9 : l.stackTraces = false) (D : cD) (b : Nat × Nat) (V : lwS) (x1 : Int32) (x2 : Int32) (x3 : Int32) {v : Int32} {V' : lwS} (h : f_L_tests x1 x2 x3 V = some (v, V')) : Met l yL_tests (Cond.codeWith yL_tests cL_tests 5 (some .int) [(0, 7, 8, 37), (0, 7, 13, 19), (0, 7, 18, 21)] :: BG) (rA 8 2 12 135) (lwPc D b V [cv (lwO b) (some 1), .int x1, .int x2, .int x3]) (lwQ D b V' (some (.int v))) 2 12 (cReg (lwO b)) := by
  refine va_MetW (cc := cL_tests) (maxL := 5) (ret := some .int) (hh := [(0, 7, 8, 37), (0, 7, 13, 19), (0, 7, 18, 21)]) (by decide) rfl ?_
  intro p e s m args below meth c s₁ B hml hv9
  obtain ⟨rfl, hI, hK, hZ, hN⟩ := hv9
  have X := lwX_ofW B hml hK hZ hN rfl
  have htab : c.exceptionTable.toList = tableOf [(0, 7, 8, 37), (0, 7, 13, 19), (0, 7, 18, 21)] := vx_table (x := yL_tests) B (atoms_spec (ws := Cond.codeWith yL_tests cL_tests 5 (some .int) [(0, 7, 8, 37), (0, 7, 13, 19), (0, 7, 18, 21)] :: BG) B.pre _ List.mem_cons_self)
  obtain ⟨r9, hr9, h⟩ := ob h
  obtain ⟨hk6, a9, σ', hg, rfl⟩ := oR_spec hr9
  obtain ⟨⟨S, ⟨T, Gq, Lq, A, ex, K, v9, nw, w⟩, hP⟩, hAr⟩ := hI
  have sq := sq_test w (x1) (x2) (x3)
  obtain ⟨q, r, hq, hr, ⟨hag, hvl⟩, hJ⟩ := sq
  have : r = (a9, σ') := Option.some.inj (hr.symm.trans hg)
  subst this
  obtain ⟨hve, hVe⟩ := Prod.mk.inj (Option.some.inj h)
  subst hVe
  have hx := X.1.1
  have hb := X.1.2.1
  have hown := X.1.2.2.2.1
  have hts := X.1.2.2.2.2.1
  have hl := lv_entry [cv (lwO b) (some 1), .int x1, .int x2, .int x3] (n := 5) (by simp only [lgs_r, lgs_i, lgs_l, lgs_0, List.length]; exact Nat.le_of_ble_eq_true rfl)
  rw [lg_entry_eq]
  generalize (lg_sl [cv (lwO b) (some 1), .int x1, .int x2, .int x3] ++ List.replicate (5 - (lg_sl [cv (lwO b) (some 1), .int x1, .int x2, .int x3]).length) Slot.unset).toArray = ls at hl ⊢
  simp only [lv_args_r, lv_args_i, lv_args_l, lv_args_0] at hl
  have hl : lv_has ls 5 [(0, cv (lwO b) (some 1)), (1, .int x1), (2, .int x2), (3, .int x3)] := hl
  have hS : va_S (cReg (lwO b)) s.heap s.heap [] := va_S.rf
  show W p l e (rA 8 2 12 135) s m [cv (lwO b) (some 1), .int x1, .int x2, .int x3].toArray below meth c s.heap [] 0 0 (MQ below (lwQ D b (σ', V.2.1 + 1, V.2.2) (some (.int v))) [cv (lwO b) (some 1), .int x1, .int x2, .int x3].toArray s 2 12 (cReg (lwO b))) (F0 m 0 ls [])
  refine c_aload_n hx hb dL_tests_0 rfl (lv_at hl 0 rfl) ?_
  refine lv_iload_n hx hb dL_tests_1 rfl (lv_at hl 1 rfl) ?_
  refine lv_iload_n hx hb dL_tests_2 rfl (lv_at hl 2 rfl) ?_
  refine lv_iload_n hx hb dL_tests_3 rfl (lv_at hl 3 rfl) ?_
  refine l_callw (V := V) (V' := (σ', V.2.1 + 1, V.2.2)) (rest := []) (c_tVz (e := e) (below := below) (locs := []) (rest := []) (Φ := lwF b V.2.2) X.1 (K_X11_test l hl9 D (lwF b V.2.2) S 1 (x1) (x2) (x3) hq) (RJ.rcs ⟨T, Gq, Lq, A, ex, K, v9, nw, w⟩) ⟨by decide, by decide⟩ ⟨w_853, ww_X11_test⟩ rfl hy_X11_test rfl ⟨(Nat.le_of_ble_eq_true rfl), (Nat.le_of_ble_eq_true rfl)⟩ hP (lwZ X hS) hl.1 (Nat.le_of_ble_eq_true rfl) dL_tests_4 rfl ⟨(Nat.le_of_ble_eq_true rfl), (Nat.le_of_ble_eq_true rfl)⟩) hP hAr hS (fun n hn => (hJ n hn).rj) rfl (fun k q9 ce H locs hk hI hS hce hcv hcl => ?_) (fun u H locs hk hI hS => ?_)
  · rw [hk] at hag
    have hc : lcdL [0, 2, 1] k 1 = some (σ'.2 81) := hag
    rcases lcd3 hc with ⟨hk9, hc9⟩ | ⟨hk9, hc9⟩ | ⟨hk9, hc9⟩
    · subst hk9
      have hv : v = (-3) := by rw [← hve, hc9]; rfl
      subst hv
      refine vx_catch (E := excN 0) (name := excN 0) hown (tableOf []) ⟨0, 7, 8, 37⟩ (tableOf [(0, 7, 13, 19), (0, 7, 18, 21)]) htab (l_pass (k := 0) X.1 hN (by decide) (f := []) rfl (fun z hz => by cases hz)) (by decide) (by decide) (hts _ w_852) (va_Nw.use (cNest_on _ cn_8) (hK.2.2.1 _ cn_8)) hce hcv hcl ?_
      refine lv_astore hx hb dL_tests_8 hl (Nat.le_of_ble_eq_true rfl) rfl (fun ls hl => ?_)
      refine lv_bipush (v := (-3)) hx hb dL_tests_10 (by decide) ?_
      exact l_ri X hI hS (Nat.le_refl _) (Nat.le_refl _) dL_tests_12
    · subst hk9
      have hv : v = (-2) := by rw [← hve, hc9]; rfl
      subst hv
      refine vx_catch (E := excN 2) (name := excN 2) hown (tableOf [(0, 7, 8, 37)]) ⟨0, 7, 13, 19⟩ (tableOf [(0, 7, 18, 21)]) htab (l_pass (k := 2) X.1 hN (by decide) (f := [(37, 0)]) rfl (fun z hz => by
      rw [List.mem_singleton.mp hz]
      exact ⟨by decide, by decide, by decide, w_852⟩)) (by decide) (by decide) (hts _ w_729) (va_Nw.use (cNest_on _ cn_10) (hK.2.2.1 _ cn_10)) hce hcv hcl ?_
      refine lv_astore hx hb dL_tests_13 hl (Nat.le_of_ble_eq_true rfl) rfl (fun ls hl => ?_)
      refine lv_bipush (v := (-2)) hx hb dL_tests_15 (by decide) ?_
      exact l_ri X hI hS (Nat.le_refl _) (Nat.le_refl _) dL_tests_17
    · subst hk9
      have hv : v = (-4) := by rw [← hve, hc9]; rfl
      subst hv
      refine vx_catch (E := excN 1) (name := excN 1) hown (tableOf [(0, 7, 8, 37), (0, 7, 13, 19)]) ⟨0, 7, 18, 21⟩ (tableOf []) htab (l_pass (k := 1) X.1 hN (by decide) (f := [(37, 0), (19, 2)]) rfl (fun z hz => by
      rcases List.mem_cons.mp hz with rfl | hz
      · exact ⟨by decide, by decide, by decide, w_852⟩
      · rw [List.mem_singleton.mp hz]
        exact ⟨by decide, by decide, by decide, w_729⟩)) (by decide) (by decide) (hts _ w_730) (va_Nw.use (cNest_on _ cn_9) (hK.2.2.1 _ cn_9)) hce hcv hcl ?_
      refine lv_astore hx hb dL_tests_18 hl (Nat.le_of_ble_eq_true rfl) rfl (fun ls hl => ?_)
      refine lv_bipush (v := (-4)) hx hb dL_tests_20 (by decide) ?_
      exact l_ri X hI hS (Nat.le_refl _) (Nat.le_refl _) dL_tests_22
  · rw [hk] at hag
    have h0 : σ'.2 81 = 0 := (lcd_r rfl hag).symm
    have hu := lvN_inj (hvl u hk)
    have hv : v = u := by rw [← hve, h0, hu]; rfl
    subst hv
    refine W.eq (g2 := F0 m 7 ls [.int v]) rfl ?_
    exact l_ri X hI hS (Nat.le_refl _) (Nat.le_refl _) dL_tests_7
theorem ww_L_tests : Cond.static yL_tests ∈ BG ∧ Cond.initialized (yL_tests).cls ∈ BG ∧ Cond.codeWith yL_tests cL_tests 5 (some .int) [(0, 7, 8, 37), (0, 7, 13, 19), (0, 7, 18, 21)] ∈ BG := ⟨w_850, w_55, w_851⟩
theorem hy_L_tests : (yL_tests).cls ≠ "java/lang/invoke/MethodHandle" ∧ (yL_tests).cls ≠ "java/lang/invoke/VarHandle" ∧ (parseMethodDescriptor (yL_tests).desc).map (fun d => d.parameters.length) = some 4 := ⟨by decide, by decide, by decide +kernel⟩
def f_L_joins (x1 : Int32) (V : lwS) : Option (Int32 × lwS) := oM (fun r => if r.1 = 0 then r.2 else if r.1 = 1 then (-3) else (-4)) (oR (f_join x1) V)
set_option maxRecDepth 20000 in
set_option maxHeartbeats 4000000 in
theorem K_L_joins (l : Launch) (hl9 : l.stackTraces = false) (D : cD) (b : Nat × Nat) (V : lwS) (x1 : Int32) {v : Int32} {V' : lwS} (h : f_L_joins x1 V = some (v, V')) : Met l yL_joins (Cond.codeWith yL_joins cL_joins 3 (some .int) [(0, 5, 6, 37), (0, 5, 10, 21)] :: BG) (rA 8 6 34 132) (lwPc D b V [cv (lwO b) (some 1), .int x1]) (lwQ D b V' (some (.int v))) 6 34 (cReg (lwO b)) := by
  refine va_MetW (cc := cL_joins) (maxL := 3) (ret := some .int) (hh := [(0, 5, 6, 37), (0, 5, 10, 21)]) (by decide) rfl ?_
  intro p e s m args below meth c s₁ B hml hv9
  obtain ⟨rfl, hI, hK, hZ, hN⟩ := hv9
  have X := lwX_ofW B hml hK hZ hN rfl
  have htab : c.exceptionTable.toList = tableOf [(0, 5, 6, 37), (0, 5, 10, 21)] := vx_table (x := yL_joins) B (atoms_spec (ws := Cond.codeWith yL_joins cL_joins 3 (some .int) [(0, 5, 6, 37), (0, 5, 10, 21)] :: BG) B.pre _ List.mem_cons_self)
  obtain ⟨r9, hr9, h⟩ := ob h
  obtain ⟨hk6, a9, σ', hg, rfl⟩ := oR_spec hr9
  obtain ⟨⟨S, ⟨T, Gq, Lq, A, ex, K, v9, nw, w⟩, hP⟩, hAr⟩ := hI
  have sq := sq_join w (x1)
  obtain ⟨q, r, hq, hr, ⟨hag, hvl⟩, hJ⟩ := sq
  have : r = (a9, σ') := Option.some.inj (hr.symm.trans hg)
  subst this
  obtain ⟨hve, hVe⟩ := Prod.mk.inj (Option.some.inj h)
  subst hVe
  have hx := X.1.1
  have hb := X.1.2.1
  have hown := X.1.2.2.2.1
  have hts := X.1.2.2.2.2.1
  have hl := lv_entry [cv (lwO b) (some 1), .int x1] (n := 3) (by simp only [lgs_r, lgs_i, lgs_l, lgs_0, List.length]; exact Nat.le_of_ble_eq_true rfl)
  rw [lg_entry_eq]
  generalize (lg_sl [cv (lwO b) (some 1), .int x1] ++ List.replicate (3 - (lg_sl [cv (lwO b) (some 1), .int x1]).length) Slot.unset).toArray = ls at hl ⊢
  simp only [lv_args_r, lv_args_i, lv_args_l, lv_args_0] at hl
  have hl : lv_has ls 3 [(0, cv (lwO b) (some 1)), (1, .int x1)] := hl
  have hS : va_S (cReg (lwO b)) s.heap s.heap [] := va_S.rf
  show W p l e (rA 8 6 34 132) s m [cv (lwO b) (some 1), .int x1].toArray below meth c s.heap [] 0 0 (MQ below (lwQ D b (σ', V.2.1 + 1, V.2.2) (some (.int v))) [cv (lwO b) (some 1), .int x1].toArray s 6 34 (cReg (lwO b))) (F0 m 0 ls [])
  refine c_aload_n hx hb dL_joins_0 rfl (lv_at hl 0 rfl) ?_
  refine lv_iload_n hx hb dL_joins_1 rfl (lv_at hl 1 rfl) ?_
  refine l_callw (V := V) (V' := (σ', V.2.1 + 1, V.2.2)) (rest := []) (c_tVz (e := e) (below := below) (locs := []) (rest := []) (Φ := lwF b V.2.2) X.1 (K_X11_join l hl9 D (lwF b V.2.2) S 1 (x1) hq) (RJ.rcs ⟨T, Gq, Lq, A, ex, K, v9, nw, w⟩) ⟨by decide, by decide⟩ ⟨w_882, ww_X11_join⟩ rfl hy_X11_join rfl ⟨(Nat.le_of_ble_eq_true rfl), (Nat.le_of_ble_eq_true rfl)⟩ hP (lwZ X hS) hl.1 (Nat.le_of_ble_eq_true rfl) dL_joins_2 rfl ⟨(Nat.le_of_ble_eq_true rfl), (Nat.le_of_ble_eq_true rfl)⟩) hP hAr hS (fun n hn => (hJ n hn).rj) rfl (fun k q9 ce H locs hk hI hS hce hcv hcl => ?_) (fun u H locs hk hI hS => ?_)
  · rw [hk] at hag
    have hc : lcdL [0, 1] k 1 = some (σ'.2 81) := hag
    rcases lcd2 hc with ⟨hk9, hc9⟩ | ⟨hk9, hc9⟩
    · subst hk9
      have hv : v = (-3) := by rw [← hve, hc9]; rfl
      subst hv
      refine vx_catch (E := excN 0) (name := excN 0) hown (tableOf []) ⟨0, 5, 6, 37⟩ (tableOf [(0, 5, 10, 21)]) htab (l_pass (k := 0) X.1 hN (by decide) (f := []) rfl (fun z hz => by cases hz)) (by decide) (by decide) (hts _ w_852) (va_Nw.use (cNest_on _ cn_8) (hK.2.2.1 _ cn_8)) hce hcv hcl ?_
      refine lv_astore_n hx hb dL_joins_6 rfl hl (Nat.le_of_ble_eq_true rfl) rfl (fun ls hl => ?_)
      refine lv_bipush (v := (-3)) hx hb dL_joins_7 (by decide) ?_
      exact l_ri X hI hS (Nat.le_refl _) (Nat.le_refl _) dL_joins_9
    · subst hk9
      have hv : v = (-4) := by rw [← hve, hc9]; rfl
      subst hv
      refine vx_catch (E := excN 1) (name := excN 1) hown (tableOf [(0, 5, 6, 37)]) ⟨0, 5, 10, 21⟩ (tableOf []) htab (l_pass (k := 1) X.1 hN (by decide) (f := [(37, 0)]) rfl (fun z hz => by
      rw [List.mem_singleton.mp hz]
      exact ⟨by decide, by decide, by decide, w_852⟩)) (by decide) (by decide) (hts _ w_730) (va_Nw.use (cNest_on _ cn_9) (hK.2.2.1 _ cn_9)) hce hcv hcl ?_
      refine lv_astore_n hx hb dL_joins_10 rfl hl (Nat.le_of_ble_eq_true rfl) rfl (fun ls hl => ?_)
      refine lv_bipush (v := (-4)) hx hb dL_joins_11 (by decide) ?_
      exact l_ri X hI hS (Nat.le_refl _) (Nat.le_refl _) dL_joins_13
  · rw [hk] at hag
    have h0 : σ'.2 81 = 0 := (lcd_r rfl hag).symm
    have hu := lvN_inj (hvl u hk)
    have hv : v = u := by rw [← hve, h0, hu]; rfl
    subst hv
    refine W.eq (g2 := F0 m 5 ls [.int v]) rfl ?_
    exact l_ri X hI hS (Nat.le_refl _) (Nat.le_refl _) dL_joins_5
theorem ww_L_joins : Cond.static yL_joins ∈ BG ∧ Cond.initialized (yL_joins).cls ∈ BG ∧ Cond.codeWith yL_joins cL_joins 3 (some .int) [(0, 5, 6, 37), (0, 5, 10, 21)] ∈ BG := ⟨w_880, w_55, w_881⟩
theorem hy_L_joins : (yL_joins).cls ≠ "java/lang/invoke/MethodHandle" ∧ (yL_joins).cls ≠ "java/lang/invoke/VarHandle" ∧ (parseMethodDescriptor (yL_joins).desc).map (fun d => d.parameters.length) = some 2 := ⟨by decide, by decide, by decide +kernel⟩
def f_L_sheets (x1 : Int32) (x2 : Int32) (x3 : Int32) (V : lwS) : Option (Int32 × lwS) := oM (fun r => if r.1 = 0 then r.2 else if r.1 = 1 then (-3) else if r.1 = 2 then (-2) else (-4)) (oR (f_sheet x1 x2 x3) V)
set_option maxRecDepth 20000 in
set_option maxHeartbeats 4000000 in
theorem K_L_sheets (l : Launch) (hl9 : l.stackTraces = false) (D : cD) (b : Nat × Nat) (V : lwS) (x1 : Int32) (x2 : Int32) (x3 : Int32) {v : Int32} {V' : lwS} (h : f_L_sheets x1 x2 x3 V = some (v, V')) : Met l yL_sheets (Cond.codeWith yL_sheets cL_sheets 5 (some .int) [(0, 7, 8, 37), (0, 7, 13, 19), (0, 7, 18, 21)] :: BG) (rA 8 4 23 133) (lwPc D b V [cv (lwO b) (some 1), .int x1, .int x2, .int x3]) (lwQ D b V' (some (.int v))) 4 23 (cReg (lwO b)) := by
  refine va_MetW (cc := cL_sheets) (maxL := 5) (ret := some .int) (hh := [(0, 7, 8, 37), (0, 7, 13, 19), (0, 7, 18, 21)]) (by decide) rfl ?_
  intro p e s m args below meth c s₁ B hml hv9
  obtain ⟨rfl, hI, hK, hZ, hN⟩ := hv9
  have X := lwX_ofW B hml hK hZ hN rfl
  have htab : c.exceptionTable.toList = tableOf [(0, 7, 8, 37), (0, 7, 13, 19), (0, 7, 18, 21)] := vx_table (x := yL_sheets) B (atoms_spec (ws := Cond.codeWith yL_sheets cL_sheets 5 (some .int) [(0, 7, 8, 37), (0, 7, 13, 19), (0, 7, 18, 21)] :: BG) B.pre _ List.mem_cons_self)
  obtain ⟨r9, hr9, h⟩ := ob h
  obtain ⟨hk6, a9, σ', hg, rfl⟩ := oR_spec hr9
  obtain ⟨⟨S, ⟨T, Gq, Lq, A, ex, K, v9, nw, w⟩, hP⟩, hAr⟩ := hI
  have sq := sq_sheet w (x1) (x2) (x3)
  obtain ⟨q, r, hq, hr, ⟨hag, hvl⟩, hJ⟩ := sq
  have : r = (a9, σ') := Option.some.inj (hr.symm.trans hg)
  subst this
  obtain ⟨hve, hVe⟩ := Prod.mk.inj (Option.some.inj h)
  subst hVe
  have hx := X.1.1
  have hb := X.1.2.1
  have hown := X.1.2.2.2.1
  have hts := X.1.2.2.2.2.1
  have hl := lv_entry [cv (lwO b) (some 1), .int x1, .int x2, .int x3] (n := 5) (by simp only [lgs_r, lgs_i, lgs_l, lgs_0, List.length]; exact Nat.le_of_ble_eq_true rfl)
  rw [lg_entry_eq]
  generalize (lg_sl [cv (lwO b) (some 1), .int x1, .int x2, .int x3] ++ List.replicate (5 - (lg_sl [cv (lwO b) (some 1), .int x1, .int x2, .int x3]).length) Slot.unset).toArray = ls at hl ⊢
  simp only [lv_args_r, lv_args_i, lv_args_l, lv_args_0] at hl
  have hl : lv_has ls 5 [(0, cv (lwO b) (some 1)), (1, .int x1), (2, .int x2), (3, .int x3)] := hl
  have hS : va_S (cReg (lwO b)) s.heap s.heap [] := va_S.rf
  show W p l e (rA 8 4 23 133) s m [cv (lwO b) (some 1), .int x1, .int x2, .int x3].toArray below meth c s.heap [] 0 0 (MQ below (lwQ D b (σ', V.2.1 + 1, V.2.2) (some (.int v))) [cv (lwO b) (some 1), .int x1, .int x2, .int x3].toArray s 4 23 (cReg (lwO b))) (F0 m 0 ls [])
  refine c_aload_n hx hb dL_sheets_0 rfl (lv_at hl 0 rfl) ?_
  refine lv_iload_n hx hb dL_sheets_1 rfl (lv_at hl 1 rfl) ?_
  refine lv_iload_n hx hb dL_sheets_2 rfl (lv_at hl 2 rfl) ?_
  refine lv_iload_n hx hb dL_sheets_3 rfl (lv_at hl 3 rfl) ?_
  refine l_callw (V := V) (V' := (σ', V.2.1 + 1, V.2.2)) (rest := []) (c_tVz (e := e) (below := below) (locs := []) (rest := []) (Φ := lwF b V.2.2) X.1 (K_X11_sheet l hl9 D (lwF b V.2.2) S 1 (x1) (x2) (x3) hq) (RJ.rcs ⟨T, Gq, Lq, A, ex, K, v9, nw, w⟩) ⟨by decide, by decide⟩ ⟨w_1245, ww_X11_sheet⟩ rfl hy_X11_sheet rfl ⟨(Nat.le_of_ble_eq_true rfl), (Nat.le_of_ble_eq_true rfl)⟩ hP (lwZ X hS) hl.1 (Nat.le_of_ble_eq_true rfl) dL_sheets_4 rfl ⟨(Nat.le_of_ble_eq_true rfl), (Nat.le_of_ble_eq_true rfl)⟩) hP hAr hS (fun n hn => (hJ n hn).rj) rfl (fun k q9 ce H locs hk hI hS hce hcv hcl => ?_) (fun u H locs hk hI hS => ?_)
  · rw [hk] at hag
    have hc : lcdL [0, 2, 1] k 1 = some (σ'.2 81) := hag
    rcases lcd3 hc with ⟨hk9, hc9⟩ | ⟨hk9, hc9⟩ | ⟨hk9, hc9⟩
    · subst hk9
      have hv : v = (-3) := by rw [← hve, hc9]; rfl
      subst hv
      refine vx_catch (E := excN 0) (name := excN 0) hown (tableOf []) ⟨0, 7, 8, 37⟩ (tableOf [(0, 7, 13, 19), (0, 7, 18, 21)]) htab (l_pass (k := 0) X.1 hN (by decide) (f := []) rfl (fun z hz => by cases hz)) (by decide) (by decide) (hts _ w_852) (va_Nw.use (cNest_on _ cn_8) (hK.2.2.1 _ cn_8)) hce hcv hcl ?_
      refine lv_astore hx hb dL_sheets_8 hl (Nat.le_of_ble_eq_true rfl) rfl (fun ls hl => ?_)
      refine lv_bipush (v := (-3)) hx hb dL_sheets_10 (by decide) ?_
      exact l_ri X hI hS (Nat.le_refl _) (Nat.le_refl _) dL_sheets_12
    · subst hk9
      have hv : v = (-2) := by rw [← hve, hc9]; rfl
      subst hv
      refine vx_catch (E := excN 2) (name := excN 2) hown (tableOf [(0, 7, 8, 37)]) ⟨0, 7, 13, 19⟩ (tableOf [(0, 7, 18, 21)]) htab (l_pass (k := 2) X.1 hN (by decide) (f := [(37, 0)]) rfl (fun z hz => by
      rw [List.mem_singleton.mp hz]
      exact ⟨by decide, by decide, by decide, w_852⟩)) (by decide) (by decide) (hts _ w_729) (va_Nw.use (cNest_on _ cn_10) (hK.2.2.1 _ cn_10)) hce hcv hcl ?_
      refine lv_astore hx hb dL_sheets_13 hl (Nat.le_of_ble_eq_true rfl) rfl (fun ls hl => ?_)
      refine lv_bipush (v := (-2)) hx hb dL_sheets_15 (by decide) ?_
      exact l_ri X hI hS (Nat.le_refl _) (Nat.le_refl _) dL_sheets_17
    · subst hk9
      have hv : v = (-4) := by rw [← hve, hc9]; rfl
      subst hv
      refine vx_catch (E := excN 1) (name := excN 1) hown (tableOf [(0, 7, 8, 37), (0, 7, 13, 19)]) ⟨0, 7, 18, 21⟩ (tableOf []) htab (l_pass (k := 1) X.1 hN (by decide) (f := [(37, 0), (19, 2)]) rfl (fun z hz => by
      rcases List.mem_cons.mp hz with rfl | hz
      · exact ⟨by decide, by decide, by decide, w_852⟩
      · rw [List.mem_singleton.mp hz]
        exact ⟨by decide, by decide, by decide, w_729⟩)) (by decide) (by decide) (hts _ w_730) (va_Nw.use (cNest_on _ cn_9) (hK.2.2.1 _ cn_9)) hce hcv hcl ?_
      refine lv_astore hx hb dL_sheets_18 hl (Nat.le_of_ble_eq_true rfl) rfl (fun ls hl => ?_)
      refine lv_bipush (v := (-4)) hx hb dL_sheets_20 (by decide) ?_
      exact l_ri X hI hS (Nat.le_refl _) (Nat.le_refl _) dL_sheets_22
  · rw [hk] at hag
    have h0 : σ'.2 81 = 0 := (lcd_r rfl hag).symm
    have hu := lvN_inj (hvl u hk)
    have hv : v = u := by rw [← hve, h0, hu]; rfl
    subst hv
    refine W.eq (g2 := F0 m 7 ls [.int v]) rfl ?_
    exact l_ri X hI hS (Nat.le_refl _) (Nat.le_refl _) dL_sheets_7
theorem ww_L_sheets : Cond.static yL_sheets ∈ BG ∧ Cond.initialized (yL_sheets).cls ∈ BG ∧ Cond.codeWith yL_sheets cL_sheets 5 (some .int) [(0, 7, 8, 37), (0, 7, 13, 19), (0, 7, 18, 21)] ∈ BG := ⟨w_1243, w_55, w_1244⟩
theorem hy_L_sheets : (yL_sheets).cls ≠ "java/lang/invoke/MethodHandle" ∧ (yL_sheets).cls ≠ "java/lang/invoke/VarHandle" ∧ (parseMethodDescriptor (yL_sheets).desc).map (fun d => d.parameters.length) = some 4 := ⟨by decide, by decide, by decide +kernel⟩
def f_L_rules (x1 : Int32) (x2 : Int32) (V : lwS) : Option (Int32 × lwS) := oM (fun r => if r.1 = 0 then r.2 else if r.1 = 1 then (-2) else (-4)) (oR (f_rule x1 x2) V)
set_option maxRecDepth 20000 in
set_option maxHeartbeats 4000000 in
theorem K_L_rules (l : Launch) (hl9 : l.stackTraces = false) (D : cD) (b : Nat × Nat) (V : lwS) (x1 : Int32) (x2 : Int32) {v : Int32} {V' : lwS} (h : f_L_rules x1 x2 V = some (v, V')) : Met l yL_rules (Cond.codeWith yL_rules cL_rules 4 (some .int) [(0, 6, 7, 19), (0, 6, 11, 21)] :: BG) (rA 8 8 93 136) (lwPc D b V [cv (lwO b) (some 1), .int x1, .int x2]) (lwQ D b V' (some (.int v))) 8 93 (cReg (lwO b)) := by
  refine va_MetW (cc := cL_rules) (maxL := 4) (ret := some .int) (hh := [(0, 6, 7, 19), (0, 6, 11, 21)]) (by decide) rfl ?_
  intro p e s m args below meth c s₁ B hml hv9
  obtain ⟨rfl, hI, hK, hZ, hN⟩ := hv9
  have X := lwX_ofW B hml hK hZ hN rfl
  have htab : c.exceptionTable.toList = tableOf [(0, 6, 7, 19), (0, 6, 11, 21)] := vx_table (x := yL_rules) B (atoms_spec (ws := Cond.codeWith yL_rules cL_rules 4 (some .int) [(0, 6, 7, 19), (0, 6, 11, 21)] :: BG) B.pre _ List.mem_cons_self)
  obtain ⟨r9, hr9, h⟩ := ob h
  obtain ⟨hk6, a9, σ', hg, rfl⟩ := oR_spec hr9
  obtain ⟨⟨S, ⟨T, Gq, Lq, A, ex, K, v9, nw, w⟩, hP⟩, hAr⟩ := hI
  have sq := sq_rule w (x1) (x2)
  obtain ⟨q, r, hq, hr, ⟨hag, hvl⟩, hJ⟩ := sq
  have : r = (a9, σ') := Option.some.inj (hr.symm.trans hg)
  subst this
  obtain ⟨hve, hVe⟩ := Prod.mk.inj (Option.some.inj h)
  subst hVe
  have hx := X.1.1
  have hb := X.1.2.1
  have hown := X.1.2.2.2.1
  have hts := X.1.2.2.2.2.1
  have hl := lv_entry [cv (lwO b) (some 1), .int x1, .int x2] (n := 4) (by simp only [lgs_r, lgs_i, lgs_l, lgs_0, List.length]; exact Nat.le_of_ble_eq_true rfl)
  rw [lg_entry_eq]
  generalize (lg_sl [cv (lwO b) (some 1), .int x1, .int x2] ++ List.replicate (4 - (lg_sl [cv (lwO b) (some 1), .int x1, .int x2]).length) Slot.unset).toArray = ls at hl ⊢
  simp only [lv_args_r, lv_args_i, lv_args_l, lv_args_0] at hl
  have hl : lv_has ls 4 [(0, cv (lwO b) (some 1)), (1, .int x1), (2, .int x2)] := hl
  have hS : va_S (cReg (lwO b)) s.heap s.heap [] := va_S.rf
  show W p l e (rA 8 8 93 136) s m [cv (lwO b) (some 1), .int x1, .int x2].toArray below meth c s.heap [] 0 0 (MQ below (lwQ D b (σ', V.2.1 + 1, V.2.2) (some (.int v))) [cv (lwO b) (some 1), .int x1, .int x2].toArray s 8 93 (cReg (lwO b))) (F0 m 0 ls [])
  refine c_aload_n hx hb dL_rules_0 rfl (lv_at hl 0 rfl) ?_
  refine lv_iload_n hx hb dL_rules_1 rfl (lv_at hl 1 rfl) ?_
  refine lv_iload_n hx hb dL_rules_2 rfl (lv_at hl 2 rfl) ?_
  refine l_callw (V := V) (V' := (σ', V.2.1 + 1, V.2.2)) (rest := []) (c_tVz (e := e) (below := below) (locs := []) (rest := []) (Φ := lwF b V.2.2) X.1 (K_X11_rule l hl9 D (lwF b V.2.2) S 1 (x1) (x2) hq) (RJ.rcs ⟨T, Gq, Lq, A, ex, K, v9, nw, w⟩) ⟨by decide, by decide⟩ ⟨w_1283, ww_X11_rule⟩ rfl hy_X11_rule rfl ⟨(Nat.le_of_ble_eq_true rfl), (Nat.le_of_ble_eq_true rfl)⟩ hP (lwZ X hS) hl.1 (Nat.le_of_ble_eq_true rfl) dL_rules_3 rfl ⟨(Nat.le_of_ble_eq_true rfl), (Nat.le_of_ble_eq_true rfl)⟩) hP hAr hS (fun n hn => (hJ n hn).rj) rfl (fun k q9 ce H locs hk hI hS hce hcv hcl => ?_) (fun u H locs hk hI hS => ?_)
  · rw [hk] at hag
    have hc : lcdL [2, 1] k 1 = some (σ'.2 81) := hag
    rcases lcd2 hc with ⟨hk9, hc9⟩ | ⟨hk9, hc9⟩
    · subst hk9
      have hv : v = (-2) := by rw [← hve, hc9]; rfl
      subst hv
      refine vx_catch (E := excN 2) (name := excN 2) hown (tableOf []) ⟨0, 6, 7, 19⟩ (tableOf [(0, 6, 11, 21)]) htab (l_pass (k := 2) X.1 hN (by decide) (f := []) rfl (fun z hz => by cases hz)) (by decide) (by decide) (hts _ w_729) (va_Nw.use (cNest_on _ cn_10) (hK.2.2.1 _ cn_10)) hce hcv hcl ?_
      refine lv_astore_n hx hb dL_rules_7 rfl hl (Nat.le_of_ble_eq_true rfl) rfl (fun ls hl => ?_)
      refine lv_bipush (v := (-2)) hx hb dL_rules_8 (by decide) ?_
      exact l_ri X hI hS (Nat.le_refl _) (Nat.le_refl _) dL_rules_10
    · subst hk9
      have hv : v = (-4) := by rw [← hve, hc9]; rfl
      subst hv
      refine vx_catch (E := excN 1) (name := excN 1) hown (tableOf [(0, 6, 7, 19)]) ⟨0, 6, 11, 21⟩ (tableOf []) htab (l_pass (k := 1) X.1 hN (by decide) (f := [(19, 2)]) rfl (fun z hz => by
      rw [List.mem_singleton.mp hz]
      exact ⟨by decide, by decide, by decide, w_729⟩)) (by decide) (by decide) (hts _ w_730) (va_Nw.use (cNest_on _ cn_9) (hK.2.2.1 _ cn_9)) hce hcv hcl ?_
      refine lv_astore_n hx hb dL_rules_11 rfl hl (Nat.le_of_ble_eq_true rfl) rfl (fun ls hl => ?_)
      refine lv_bipush (v := (-4)) hx hb dL_rules_12 (by decide) ?_
      exact l_ri X hI hS (Nat.le_refl _) (Nat.le_refl _) dL_rules_14
  · rw [hk] at hag
    have h0 : σ'.2 81 = 0 := (lcd_r rfl hag).symm
    have hu := lvN_inj (hvl u hk)
    have hv : v = u := by rw [← hve, h0, hu]; rfl
    subst hv
    refine W.eq (g2 := F0 m 6 ls [.int v]) rfl ?_
    exact l_ri X hI hS (Nat.le_refl _) (Nat.le_refl _) dL_rules_6
theorem ww_L_rules : Cond.static yL_rules ∈ BG ∧ Cond.initialized (yL_rules).cls ∈ BG ∧ Cond.codeWith yL_rules cL_rules 4 (some .int) [(0, 6, 7, 19), (0, 6, 11, 21)] ∈ BG := ⟨w_1281, w_55, w_1282⟩
theorem hy_L_rules : (yL_rules).cls ≠ "java/lang/invoke/MethodHandle" ∧ (yL_rules).cls ≠ "java/lang/invoke/VarHandle" ∧ (parseMethodDescriptor (yL_rules).desc).map (fun d => d.parameters.length) = some 3 := ⟨by decide, by decide, by decide +kernel⟩
def f_L_declares (x1 : Int32) (x2 : Int32) (x3 : Int32) (x4 : Int32) (x5 : Int32) (V : lwS) : Option (Int32 × lwS) := if x5 = 0 ∨ x5 = 1 then oM (fun r => if r.1 = 0 then r.2 else if r.1 = 1 then (-2) else (-3)) (oR (f_declare x1 x2 x3 x4 x5) V) else none
set_option maxRecDepth 20000 in
set_option maxHeartbeats 4000000 in
theorem K_L_declares (l : Launch) (hl9 : l.stackTraces = false) (D : cD) (b : Nat × Nat) (V : lwS) (x1 : Int32) (x2 : Int32) (x3 : Int32) (x4 : Int32) (x5 : Int32) {v : Int32} {V' : lwS} (h : f_L_declares x1 x2 x3 x4 x5 V = some (v, V')) : Met l yL_declares (Cond.codeWith yL_declares cL_declares 7 (some .int) [(0, 11, 12, 19), (0, 11, 17, 37)] :: BG) (rA 9 2 12 160) (lwPc D b V [cv (lwO b) (some 1), .int x1, .int x2, .int x3, .int x4, .int x5]) (lwQ D b V' (some (.int v))) 2 12 (cReg (lwO b)) := by
  refine va_MetW (cc := cL_declares) (maxL := 7) (ret := some .int) (hh := [(0, 11, 12, 19), (0, 11, 17, 37)]) (by decide) rfl ?_
  intro p e s m args below meth c s₁ B hml hv9
  obtain ⟨rfl, hI, hK, hZ, hN⟩ := hv9
  have X := lwX_ofW B hml hK hZ hN rfl
  have htab : c.exceptionTable.toList = tableOf [(0, 11, 12, 19), (0, 11, 17, 37)] := vx_table (x := yL_declares) B (atoms_spec (ws := Cond.codeWith yL_declares cL_declares 7 (some .int) [(0, 11, 12, 19), (0, 11, 17, 37)] :: BG) B.pre _ List.mem_cons_self)
  unfold f_L_declares at h
  by_cases h5 : x5 = 0 ∨ x5 = 1
  case neg => rw [if_neg h5] at h; cases h
  rw [if_pos h5] at h
  obtain ⟨r9, hr9, h⟩ := ob h
  obtain ⟨hk6, a9, σ', hg, rfl⟩ := oR_spec hr9
  obtain ⟨⟨S, ⟨T, Gq, Lq, A, ex, K, v9, nw, w⟩, hP⟩, hAr⟩ := hI
  have sq := sq_declare w (x1) (x2) (x3) (x4) (x5) h5
  obtain ⟨q, r, hq, hr, ⟨hag, hvl⟩, hJ⟩ := sq
  have : r = (a9, σ') := Option.some.inj (hr.symm.trans hg)
  subst this
  obtain ⟨hve, hVe⟩ := Prod.mk.inj (Option.some.inj h)
  subst hVe
  have hx := X.1.1
  have hb := X.1.2.1
  have hown := X.1.2.2.2.1
  have hts := X.1.2.2.2.2.1
  have hl := lv_entry [cv (lwO b) (some 1), .int x1, .int x2, .int x3, .int x4, .int x5] (n := 7) (by simp only [lgs_r, lgs_i, lgs_l, lgs_0, List.length]; exact Nat.le_of_ble_eq_true rfl)
  rw [lg_entry_eq]
  generalize (lg_sl [cv (lwO b) (some 1), .int x1, .int x2, .int x3, .int x4, .int x5] ++ List.replicate (7 - (lg_sl [cv (lwO b) (some 1), .int x1, .int x2, .int x3, .int x4, .int x5]).length) Slot.unset).toArray = ls at hl ⊢
  simp only [lv_args_r, lv_args_i, lv_args_l, lv_args_0] at hl
  have hl : lv_has ls 7 [(0, cv (lwO b) (some 1)), (1, .int x1), (2, .int x2), (3, .int x3), (4, .int x4), (5, .int x5)] := hl
  have hS : va_S (cReg (lwO b)) s.heap s.heap [] := va_S.rf
  show W p l e (rA 9 2 12 160) s m [cv (lwO b) (some 1), .int x1, .int x2, .int x3, .int x4, .int x5].toArray below meth c s.heap [] 0 0 (MQ below (lwQ D b (σ', V.2.1 + 1, V.2.2) (some (.int v))) [cv (lwO b) (some 1), .int x1, .int x2, .int x3, .int x4, .int x5].toArray s 2 12 (cReg (lwO b))) (F0 m 0 ls [])
  refine c_aload_n hx hb dL_declares_0 rfl (lv_at hl 0 rfl) ?_
  refine lv_iload_n hx hb dL_declares_1 rfl (lv_at hl 1 rfl) ?_
  refine lv_iload_n hx hb dL_declares_2 rfl (lv_at hl 2 rfl) ?_
  refine lv_iload_n hx hb dL_declares_3 rfl (lv_at hl 3 rfl) ?_
  refine lv_iload hx hb dL_declares_4 (lv_at hl 4 rfl) ?_
  refine lv_iload hx hb dL_declares_6 (lv_at hl 5 rfl) ?_
  refine l_callw (V := V) (V' := (σ', V.2.1 + 1, V.2.2)) (rest := []) (c_tVz (e := e) (below := below) (locs := []) (rest := []) (Φ := lwF b V.2.2) X.1 (K_X11_declare l hl9 D (lwF b V.2.2) S 1 (x1) (x2) (x3) (x4) (x5) hq) (RJ.rcs ⟨T, Gq, Lq, A, ex, K, v9, nw, w⟩) ⟨by decide, by decide⟩ ⟨w_1303, ww_X11_declare⟩ rfl hy_X11_declare rfl ⟨(Nat.le_of_ble_eq_true rfl), (Nat.le_of_ble_eq_true rfl)⟩ hP (lwZ X hS) hl.1 (Nat.le_of_ble_eq_true rfl) dL_declares_8 rfl ⟨(Nat.le_of_ble_eq_true rfl), (Nat.le_of_ble_eq_true rfl)⟩) hP hAr hS (fun n hn => (hJ n hn).rj) rfl (fun k q9 ce H locs hk hI hS hce hcv hcl => ?_) (fun u H locs hk hI hS => ?_)
  · rw [hk] at hag
    have hc : lcdL [2, 0] k 1 = some (σ'.2 81) := hag
    rcases lcd2 hc with ⟨hk9, hc9⟩ | ⟨hk9, hc9⟩
    · subst hk9
      have hv : v = (-2) := by rw [← hve, hc9]; rfl
      subst hv
      refine vx_catch (E := excN 2) (name := excN 2) hown (tableOf []) ⟨0, 11, 12, 19⟩ (tableOf [(0, 11, 17, 37)]) htab (l_pass (k := 2) X.1 hN (by decide) (f := []) rfl (fun z hz => by cases hz)) (by decide) (by decide) (hts _ w_729) (va_Nw.use (cNest_on _ cn_10) (hK.2.2.1 _ cn_10)) hce hcv hcl ?_
      refine lv_astore hx hb dL_declares_12 hl (Nat.le_of_ble_eq_true rfl) rfl (fun ls hl => ?_)
      refine lv_bipush (v := (-2)) hx hb dL_declares_14 (by decide) ?_
      exact l_ri X hI hS (Nat.le_refl _) (Nat.le_refl _) dL_declares_16
    · subst hk9
      have hv : v = (-3) := by rw [← hve, hc9]; rfl
      subst hv
      refine vx_catch (E := excN 0) (name := excN 0) hown (tableOf [(0, 11, 12, 19)]) ⟨0, 11, 17, 37⟩ (tableOf []) htab (l_pass (k := 0) X.1 hN (by decide) (f := [(19, 2)]) rfl (fun z hz => by
      rw [List.mem_singleton.mp hz]
      exact ⟨by decide, by decide, by decide, w_729⟩)) (by decide) (by decide) (hts _ w_852) (va_Nw.use (cNest_on _ cn_8) (hK.2.2.1 _ cn_8)) hce hcv hcl ?_
      refine lv_astore hx hb dL_declares_17 hl (Nat.le_of_ble_eq_true rfl) rfl (fun ls hl => ?_)
      refine lv_bipush (v := (-3)) hx hb dL_declares_19 (by decide) ?_
      exact l_ri X hI hS (Nat.le_refl _) (Nat.le_refl _) dL_declares_21
  · rw [hk] at hag
    have h0 : σ'.2 81 = 0 := (lcd_r rfl hag).symm
    have hu := lvN_inj (hvl u hk)
    have hv : v = u := by rw [← hve, h0, hu]; rfl
    subst hv
    refine W.eq (g2 := F0 m 11 ls [.int v]) rfl ?_
    exact l_ri X hI hS (Nat.le_refl _) (Nat.le_refl _) dL_declares_11
theorem ww_L_declares : Cond.static yL_declares ∈ BG ∧ Cond.initialized (yL_declares).cls ∈ BG ∧ Cond.codeWith yL_declares cL_declares 7 (some .int) [(0, 11, 12, 19), (0, 11, 17, 37)] ∈ BG := ⟨w_1301, w_55, w_1302⟩
theorem hy_L_declares : (yL_declares).cls ≠ "java/lang/invoke/MethodHandle" ∧ (yL_declares).cls ≠ "java/lang/invoke/VarHandle" ∧ (parseMethodDescriptor (yL_declares).desc).map (fun d => d.parameters.length) = some 6 := ⟨by decide, by decide, by decide +kernel⟩
def f_L_varies (x1 : Int32) (x2 : Int32) (x3 : Int32) (x4 : Int32) (x5 : Int32) (V : lwS) : Option (Int32 × lwS) := oM (fun r => if r.1 = 0 then r.2 else if r.1 = 1 then (-2) else (-3)) (oR (f_declareVar x1 x2 x3 x4 x5 0) V)
set_option maxRecDepth 20000 in
set_option maxHeartbeats 4000000 in
theorem K_L_varies (l : Launch) (hl9 : l.stackTraces = false) (D : cD) (b : Nat × Nat) (V : lwS) (x1 : Int32) (x2 : Int32) (x3 : Int32) (x4 : Int32) (x5 : Int32) {v : Int32} {V' : lwS} (h : f_L_varies x1 x2 x3 x4 x5 V = some (v, V')) : Met l yL_varies (Cond.codeWith yL_varies cL_varies 7 (some .int) [(0, 12, 13, 19), (0, 12, 18, 37)] :: BG) (rA 9 2 12 161) (lwPc D b V [cv (lwO b) (some 1), .int x1, .int x2, .int x3, .int x4, .int x5]) (lwQ D b V' (some (.int v))) 2 12 (cReg (lwO b)) := by
  refine va_MetW (cc := cL_varies) (maxL := 7) (ret := some .int) (hh := [(0, 12, 13, 19), (0, 12, 18, 37)]) (by decide) rfl ?_
  intro p e s m args below meth c s₁ B hml hv9
  obtain ⟨rfl, hI, hK, hZ, hN⟩ := hv9
  have X := lwX_ofW B hml hK hZ hN rfl
  have htab : c.exceptionTable.toList = tableOf [(0, 12, 13, 19), (0, 12, 18, 37)] := vx_table (x := yL_varies) B (atoms_spec (ws := Cond.codeWith yL_varies cL_varies 7 (some .int) [(0, 12, 13, 19), (0, 12, 18, 37)] :: BG) B.pre _ List.mem_cons_self)
  obtain ⟨r9, hr9, h⟩ := ob h
  obtain ⟨hk6, a9, σ', hg, rfl⟩ := oR_spec hr9
  obtain ⟨⟨S, ⟨T, Gq, Lq, A, ex, K, v9, nw, w⟩, hP⟩, hAr⟩ := hI
  have sq := sq_declareVar w (x1) (x2) (x3) (x4) (x5) (0) (Or.inl rfl)
  obtain ⟨q, r, hq, hr, ⟨hag, hvl⟩, hJ⟩ := sq
  have : r = (a9, σ') := Option.some.inj (hr.symm.trans hg)
  subst this
  obtain ⟨hve, hVe⟩ := Prod.mk.inj (Option.some.inj h)
  subst hVe
  have hx := X.1.1
  have hb := X.1.2.1
  have hown := X.1.2.2.2.1
  have hts := X.1.2.2.2.2.1
  have hl := lv_entry [cv (lwO b) (some 1), .int x1, .int x2, .int x3, .int x4, .int x5] (n := 7) (by simp only [lgs_r, lgs_i, lgs_l, lgs_0, List.length]; exact Nat.le_of_ble_eq_true rfl)
  rw [lg_entry_eq]
  generalize (lg_sl [cv (lwO b) (some 1), .int x1, .int x2, .int x3, .int x4, .int x5] ++ List.replicate (7 - (lg_sl [cv (lwO b) (some 1), .int x1, .int x2, .int x3, .int x4, .int x5]).length) Slot.unset).toArray = ls at hl ⊢
  simp only [lv_args_r, lv_args_i, lv_args_l, lv_args_0] at hl
  have hl : lv_has ls 7 [(0, cv (lwO b) (some 1)), (1, .int x1), (2, .int x2), (3, .int x3), (4, .int x4), (5, .int x5)] := hl
  have hS : va_S (cReg (lwO b)) s.heap s.heap [] := va_S.rf
  show W p l e (rA 9 2 12 161) s m [cv (lwO b) (some 1), .int x1, .int x2, .int x3, .int x4, .int x5].toArray below meth c s.heap [] 0 0 (MQ below (lwQ D b (σ', V.2.1 + 1, V.2.2) (some (.int v))) [cv (lwO b) (some 1), .int x1, .int x2, .int x3, .int x4, .int x5].toArray s 2 12 (cReg (lwO b))) (F0 m 0 ls [])
  refine c_aload_n hx hb dL_varies_0 rfl (lv_at hl 0 rfl) ?_
  refine lv_iload_n hx hb dL_varies_1 rfl (lv_at hl 1 rfl) ?_
  refine lv_iload_n hx hb dL_varies_2 rfl (lv_at hl 2 rfl) ?_
  refine lv_iload_n hx hb dL_varies_3 rfl (lv_at hl 3 rfl) ?_
  refine lv_iload hx hb dL_varies_4 (lv_at hl 4 rfl) ?_
  refine lv_iload hx hb dL_varies_6 (lv_at hl 5 rfl) ?_
  refine lv_iconst (v := 0) hx hb dL_varies_8 (by decide) ?_
  refine l_callw (V := V) (V' := (σ', V.2.1 + 1, V.2.2)) (rest := []) (c_tVz (e := e) (below := below) (locs := []) (rest := []) (Φ := lwF b V.2.2) X.1 (K_X11_declareVar l hl9 D (lwF b V.2.2) S 1 (x1) (x2) (x3) (x4) (x5) (0) hq) (RJ.rcs ⟨T, Gq, Lq, A, ex, K, v9, nw, w⟩) ⟨by decide, by decide⟩ ⟨w_1346, ww_X11_declareVar⟩ rfl hy_X11_declareVar rfl ⟨(Nat.le_of_ble_eq_true rfl), (Nat.le_of_ble_eq_true rfl)⟩ hP (lwZ X hS) hl.1 (Nat.le_of_ble_eq_true rfl) dL_varies_9 rfl ⟨(Nat.le_of_ble_eq_true rfl), (Nat.le_of_ble_eq_true rfl)⟩) hP hAr hS (fun n hn => (hJ n hn).rj) rfl (fun k q9 ce H locs hk hI hS hce hcv hcl => ?_) (fun u H locs hk hI hS => ?_)
  · rw [hk] at hag
    have hc : lcdL [2, 0] k 1 = some (σ'.2 81) := hag
    rcases lcd2 hc with ⟨hk9, hc9⟩ | ⟨hk9, hc9⟩
    · subst hk9
      have hv : v = (-2) := by rw [← hve, hc9]; rfl
      subst hv
      refine vx_catch (E := excN 2) (name := excN 2) hown (tableOf []) ⟨0, 12, 13, 19⟩ (tableOf [(0, 12, 18, 37)]) htab (l_pass (k := 2) X.1 hN (by decide) (f := []) rfl (fun z hz => by cases hz)) (by decide) (by decide) (hts _ w_729) (va_Nw.use (cNest_on _ cn_10) (hK.2.2.1 _ cn_10)) hce hcv hcl ?_
      refine lv_astore hx hb dL_varies_13 hl (Nat.le_of_ble_eq_true rfl) rfl (fun ls hl => ?_)
      refine lv_bipush (v := (-2)) hx hb dL_varies_15 (by decide) ?_
      exact l_ri X hI hS (Nat.le_refl _) (Nat.le_refl _) dL_varies_17
    · subst hk9
      have hv : v = (-3) := by rw [← hve, hc9]; rfl
      subst hv
      refine vx_catch (E := excN 0) (name := excN 0) hown (tableOf [(0, 12, 13, 19)]) ⟨0, 12, 18, 37⟩ (tableOf []) htab (l_pass (k := 0) X.1 hN (by decide) (f := [(19, 2)]) rfl (fun z hz => by
      rw [List.mem_singleton.mp hz]
      exact ⟨by decide, by decide, by decide, w_729⟩)) (by decide) (by decide) (hts _ w_852) (va_Nw.use (cNest_on _ cn_8) (hK.2.2.1 _ cn_8)) hce hcv hcl ?_
      refine lv_astore hx hb dL_varies_18 hl (Nat.le_of_ble_eq_true rfl) rfl (fun ls hl => ?_)
      refine lv_bipush (v := (-3)) hx hb dL_varies_20 (by decide) ?_
      exact l_ri X hI hS (Nat.le_refl _) (Nat.le_refl _) dL_varies_22
  · rw [hk] at hag
    have h0 : σ'.2 81 = 0 := (lcd_r rfl hag).symm
    have hu := lvN_inj (hvl u hk)
    have hv : v = u := by rw [← hve, h0, hu]; rfl
    subst hv
    refine W.eq (g2 := F0 m 12 ls [.int v]) rfl ?_
    exact l_ri X hI hS (Nat.le_refl _) (Nat.le_refl _) dL_varies_12
theorem ww_L_varies : Cond.static yL_varies ∈ BG ∧ Cond.initialized (yL_varies).cls ∈ BG ∧ Cond.codeWith yL_varies cL_varies 7 (some .int) [(0, 12, 13, 19), (0, 12, 18, 37)] ∈ BG := ⟨w_1344, w_55, w_1345⟩
theorem hy_L_varies : (yL_varies).cls ≠ "java/lang/invoke/MethodHandle" ∧ (yL_varies).cls ≠ "java/lang/invoke/VarHandle" ∧ (parseMethodDescriptor (yL_varies).desc).map (fun d => d.parameters.length) = some 6 := ⟨by decide, by decide, by decide +kernel⟩
def f_L_whens (x1 : Int32) (x2 : Int32) (x3 : Int32) (V : lwS) : Option (Int32 × lwS) := oM (fun r => if r.1 = 0 then 0 else if r.1 = 1 then (-2) else (-3)) (oU (f_when x1 x2 x3) V)
set_option maxRecDepth 20000 in
set_option maxHeartbeats 4000000 in
theorem K_L_whens (l : Launch) (hl9 : l.stackTraces = false) (D : cD) (b : Nat × Nat) (V : lwS) (x1 : Int32) (x2 : Int32) (x3 : Int32) {v : Int32} {V' : lwS} (h : f_L_whens x1 x2 x3 V = some (v, V')) : Met l yL_whens (Cond.codeWith yL_whens cL_whens 5 (some .int) [(0, 8, 9, 19), (0, 8, 14, 37)] :: BG) (rA 8 2 12 136) (lwPc D b V [cv (lwO b) (some 1), .int x1, .int x2, .int x3]) (lwQ D b V' (some (.int v))) 2 12 (cReg (lwO b)) := by
  refine va_MetW (cc := cL_whens) (maxL := 5) (ret := some .int) (hh := [(0, 8, 9, 19), (0, 8, 14, 37)]) (by decide) rfl ?_
  intro p e s m args below meth c s₁ B hml hv9
  obtain ⟨rfl, hI, hK, hZ, hN⟩ := hv9
  have X := lwX_ofW B hml hK hZ hN rfl
  have htab : c.exceptionTable.toList = tableOf [(0, 8, 9, 19), (0, 8, 14, 37)] := vx_table (x := yL_whens) B (atoms_spec (ws := Cond.codeWith yL_whens cL_whens 5 (some .int) [(0, 8, 9, 19), (0, 8, 14, 37)] :: BG) B.pre _ List.mem_cons_self)
  obtain ⟨r9, hr9, h⟩ := ob h
  obtain ⟨hk6, σ', hg, rfl⟩ := oU_spec hr9
  obtain ⟨⟨S, ⟨T, Gq, Lq, A, ex, K, v9, nw, w⟩, hP⟩, hAr⟩ := hI
  have sq := sq_when w (x1) (x2) (x3)
  obtain ⟨q, r, hq, hr, hag, hJ⟩ := sq
  have : r = σ' := Option.some.inj (hr.symm.trans hg)
  subst this
  obtain ⟨hve, hVe⟩ := Prod.mk.inj (Option.some.inj h)
  subst hVe
  have hx := X.1.1
  have hb := X.1.2.1
  have hown := X.1.2.2.2.1
  have hts := X.1.2.2.2.2.1
  have hl := lv_entry [cv (lwO b) (some 1), .int x1, .int x2, .int x3] (n := 5) (by simp only [lgs_r, lgs_i, lgs_l, lgs_0, List.length]; exact Nat.le_of_ble_eq_true rfl)
  rw [lg_entry_eq]
  generalize (lg_sl [cv (lwO b) (some 1), .int x1, .int x2, .int x3] ++ List.replicate (5 - (lg_sl [cv (lwO b) (some 1), .int x1, .int x2, .int x3]).length) Slot.unset).toArray = ls at hl ⊢
  simp only [lv_args_r, lv_args_i, lv_args_l, lv_args_0] at hl
  have hl : lv_has ls 5 [(0, cv (lwO b) (some 1)), (1, .int x1), (2, .int x2), (3, .int x3)] := hl
  have hS : va_S (cReg (lwO b)) s.heap s.heap [] := va_S.rf
  show W p l e (rA 8 2 12 136) s m [cv (lwO b) (some 1), .int x1, .int x2, .int x3].toArray below meth c s.heap [] 0 0 (MQ below (lwQ D b (r, V.2.1 + 1, V.2.2) (some (.int v))) [cv (lwO b) (some 1), .int x1, .int x2, .int x3].toArray s 2 12 (cReg (lwO b))) (F0 m 0 ls [])
  refine c_aload_n hx hb dL_whens_0 rfl (lv_at hl 0 rfl) ?_
  refine lv_iload_n hx hb dL_whens_1 rfl (lv_at hl 1 rfl) ?_
  refine lv_iload_n hx hb dL_whens_2 rfl (lv_at hl 2 rfl) ?_
  refine lv_iload_n hx hb dL_whens_3 rfl (lv_at hl 3 rfl) ?_
  refine l_callw (V := V) (V' := (r, V.2.1 + 1, V.2.2)) (rest := []) (c_tVz (e := e) (below := below) (locs := []) (rest := []) (Φ := lwF b V.2.2) X.1 (K_X11_when l hl9 D (lwF b V.2.2) S 1 (x1) (x2) (x3) hq) (RJ.rcs ⟨T, Gq, Lq, A, ex, K, v9, nw, w⟩) ⟨by decide, by decide⟩ ⟨w_1357, ww_X11_when⟩ rfl hy_X11_when rfl ⟨(Nat.le_of_ble_eq_true rfl), (Nat.le_of_ble_eq_true rfl)⟩ hP (lwZ X hS) hl.1 (Nat.le_of_ble_eq_true rfl) dL_whens_4 rfl ⟨(Nat.le_of_ble_eq_true rfl), (Nat.le_of_ble_eq_true rfl)⟩) hP hAr hS (fun n hn => (hJ n hn).rj) rfl (fun k q9 ce H locs hk hI hS hce hcv hcl => ?_) (fun u H locs hk hI hS => ?_)
  · rw [hk] at hag
    have hc : lcdL [2, 0] k 1 = some (r.2 81) := hag
    rcases lcd2 hc with ⟨hk9, hc9⟩ | ⟨hk9, hc9⟩
    · subst hk9
      have hv : v = (-2) := by rw [← hve, hc9]; rfl
      subst hv
      refine vx_catch (E := excN 2) (name := excN 2) hown (tableOf []) ⟨0, 8, 9, 19⟩ (tableOf [(0, 8, 14, 37)]) htab (l_pass (k := 2) X.1 hN (by decide) (f := []) rfl (fun z hz => by cases hz)) (by decide) (by decide) (hts _ w_729) (va_Nw.use (cNest_on _ cn_10) (hK.2.2.1 _ cn_10)) hce hcv hcl ?_
      refine lv_astore hx hb dL_whens_9 hl (Nat.le_of_ble_eq_true rfl) rfl (fun ls hl => ?_)
      refine lv_bipush (v := (-2)) hx hb dL_whens_11 (by decide) ?_
      exact l_ri X hI hS (Nat.le_refl _) (Nat.le_refl _) dL_whens_13
    · subst hk9
      have hv : v = (-3) := by rw [← hve, hc9]; rfl
      subst hv
      refine vx_catch (E := excN 0) (name := excN 0) hown (tableOf [(0, 8, 9, 19)]) ⟨0, 8, 14, 37⟩ (tableOf []) htab (l_pass (k := 0) X.1 hN (by decide) (f := [(19, 2)]) rfl (fun z hz => by
      rw [List.mem_singleton.mp hz]
      exact ⟨by decide, by decide, by decide, w_729⟩)) (by decide) (by decide) (hts _ w_852) (va_Nw.use (cNest_on _ cn_8) (hK.2.2.1 _ cn_8)) hce hcv hcl ?_
      refine lv_astore hx hb dL_whens_14 hl (Nat.le_of_ble_eq_true rfl) rfl (fun ls hl => ?_)
      refine lv_bipush (v := (-3)) hx hb dL_whens_16 (by decide) ?_
      exact l_ri X hI hS (Nat.le_refl _) (Nat.le_refl _) dL_whens_18
  · rw [hk] at hag
    have h0 : r.2 81 = 0 := (lcd_r rfl hag).symm
    have hv : v = 0 := by rw [← hve, h0]; rfl
    subst hv
    refine W.eq (g2 := F0 m 7 ls []) rfl ?_
    refine lv_iconst (v := 0) hx hb dL_whens_7 (by decide) ?_
    exact l_ri X hI hS (Nat.le_refl _) (Nat.le_refl _) dL_whens_8
theorem ww_L_whens : Cond.static yL_whens ∈ BG ∧ Cond.initialized (yL_whens).cls ∈ BG ∧ Cond.codeWith yL_whens cL_whens 5 (some .int) [(0, 8, 9, 19), (0, 8, 14, 37)] ∈ BG := ⟨w_1355, w_55, w_1356⟩
theorem hy_L_whens : (yL_whens).cls ≠ "java/lang/invoke/MethodHandle" ∧ (yL_whens).cls ≠ "java/lang/invoke/VarHandle" ∧ (parseMethodDescriptor (yL_whens).desc).map (fun d => d.parameters.length) = some 4 := ⟨by decide, by decide, by decide +kernel⟩
def f_L_value (x1 : Int32) (x2 : Int32) (V : lwS) : Option (Int32 × lwS) := oM (fun r => if r.1 = 0 then r.2 else if r.1 = 1 then (-2000002) else if r.1 = 2 then (-2000003) else (-2000004)) (oR (f_value x1 x2) V)
set_option maxRecDepth 20000 in
set_option maxHeartbeats 4000000 in
theorem K_L_value (l : Launch) (hl9 : l.stackTraces = false) (D : cD) (b : Nat × Nat) (V : lwS) (x1 : Int32) (x2 : Int32) {v : Int32} {V' : lwS} (h : f_L_value x1 x2 V = some (v, V')) : Met l yL_value (Cond.codeWith yL_value cL_value 4 (some .int) [(0, 6, 7, 19), (0, 6, 11, 37), (0, 6, 15, 21)] :: BG) (rA 8 3 18 201) (lwPc D b V [cv (lwO b) (some 1), .int x1, .int x2]) (lwQ D b V' (some (.int v))) 3 18 (cReg (lwO b)) := by
  refine va_MetW (cc := cL_value) (maxL := 4) (ret := some .int) (hh := [(0, 6, 7, 19), (0, 6, 11, 37), (0, 6, 15, 21)]) (by decide) rfl ?_
  intro p e s m args below meth c s₁ B hml hv9
  obtain ⟨rfl, hI, hK, hZ, hN⟩ := hv9
  have X := lwX_ofW B hml hK hZ hN rfl
  have htab : c.exceptionTable.toList = tableOf [(0, 6, 7, 19), (0, 6, 11, 37), (0, 6, 15, 21)] := vx_table (x := yL_value) B (atoms_spec (ws := Cond.codeWith yL_value cL_value 4 (some .int) [(0, 6, 7, 19), (0, 6, 11, 37), (0, 6, 15, 21)] :: BG) B.pre _ List.mem_cons_self)
  obtain ⟨r9, hr9, h⟩ := ob h
  obtain ⟨hk6, a9, σ', hg, rfl⟩ := oR_spec hr9
  obtain ⟨⟨S, ⟨T, Gq, Lq, A, ex, K, v9, nw, w⟩, hP⟩, hAr⟩ := hI
  have sq := sq_value hk6 w (x1) (x2)
  obtain ⟨q, r, hq, hr, ⟨hag, hvl⟩, hJ⟩ := sq
  have : r = (a9, σ') := Option.some.inj (hr.symm.trans hg)
  subst this
  obtain ⟨hve, hVe⟩ := Prod.mk.inj (Option.some.inj h)
  subst hVe
  have hx := X.1.1
  have hb := X.1.2.1
  have hown := X.1.2.2.2.1
  have hts := X.1.2.2.2.2.1
  have hl := lv_entry [cv (lwO b) (some 1), .int x1, .int x2] (n := 4) (by simp only [lgs_r, lgs_i, lgs_l, lgs_0, List.length]; exact Nat.le_of_ble_eq_true rfl)
  rw [lg_entry_eq]
  generalize (lg_sl [cv (lwO b) (some 1), .int x1, .int x2] ++ List.replicate (4 - (lg_sl [cv (lwO b) (some 1), .int x1, .int x2]).length) Slot.unset).toArray = ls at hl ⊢
  simp only [lv_args_r, lv_args_i, lv_args_l, lv_args_0] at hl
  have hl : lv_has ls 4 [(0, cv (lwO b) (some 1)), (1, .int x1), (2, .int x2)] := hl
  have hS : va_S (cReg (lwO b)) s.heap s.heap [] := va_S.rf
  show W p l e (rA 8 3 18 201) s m [cv (lwO b) (some 1), .int x1, .int x2].toArray below meth c s.heap [] 0 0 (MQ below (lwQ D b (σ', V.2.1 + 1, V.2.2) (some (.int v))) [cv (lwO b) (some 1), .int x1, .int x2].toArray s 3 18 (cReg (lwO b))) (F0 m 0 ls [])
  refine c_aload_n hx hb dL_value_0 rfl (lv_at hl 0 rfl) ?_
  refine lv_iload_n hx hb dL_value_1 rfl (lv_at hl 1 rfl) ?_
  refine lv_iload_n hx hb dL_value_2 rfl (lv_at hl 2 rfl) ?_
  refine l_callw (V := V) (V' := (σ', V.2.1 + 1, V.2.2)) (rest := []) (c_tVz (e := e) (below := below) (locs := []) (rest := []) (Φ := lwF b V.2.2) X.1 (K_X11_value l hl9 D (lwF b V.2.2) S 1 (x1) (x2) hq) (RJ.rcs ⟨T, Gq, Lq, A, ex, K, v9, nw, w⟩) ⟨by decide, by decide⟩ ⟨w_893, ww_X11_value⟩ rfl hy_X11_value rfl ⟨(Nat.le_of_ble_eq_true rfl), (Nat.le_of_ble_eq_true rfl)⟩ hP (lwZ X hS) hl.1 (Nat.le_of_ble_eq_true rfl) dL_value_3 rfl ⟨(Nat.le_of_ble_eq_true rfl), (Nat.le_of_ble_eq_true rfl)⟩) hP hAr hS (fun n hn => (hJ n hn).rj) rfl (fun k q9 ce H locs hk hI hS hce hcv hcl => ?_) (fun u H locs hk hI hS => ?_)
  · rw [hk] at hag
    have hc : lcdL [2, 0, 1] k 1 = some (σ'.2 81) := hag
    rcases lcd3 hc with ⟨hk9, hc9⟩ | ⟨hk9, hc9⟩ | ⟨hk9, hc9⟩
    · subst hk9
      have hv : v = (-2000002) := by rw [← hve, hc9]; rfl
      subst hv
      refine vx_catch (E := excN 2) (name := excN 2) hown (tableOf []) ⟨0, 6, 7, 19⟩ (tableOf [(0, 6, 11, 37), (0, 6, 15, 21)]) htab (l_pass (k := 2) X.1 hN (by decide) (f := []) rfl (fun z hz => by cases hz)) (by decide) (by decide) (hts _ w_729) (va_Nw.use (cNest_on _ cn_10) (hK.2.2.1 _ cn_10)) hce hcv hcl ?_
      refine lv_astore_n hx hb dL_value_7 rfl hl (Nat.le_of_ble_eq_true rfl) rfl (fun ls hl => ?_)
      refine lv_ldc hx hb hown (hts _ w_1106) dL_value_8 ?_
      exact l_ri X hI hS (Nat.le_refl _) (Nat.le_refl _) dL_value_10
    · subst hk9
      have hv : v = (-2000003) := by rw [← hve, hc9]; rfl
      subst hv
      refine vx_catch (E := excN 0) (name := excN 0) hown (tableOf [(0, 6, 7, 19)]) ⟨0, 6, 11, 37⟩ (tableOf [(0, 6, 15, 21)]) htab (l_pass (k := 0) X.1 hN (by decide) (f := [(19, 2)]) rfl (fun z hz => by
      rw [List.mem_singleton.mp hz]
      exact ⟨by decide, by decide, by decide, w_729⟩)) (by decide) (by decide) (hts _ w_852) (va_Nw.use (cNest_on _ cn_8) (hK.2.2.1 _ cn_8)) hce hcv hcl ?_
      refine lv_astore_n hx hb dL_value_11 rfl hl (Nat.le_of_ble_eq_true rfl) rfl (fun ls hl => ?_)
      refine lv_ldc hx hb hown (hts _ w_1107) dL_value_12 ?_
      exact l_ri X hI hS (Nat.le_refl _) (Nat.le_refl _) dL_value_14
    · subst hk9
      have hv : v = (-2000004) := by rw [← hve, hc9]; rfl
      subst hv
      refine vx_catch (E := excN 1) (name := excN 1) hown (tableOf [(0, 6, 7, 19), (0, 6, 11, 37)]) ⟨0, 6, 15, 21⟩ (tableOf []) htab (l_pass (k := 1) X.1 hN (by decide) (f := [(19, 2), (37, 0)]) rfl (fun z hz => by
      rcases List.mem_cons.mp hz with rfl | hz
      · exact ⟨by decide, by decide, by decide, w_729⟩
      · rw [List.mem_singleton.mp hz]
        exact ⟨by decide, by decide, by decide, w_852⟩)) (by decide) (by decide) (hts _ w_730) (va_Nw.use (cNest_on _ cn_9) (hK.2.2.1 _ cn_9)) hce hcv hcl ?_
      refine lv_astore_n hx hb dL_value_15 rfl hl (Nat.le_of_ble_eq_true rfl) rfl (fun ls hl => ?_)
      refine lv_ldc hx hb hown (hts _ w_1108) dL_value_16 ?_
      exact l_ri X hI hS (Nat.le_refl _) (Nat.le_refl _) dL_value_18
  · rw [hk] at hag
    have h0 : σ'.2 81 = 0 := (lcd_r rfl hag).symm
    have hu := lvN_inj (hvl u hk)
    have hv : v = u := by rw [← hve, h0, hu]; rfl
    subst hv
    refine W.eq (g2 := F0 m 6 ls [.int v]) rfl ?_
    exact l_ri X hI hS (Nat.le_refl _) (Nat.le_refl _) dL_value_6
theorem ww_L_value : Cond.static yL_value ∈ BG ∧ Cond.initialized (yL_value).cls ∈ BG ∧ Cond.codeWith yL_value cL_value 4 (some .int) [(0, 6, 7, 19), (0, 6, 11, 37), (0, 6, 15, 21)] ∈ BG := ⟨w_891, w_55, w_892⟩
theorem hy_L_value : (yL_value).cls ≠ "java/lang/invoke/MethodHandle" ∧ (yL_value).cls ≠ "java/lang/invoke/VarHandle" ∧ (parseMethodDescriptor (yL_value).desc).map (fun d => d.parameters.length) = some 3 := ⟨by decide, by decide, by decide +kernel⟩
