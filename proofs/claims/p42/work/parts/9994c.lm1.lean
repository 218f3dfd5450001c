set_option maxRecDepth 100000 in
theorem w_627 : Cond.constant "CascaderyLaw" 8 2147483647 ∈ BG := bg_in 627 (by decide +kernel) (by decide +kernel)
set_option maxRecDepth 100000 in
theorem w_626 : Cond.code yL_low cL_low 2 (some .int) ∈ BG := bg_in 626 (by rfl) (by decide +kernel)
set_option maxRecDepth 100000 in
theorem w_625 : Cond.static yL_low ∈ BG := bg_in 625 (by decide +kernel) (by decide +kernel)
set_option maxRecDepth 100000 in
theorem w_1342 : Cond.code yL_still cL_still 1 (some .int) ∈ BG := bg_in 1342 (by rfl) (by decide +kernel)
set_option maxRecDepth 100000 in
theorem w_1341 : Cond.static yL_still ∈ BG := bg_in 1341 (by decide +kernel) (by decide +kernel)
set_option maxRecDepth 100000 in
theorem w_631 : Cond.methodLink "CascaderyLaw" 9 yX11_make ∈ BG := bg_in 631 (by decide +kernel) (by decide +kernel)
set_option maxRecDepth 100000 in
theorem w_630 : Cond.code yL_make cL_make 3 (some .int) ∈ BG := bg_in 630 (by rfl) (by decide +kernel)
set_option maxRecDepth 100000 in
theorem w_629 : Cond.static yL_make ∈ BG := bg_in 629 (by decide +kernel) (by decide +kernel)
set_option maxRecDepth 100000 in
theorem w_1163 : Cond.code yL_same cL_same 3 (some .boolean) ∈ BG := bg_in 1163 (by rfl) (by decide +kernel)
set_option maxRecDepth 100000 in
theorem w_1162 : Cond.static yL_same ∈ BG := bg_in 1162 (by decide +kernel) (by decide +kernel)
set_option maxRecDepth 100000 in
theorem w_1145 : Cond.methodLink "CascaderyLaw" 82 yX11_marked ∈ BG := bg_in 1145 (by decide +kernel) (by decide +kernel)
set_option maxRecDepth 100000 in
theorem w_1149 : Cond.methodLink "CascaderyLaw" 86 yX11_flushes ∈ BG := bg_in 1149 (by decide +kernel) (by decide +kernel)
set_option maxRecDepth 100000 in
theorem w_1153 : Cond.methodLink "CascaderyLaw" 89 yX11_restyled ∈ BG := bg_in 1153 (by decide +kernel) (by decide +kernel)
set_option maxRecDepth 100000 in
theorem w_1157 : Cond.methodLink "CascaderyLaw" 92 yX11_shared ∈ BG := bg_in 1157 (by decide +kernel) (by decide +kernel)
set_option maxRecDepth 100000 in
theorem w_1128 : Cond.methodLink "CascaderyLaw" 76 yX11_allThat ∈ BG := bg_in 1128 (by decide +kernel) (by decide +kernel)
set_option maxRecDepth 100000 in
theorem w_1141 : Cond.methodLink "CascaderyLaw" 79 yX11_weight ∈ BG := bg_in 1141 (by decide +kernel) (by decide +kernel)
set_option maxRecDepth 100000 in
theorem w_1116 : Cond.methodLink "CascaderyLaw" 69 yX11_isIn ∈ BG := bg_in 1116 (by decide +kernel) (by decide +kernel)
set_option maxRecDepth 100000 in
theorem w_1120 : Cond.methodLink "CascaderyLaw" 73 yX11_valueAnew ∈ BG := bg_in 1120 (by decide +kernel) (by decide +kernel)
set_option maxRecDepth 100000 in
theorem w_1112 : Cond.methodLink "CascaderyLaw" 66 yX11_shownParent ∈ BG := bg_in 1112 (by decide +kernel) (by decide +kernel)
set_option maxRecDepth 100000 in
theorem w_1111 : Cond.code yL_tell cL_tell 4 (some (.array .int)) ∈ BG := bg_in 1111 (by rfl) (by decide +kernel)
set_option maxRecDepth 100000 in
theorem w_1110 : Cond.static yL_tell ∈ BG := bg_in 1110 (by decide +kernel) (by decide +kernel)
set_option maxRecDepth 100000 in
theorem w_1229 : Cond.methodLink "CascaderyLaw" 120 yX11_select ∈ BG := bg_in 1229 (by decide +kernel) (by decide +kernel)
set_option maxRecDepth 100000 in
theorem w_624 : Cond.methodLink "CascaderyLaw" 109 yL_low ∈ BG := bg_in 624 (by decide +kernel) (by decide +kernel)
set_option maxRecDepth 100000 in
theorem w_849 : Cond.methodLink "CascaderyLaw" 112 yL_tests ∈ BG := bg_in 849 (by decide +kernel) (by decide +kernel)
set_option maxRecDepth 100000 in
theorem w_879 : Cond.methodLink "CascaderyLaw" 116 yL_joins ∈ BG := bg_in 879 (by decide +kernel) (by decide +kernel)
set_option maxRecDepth 100000 in
theorem w_1228 : Cond.code yL_selects cL_selects 5 (some .int) ∈ BG := bg_in 1228 (by rfl) (by decide +kernel)
set_option maxRecDepth 100000 in
theorem w_1227 : Cond.static yL_selects ∈ BG := bg_in 1227 (by decide +kernel) (by decide +kernel)
theorem dL_low_0 : decode cL_low 0 = .ok (.iload_n 0, 1) := by decide +kernel
theorem dL_low_1 : decode cL_low 1 = .ok (.ldc 8, 2) := by decide +kernel
theorem dL_low_3 : decode cL_low 3 = .ok (.iand, 1) := by decide +kernel
theorem dL_low_4 : decode cL_low 4 = .ok (.iload_n 1, 1) := by decide +kernel
theorem dL_low_5 : decode cL_low 5 = .ok (.irem, 1) := by decide +kernel
theorem dL_low_6 : decode cL_low 6 = .ok (.ireturn, 1) := by decide +kernel
theorem dL_still_0 : decode cL_still 0 = .ok (.iload_n 0, 1) := by decide +kernel
theorem dL_still_1 : decode cL_still 1 = .ok (.bipush 10, 2) := by decide +kernel
theorem dL_still_3 : decode cL_still 3 = .ok (.if_icmp .eq 9, 3) := by decide +kernel
theorem dL_still_6 : decode cL_still 6 = .ok (.iload_n 0, 1) := by decide +kernel
theorem dL_still_7 : decode cL_still 7 = .ok (.bipush 11, 2) := by decide +kernel
theorem dL_still_9 : decode cL_still 9 = .ok (.if_icmp .ne 7, 3) := by decide +kernel
theorem dL_still_12 : decode cL_still 12 = .ok (.iconst 2, 1) := by decide +kernel
theorem dL_still_13 : decode cL_still 13 = .ok (.goto 4, 3) := by decide +kernel
theorem dL_still_16 : decode cL_still 16 = .ok (.iload_n 0, 1) := by decide +kernel
theorem dL_still_17 : decode cL_still 17 = .ok (.ireturn, 1) := by decide +kernel
theorem dL_make_0 : decode cL_make 0 = .ok (.aload_n 1, 1) := by decide +kernel
theorem dL_make_1 : decode cL_make 1 = .ok (.iconst 0, 1) := by decide +kernel
theorem dL_make_2 : decode cL_make 2 = .ok (.iaload, 1) := by decide +kernel
theorem dL_make_3 : decode cL_make 3 = .ok (.bipush 12, 2) := by decide +kernel
theorem dL_make_5 : decode cL_make 5 = .ok (.if_icmp .ne 6, 3) := by decide +kernel
theorem dL_make_8 : decode cL_make 8 = .ok (.bipush (-9), 2) := by decide +kernel
theorem dL_make_10 : decode cL_make 10 = .ok (.ireturn, 1) := by decide +kernel
theorem dL_make_11 : decode cL_make 11 = .ok (.aload_n 1, 1) := by decide +kernel
theorem dL_make_12 : decode cL_make 12 = .ok (.iconst 0, 1) := by decide +kernel
theorem dL_make_13 : decode cL_make 13 = .ok (.dup2, 1) := by decide +kernel
theorem dL_make_14 : decode cL_make 14 = .ok (.iaload, 1) := by decide +kernel
theorem dL_make_15 : decode cL_make 15 = .ok (.iconst 1, 1) := by decide +kernel
theorem dL_make_16 : decode cL_make 16 = .ok (.iadd, 1) := by decide +kernel
theorem dL_make_17 : decode cL_make 17 = .ok (.iastore, 1) := by decide +kernel
theorem dL_make_18 : decode cL_make 18 = .ok (.aload_n 0, 1) := by decide +kernel
theorem dL_make_19 : decode cL_make 19 = .ok (.iload_n 2, 1) := by decide +kernel
theorem dL_make_20 : decode cL_make 20 = .ok (.invokevirtual 9, 3) := by decide +kernel
theorem dL_make_23 : decode cL_make 23 = .ok (.ireturn, 1) := by decide +kernel
theorem dL_same_0 : decode cL_same 0 = .ok (.iconst 0, 1) := by decide +kernel
theorem dL_same_1 : decode cL_same 1 = .ok (.istore_n 2, 1) := by decide +kernel
theorem dL_same_2 : decode cL_same 2 = .ok (.iload_n 2, 1) := by decide +kernel
theorem dL_same_3 : decode cL_same 3 = .ok (.bipush 64, 2) := by decide +kernel
theorem dL_same_5 : decode cL_same 5 = .ok (.if_icmp .ge 20, 3) := by decide +kernel
theorem dL_same_8 : decode cL_same 8 = .ok (.aload_n 0, 1) := by decide +kernel
theorem dL_same_9 : decode cL_same 9 = .ok (.iload_n 2, 1) := by decide +kernel
theorem dL_same_10 : decode cL_same 10 = .ok (.iaload, 1) := by decide +kernel
theorem dL_same_11 : decode cL_same 11 = .ok (.aload_n 1, 1) := by decide +kernel
theorem dL_same_12 : decode cL_same 12 = .ok (.iload_n 2, 1) := by decide +kernel
theorem dL_same_13 : decode cL_same 13 = .ok (.iaload, 1) := by decide +kernel
theorem dL_same_14 : decode cL_same 14 = .ok (.if_icmp .eq 5, 3) := by decide +kernel
theorem dL_same_17 : decode cL_same 17 = .ok (.iconst 0, 1) := by decide +kernel
theorem dL_same_18 : decode cL_same 18 = .ok (.ireturn, 1) := by decide +kernel
theorem dL_same_19 : decode cL_same 19 = .ok (.iinc 2 1, 3) := by decide +kernel
theorem dL_same_22 : decode cL_same 22 = .ok (.goto (-20), 3) := by decide +kernel
theorem dL_same_25 : decode cL_same 25 = .ok (.iconst 1, 1) := by decide +kernel
theorem dL_same_26 : decode cL_same 26 = .ok (.ireturn, 1) := by decide +kernel
theorem dL_tell_0 : decode cL_tell 0 = .ok (.bipush 64, 2) := by decide +kernel
theorem dL_tell_2 : decode cL_tell 2 = .ok (.newarray .int, 2) := by decide +kernel
theorem dL_tell_4 : decode cL_tell 4 = .ok (.astore_n 2, 1) := by decide +kernel
theorem dL_tell_5 : decode cL_tell 5 = .ok (.iconst 0, 1) := by decide +kernel
theorem dL_tell_6 : decode cL_tell 6 = .ok (.istore_n 3, 1) := by decide +kernel
theorem dL_tell_7 : decode cL_tell 7 = .ok (.iload_n 3, 1) := by decide +kernel
theorem dL_tell_8 : decode cL_tell 8 = .ok (.aload_n 1, 1) := by decide +kernel
theorem dL_tell_9 : decode cL_tell 9 = .ok (.iconst 0, 1) := by decide +kernel
theorem dL_tell_10 : decode cL_tell 10 = .ok (.iaload, 1) := by decide +kernel
theorem dL_tell_11 : decode cL_tell 11 = .ok (.if_icmp .ge 81, 3) := by decide +kernel
theorem dL_tell_14 : decode cL_tell 14 = .ok (.aload_n 2, 1) := by decide +kernel
theorem dL_tell_15 : decode cL_tell 15 = .ok (.iload_n 3, 1) := by decide +kernel
theorem dL_tell_16 : decode cL_tell 16 = .ok (.iconst 2, 1) := by decide +kernel
theorem dL_tell_17 : decode cL_tell 17 = .ok (.aload_n 0, 1) := by decide +kernel
theorem dL_tell_18 : decode cL_tell 18 = .ok (.iload_n 3, 1) := by decide +kernel
theorem dL_tell_19 : decode cL_tell 19 = .ok (.invokevirtual 66, 3) := by decide +kernel
theorem dL_tell_22 : decode cL_tell 22 = .ok (.imul, 1) := by decide +kernel
theorem dL_tell_23 : decode cL_tell 23 = .ok (.aload_n 0, 1) := by decide +kernel
theorem dL_tell_24 : decode cL_tell 24 = .ok (.iload_n 3, 1) := by decide +kernel
theorem dL_tell_25 : decode cL_tell 25 = .ok (.invokevirtual 69, 3) := by decide +kernel
theorem dL_tell_28 : decode cL_tell 28 = .ok (.ifCond .eq 7, 3) := by decide +kernel
theorem dL_tell_31 : decode cL_tell 31 = .ok (.iconst 1, 1) := by decide +kernel
theorem dL_tell_32 : decode cL_tell 32 = .ok (.goto 4, 3) := by decide +kernel
theorem dL_tell_35 : decode cL_tell 35 = .ok (.iconst 0, 1) := by decide +kernel
theorem dL_tell_36 : decode cL_tell 36 = .ok (.iadd, 1) := by decide +kernel
theorem dL_tell_37 : decode cL_tell 37 = .ok (.iastore, 1) := by decide +kernel
theorem dL_tell_38 : decode cL_tell 38 = .ok (.aload_n 2, 1) := by decide +kernel
theorem dL_tell_39 : decode cL_tell 39 = .ok (.bipush 12, 2) := by decide +kernel
theorem dL_tell_41 : decode cL_tell 41 = .ok (.iload_n 3, 1) := by decide +kernel
theorem dL_tell_42 : decode cL_tell 42 = .ok (.iadd, 1) := by decide +kernel
theorem dL_tell_43 : decode cL_tell 43 = .ok (.aload_n 0, 1) := by decide +kernel
theorem dL_tell_44 : decode cL_tell 44 = .ok (.iload_n 3, 1) := by decide +kernel
theorem dL_tell_45 : decode cL_tell 45 = .ok (.invokevirtual 69, 3) := by decide +kernel
theorem dL_tell_48 : decode cL_tell 48 = .ok (.ifCond .eq 12, 3) := by decide +kernel
theorem dL_tell_51 : decode cL_tell 51 = .ok (.aload_n 0, 1) := by decide +kernel
theorem dL_tell_52 : decode cL_tell 52 = .ok (.iload_n 3, 1) := by decide +kernel
theorem dL_tell_53 : decode cL_tell 53 = .ok (.iconst 1, 1) := by decide +kernel
theorem dL_tell_54 : decode cL_tell 54 = .ok (.invokevirtual 73, 3) := by decide +kernel
theorem dL_tell_57 : decode cL_tell 57 = .ok (.goto 4, 3) := by decide +kernel
theorem dL_tell_60 : decode cL_tell 60 = .ok (.iconst 0, 1) := by decide +kernel
theorem dL_tell_61 : decode cL_tell 61 = .ok (.iastore, 1) := by decide +kernel
theorem dL_tell_62 : decode cL_tell 62 = .ok (.aload_n 2, 1) := by decide +kernel
theorem dL_tell_63 : decode cL_tell 63 = .ok (.bipush 24, 2) := by decide +kernel
theorem dL_tell_65 : decode cL_tell 65 = .ok (.iload_n 3, 1) := by decide +kernel
theorem dL_tell_66 : decode cL_tell 66 = .ok (.iadd, 1) := by decide +kernel
theorem dL_tell_67 : decode cL_tell 67 = .ok (.aload_n 0, 1) := by decide +kernel
theorem dL_tell_68 : decode cL_tell 68 = .ok (.iload_n 3, 1) := by decide +kernel
theorem dL_tell_69 : decode cL_tell 69 = .ok (.invokevirtual 69, 3) := by decide +kernel
theorem dL_tell_72 : decode cL_tell 72 = .ok (.ifCond .eq 12, 3) := by decide +kernel
theorem dL_tell_75 : decode cL_tell 75 = .ok (.aload_n 0, 1) := by decide +kernel
theorem dL_tell_76 : decode cL_tell 76 = .ok (.iload_n 3, 1) := by decide +kernel
theorem dL_tell_77 : decode cL_tell 77 = .ok (.iconst 2, 1) := by decide +kernel
theorem dL_tell_78 : decode cL_tell 78 = .ok (.invokevirtual 73, 3) := by decide +kernel
theorem dL_tell_81 : decode cL_tell 81 = .ok (.goto 4, 3) := by decide +kernel
theorem dL_tell_84 : decode cL_tell 84 = .ok (.iconst 0, 1) := by decide +kernel
theorem dL_tell_85 : decode cL_tell 85 = .ok (.iastore, 1) := by decide +kernel
theorem dL_tell_86 : decode cL_tell 86 = .ok (.iinc 3 1, 3) := by decide +kernel
theorem dL_tell_89 : decode cL_tell 89 = .ok (.goto (-82), 3) := by decide +kernel
theorem dL_tell_92 : decode cL_tell 92 = .ok (.iconst 0, 1) := by decide +kernel
theorem dL_tell_93 : decode cL_tell 93 = .ok (.istore_n 3, 1) := by decide +kernel
theorem dL_tell_94 : decode cL_tell 94 = .ok (.iload_n 3, 1) := by decide +kernel
theorem dL_tell_95 : decode cL_tell 95 = .ok (.aload_n 1, 1) := by decide +kernel
theorem dL_tell_96 : decode cL_tell 96 = .ok (.iconst 1, 1) := by decide +kernel
theorem dL_tell_97 : decode cL_tell 97 = .ok (.iaload, 1) := by decide +kernel
theorem dL_tell_98 : decode cL_tell 98 = .ok (.if_icmp .ge 32, 3) := by decide +kernel
theorem dL_tell_101 : decode cL_tell 101 = .ok (.aload_n 2, 1) := by decide +kernel
theorem dL_tell_102 : decode cL_tell 102 = .ok (.bipush 36, 2) := by decide +kernel
theorem dL_tell_104 : decode cL_tell 104 = .ok (.iload_n 3, 1) := by decide +kernel
theorem dL_tell_105 : decode cL_tell 105 = .ok (.iadd, 1) := by decide +kernel
theorem dL_tell_106 : decode cL_tell 106 = .ok (.aload_n 0, 1) := by decide +kernel
theorem dL_tell_107 : decode cL_tell 107 = .ok (.iload_n 3, 1) := by decide +kernel
theorem dL_tell_108 : decode cL_tell 108 = .ok (.iconst (-1), 1) := by decide +kernel
theorem dL_tell_109 : decode cL_tell 109 = .ok (.invokevirtual 76, 3) := by decide +kernel
theorem dL_tell_112 : decode cL_tell 112 = .ok (.iastore, 1) := by decide +kernel
theorem dL_tell_113 : decode cL_tell 113 = .ok (.aload_n 2, 1) := by decide +kernel
theorem dL_tell_114 : decode cL_tell 114 = .ok (.bipush 44, 2) := by decide +kernel
theorem dL_tell_116 : decode cL_tell 116 = .ok (.iload_n 3, 1) := by decide +kernel
theorem dL_tell_117 : decode cL_tell 117 = .ok (.iadd, 1) := by decide +kernel
theorem dL_tell_118 : decode cL_tell 118 = .ok (.aload_n 0, 1) := by decide +kernel
theorem dL_tell_119 : decode cL_tell 119 = .ok (.iload_n 3, 1) := by decide +kernel
theorem dL_tell_120 : decode cL_tell 120 = .ok (.invokevirtual 79, 3) := by decide +kernel
theorem dL_tell_123 : decode cL_tell 123 = .ok (.iastore, 1) := by decide +kernel
theorem dL_tell_124 : decode cL_tell 124 = .ok (.iinc 3 1, 3) := by decide +kernel
theorem dL_tell_127 : decode cL_tell 127 = .ok (.goto (-33), 3) := by decide +kernel
theorem dL_tell_130 : decode cL_tell 130 = .ok (.aload_n 2, 1) := by decide +kernel
theorem dL_tell_131 : decode cL_tell 131 = .ok (.bipush 60, 2) := by decide +kernel
theorem dL_tell_133 : decode cL_tell 133 = .ok (.aload_n 0, 1) := by decide +kernel
theorem dL_tell_134 : decode cL_tell 134 = .ok (.invokevirtual 82, 3) := by decide +kernel
theorem dL_tell_137 : decode cL_tell 137 = .ok (.iastore, 1) := by decide +kernel
theorem dL_tell_138 : decode cL_tell 138 = .ok (.aload_n 2, 1) := by decide +kernel
theorem dL_tell_139 : decode cL_tell 139 = .ok (.bipush 61, 2) := by decide +kernel
theorem dL_tell_141 : decode cL_tell 141 = .ok (.aload_n 0, 1) := by decide +kernel
theorem dL_tell_142 : decode cL_tell 142 = .ok (.invokevirtual 86, 3) := by decide +kernel
theorem dL_tell_145 : decode cL_tell 145 = .ok (.iastore, 1) := by decide +kernel
theorem dL_tell_146 : decode cL_tell 146 = .ok (.aload_n 2, 1) := by decide +kernel
theorem dL_tell_147 : decode cL_tell 147 = .ok (.bipush 62, 2) := by decide +kernel
theorem dL_tell_149 : decode cL_tell 149 = .ok (.aload_n 0, 1) := by decide +kernel
theorem dL_tell_150 : decode cL_tell 150 = .ok (.invokevirtual 89, 3) := by decide +kernel
theorem dL_tell_153 : decode cL_tell 153 = .ok (.iastore, 1) := by decide +kernel
theorem dL_tell_154 : decode cL_tell 154 = .ok (.aload_n 2, 1) := by decide +kernel
theorem dL_tell_155 : decode cL_tell 155 = .ok (.bipush 63, 2) := by decide +kernel
theorem dL_tell_157 : decode cL_tell 157 = .ok (.aload_n 0, 1) := by decide +kernel
theorem dL_tell_158 : decode cL_tell 158 = .ok (.invokevirtual 92, 3) := by decide +kernel
theorem dL_tell_161 : decode cL_tell 161 = .ok (.iastore, 1) := by decide +kernel
theorem dL_tell_162 : decode cL_tell 162 = .ok (.aload_n 2, 1) := by decide +kernel
theorem dL_tell_163 : decode cL_tell 163 = .ok (.areturn, 1) := by decide +kernel
theorem dL_selects_0 : decode cL_selects 0 = .ok (.aload_n 1, 1) := by decide +kernel
theorem dL_selects_1 : decode cL_selects 1 = .ok (.iconst 1, 1) := by decide +kernel
theorem dL_selects_2 : decode cL_selects 2 = .ok (.iaload, 1) := by decide +kernel
theorem dL_selects_3 : decode cL_selects 3 = .ok (.bipush 8, 2) := by decide +kernel
theorem dL_selects_5 : decode cL_selects 5 = .ok (.if_icmp .ne 6, 3) := by decide +kernel
theorem dL_selects_8 : decode cL_selects 8 = .ok (.bipush (-9), 2) := by decide +kernel
theorem dL_selects_10 : decode cL_selects 10 = .ok (.ireturn, 1) := by decide +kernel
theorem dL_selects_11 : decode cL_selects 11 = .ok (.aload_n 0, 1) := by decide +kernel
theorem dL_selects_12 : decode cL_selects 12 = .ok (.iload_n 2, 1) := by decide +kernel
theorem dL_selects_13 : decode cL_selects 13 = .ok (.iconst 4, 1) := by decide +kernel
theorem dL_selects_14 : decode cL_selects 14 = .ok (.invokestatic 109, 3) := by decide +kernel
theorem dL_selects_17 : decode cL_selects 17 = .ok (.iload_n 2, 1) := by decide +kernel
theorem dL_selects_18 : decode cL_selects 18 = .ok (.iconst 2, 1) := by decide +kernel
theorem dL_selects_19 : decode cL_selects 19 = .ok (.ishr, 1) := by decide +kernel
theorem dL_selects_20 : decode cL_selects 20 = .ok (.iconst 3, 1) := by decide +kernel
theorem dL_selects_21 : decode cL_selects 21 = .ok (.invokestatic 109, 3) := by decide +kernel
theorem dL_selects_24 : decode cL_selects 24 = .ok (.iload_n 2, 1) := by decide +kernel
theorem dL_selects_25 : decode cL_selects 25 = .ok (.iconst 4, 1) := by decide +kernel
theorem dL_selects_26 : decode cL_selects 26 = .ok (.ishr, 1) := by decide +kernel
theorem dL_selects_27 : decode cL_selects 27 = .ok (.iconst 3, 1) := by decide +kernel
theorem dL_selects_28 : decode cL_selects 28 = .ok (.invokestatic 109, 3) := by decide +kernel
theorem dL_selects_31 : decode cL_selects 31 = .ok (.invokestatic 112, 3) := by decide +kernel
theorem dL_selects_34 : decode cL_selects 34 = .ok (.pop, 1) := by decide +kernel
theorem dL_selects_35 : decode cL_selects 35 = .ok (.iload_n 2, 1) := by decide +kernel
theorem dL_selects_36 : decode cL_selects 36 = .ok (.bipush 6, 2) := by decide +kernel
theorem dL_selects_38 : decode cL_selects 38 = .ok (.ishr, 1) := by decide +kernel
theorem dL_selects_39 : decode cL_selects 39 = .ok (.iconst 3, 1) := by decide +kernel
theorem dL_selects_40 : decode cL_selects 40 = .ok (.invokestatic 109, 3) := by decide +kernel
theorem dL_selects_43 : decode cL_selects 43 = .ok (.ifCond .ne 64, 3) := by decide +kernel
theorem dL_selects_46 : decode cL_selects 46 = .ok (.aload_n 0, 1) := by decide +kernel
theorem dL_selects_47 : decode cL_selects 47 = .ok (.iload_n 2, 1) := by decide +kernel
theorem dL_selects_48 : decode cL_selects 48 = .ok (.bipush 8, 2) := by decide +kernel
theorem dL_selects_50 : decode cL_selects 50 = .ok (.ishr, 1) := by decide +kernel
theorem dL_selects_51 : decode cL_selects 51 = .ok (.iconst 4, 1) := by decide +kernel
theorem dL_selects_52 : decode cL_selects 52 = .ok (.invokestatic 109, 3) := by decide +kernel
theorem dL_selects_55 : decode cL_selects 55 = .ok (.invokestatic 116, 3) := by decide +kernel
theorem dL_selects_58 : decode cL_selects 58 = .ok (.pop, 1) := by decide +kernel
theorem dL_selects_59 : decode cL_selects 59 = .ok (.iload_n 2, 1) := by decide +kernel
theorem dL_selects_60 : decode cL_selects 60 = .ok (.bipush 10, 2) := by decide +kernel
theorem dL_selects_62 : decode cL_selects 62 = .ok (.ishr, 1) := by decide +kernel
theorem dL_selects_63 : decode cL_selects 63 = .ok (.bipush 10, 2) := by decide +kernel
theorem dL_selects_65 : decode cL_selects 65 = .ok (.invokestatic 109, 3) := by decide +kernel
theorem dL_selects_68 : decode cL_selects 68 = .ok (.istore_n 3, 1) := by decide +kernel
theorem dL_selects_69 : decode cL_selects 69 = .ok (.iload_n 2, 1) := by decide +kernel
theorem dL_selects_70 : decode cL_selects 70 = .ok (.bipush 13, 2) := by decide +kernel
theorem dL_selects_72 : decode cL_selects 72 = .ok (.ishr, 1) := by decide +kernel
theorem dL_selects_73 : decode cL_selects 73 = .ok (.iconst 3, 1) := by decide +kernel
theorem dL_selects_74 : decode cL_selects 74 = .ok (.invokestatic 109, 3) := by decide +kernel
theorem dL_selects_77 : decode cL_selects 77 = .ok (.istore 4, 2) := by decide +kernel
theorem dL_selects_79 : decode cL_selects 79 = .ok (.aload_n 0, 1) := by decide +kernel
theorem dL_selects_80 : decode cL_selects 80 = .ok (.iload_n 3, 1) := by decide +kernel
theorem dL_selects_81 : decode cL_selects 81 = .ok (.iload_n 3, 1) := by decide +kernel
theorem dL_selects_82 : decode cL_selects 82 = .ok (.iconst 3, 1) := by decide +kernel
theorem dL_selects_83 : decode cL_selects 83 = .ok (.if_icmp .ne 7, 3) := by decide +kernel
theorem dL_selects_86 : decode cL_selects 86 = .ok (.iconst 0, 1) := by decide +kernel
theorem dL_selects_87 : decode cL_selects 87 = .ok (.goto 5, 3) := by decide +kernel
theorem dL_selects_90 : decode cL_selects 90 = .ok (.iload 4, 2) := by decide +kernel
theorem dL_selects_92 : decode cL_selects 92 = .ok (.iload_n 2, 1) := by decide +kernel
theorem dL_selects_93 : decode cL_selects 93 = .ok (.bipush 15, 2) := by decide +kernel
theorem dL_selects_95 : decode cL_selects 95 = .ok (.ishr, 1) := by decide +kernel
theorem dL_selects_96 : decode cL_selects 96 = .ok (.iconst 3, 1) := by decide +kernel
theorem dL_selects_97 : decode cL_selects 97 = .ok (.invokestatic 109, 3) := by decide +kernel
theorem dL_selects_100 : decode cL_selects 100 = .ok (.invokestatic 112, 3) := by decide +kernel
theorem dL_selects_103 : decode cL_selects 103 = .ok (.pop, 1) := by decide +kernel
theorem dL_selects_104 : decode cL_selects 104 = .ok (.goto 49, 3) := by decide +kernel
theorem dL_selects_107 : decode cL_selects 107 = .ok (.iload_n 2, 1) := by decide +kernel
theorem dL_selects_108 : decode cL_selects 108 = .ok (.bipush 6, 2) := by decide +kernel
theorem dL_selects_110 : decode cL_selects 110 = .ok (.ishr, 1) := by decide +kernel
theorem dL_selects_111 : decode cL_selects 111 = .ok (.iconst 3, 1) := by decide +kernel
theorem dL_selects_112 : decode cL_selects 112 = .ok (.invokestatic 109, 3) := by decide +kernel
theorem dL_selects_115 : decode cL_selects 115 = .ok (.iconst 1, 1) := by decide +kernel
theorem dL_selects_116 : decode cL_selects 116 = .ok (.if_icmp .ne 37, 3) := by decide +kernel
theorem dL_selects_119 : decode cL_selects 119 = .ok (.iconst 4, 1) := by decide +kernel
theorem dL_selects_120 : decode cL_selects 120 = .ok (.iload_n 2, 1) := by decide +kernel
theorem dL_selects_121 : decode cL_selects 121 = .ok (.bipush 10, 2) := by decide +kernel
theorem dL_selects_123 : decode cL_selects 123 = .ok (.ishr, 1) := by decide +kernel
theorem dL_selects_124 : decode cL_selects 124 = .ok (.bipush 6, 2) := by decide +kernel
theorem dL_selects_126 : decode cL_selects 126 = .ok (.invokestatic 109, 3) := by decide +kernel
theorem dL_selects_129 : decode cL_selects 129 = .ok (.iadd, 1) := by decide +kernel
theorem dL_selects_130 : decode cL_selects 130 = .ok (.istore_n 3, 1) := by decide +kernel
theorem dL_selects_131 : decode cL_selects 131 = .ok (.aload_n 0, 1) := by decide +kernel
theorem dL_selects_132 : decode cL_selects 132 = .ok (.iload_n 3, 1) := by decide +kernel
theorem dL_selects_133 : decode cL_selects 133 = .ok (.iload_n 2, 1) := by decide +kernel
theorem dL_selects_134 : decode cL_selects 134 = .ok (.bipush 13, 2) := by decide +kernel
theorem dL_selects_136 : decode cL_selects 136 = .ok (.ishr, 1) := by decide +kernel
theorem dL_selects_137 : decode cL_selects 137 = .ok (.iconst 3, 1) := by decide +kernel
theorem dL_selects_138 : decode cL_selects 138 = .ok (.invokestatic 109, 3) := by decide +kernel
theorem dL_selects_141 : decode cL_selects 141 = .ok (.iload_n 2, 1) := by decide +kernel
theorem dL_selects_142 : decode cL_selects 142 = .ok (.bipush 15, 2) := by decide +kernel
theorem dL_selects_144 : decode cL_selects 144 = .ok (.ishr, 1) := by decide +kernel
theorem dL_selects_145 : decode cL_selects 145 = .ok (.iconst 3, 1) := by decide +kernel
theorem dL_selects_146 : decode cL_selects 146 = .ok (.invokestatic 109, 3) := by decide +kernel
theorem dL_selects_149 : decode cL_selects 149 = .ok (.invokestatic 112, 3) := by decide +kernel
theorem dL_selects_152 : decode cL_selects 152 = .ok (.pop, 1) := by decide +kernel
theorem dL_selects_153 : decode cL_selects 153 = .ok (.aload_n 1, 1) := by decide +kernel
theorem dL_selects_154 : decode cL_selects 154 = .ok (.iconst 1, 1) := by decide +kernel
theorem dL_selects_155 : decode cL_selects 155 = .ok (.dup2, 1) := by decide +kernel
theorem dL_selects_156 : decode cL_selects 156 = .ok (.iaload, 1) := by decide +kernel
theorem dL_selects_157 : decode cL_selects 157 = .ok (.iconst 1, 1) := by decide +kernel
theorem dL_selects_158 : decode cL_selects 158 = .ok (.iadd, 1) := by decide +kernel
theorem dL_selects_159 : decode cL_selects 159 = .ok (.iastore, 1) := by decide +kernel
theorem dL_selects_160 : decode cL_selects 160 = .ok (.aload_n 0, 1) := by decide +kernel
theorem dL_selects_161 : decode cL_selects 161 = .ok (.invokevirtual 120, 3) := by decide +kernel
theorem dL_selects_164 : decode cL_selects 164 = .ok (.ireturn, 1) := by decide +kernel

theorem MQ.mono {below : List Frame} {Q Q' : Array Value → State → Outcome → State → Prop} {args : Array Value} {s : State} {mc ms : Nat} {free : Addr → Prop} {t : State} (h : MQ below Q args s mc ms free t) (k : ∀ st o t9, Q args st o t9 → Q' args st o t9) : MQ below Q' args s mc ms free t := by
  unfold MQ at h ⊢
  grind
def zb (x : Int32) : Int32 := if x = 0 then 0 else 1
def oZ (g : mS → Option (Int32 × mS)) (V : lwS) : Option (Int32 × lwS) := (oC g V).bind fun r => some (zb r.1, r.2)
def zret (v : Int32) (V : lwS) : Option (Int32 × lwS) := if v = 0 ∨ v = 1 then some (v, V) else none
theorem zret_spec {v : Int32} {V : lwS} {q : Int32 × lwS} (h : zret v V = some q) : (v = 0 ∨ v = 1) ∧ (v, V) = q := by
  unfold zret at h
  by_cases c : v = 0 ∨ v = 1
  · rw [if_pos c] at h; exact ⟨c, Option.some.inj h⟩
  · rw [if_neg c] at h; cases h
def lwQt (D : cD) (b : Nat × Nat) (V : lwS) (q : Nat → lwS) : Array Value → State → Outcome → State → Prop := fun _ st o t => ∃ a, V.2.2 a = none ∧ o = .returned (some (.ref a)) ∧ lwI D b (q a) t.heap ∧ va_F (cReg (lwO b)) st t
theorem lgs_x (a : Nat) (vs : List Value) : lg_sl (.ref a :: vs) = Slot.val (.ref a) :: lg_sl vs := rfl
theorem lv_args_x (i : Nat) (a : Nat) (vs : List Value) : lv_args i (.ref a :: vs) = (i, .ref a) :: lv_args (i + 1) vs := rfl
theorem lvKx {i j : Nat} {a : Nat} {lv : List (Nat × Value)} (k : lvK i lv) : lvK i ((j, .ref a) :: lv) := fun q hq => (List.mem_cons.mp hq).elim (fun e => Or.inr (by rw [e]; rfl)) (k q)
theorem ipP {c : Prop} [Decidable c] {A B : Prop} (hc : c) (h : if c then A else B) : A := by rw [if_pos hc] at h; exact h
theorem ineP {c : Prop} [Decidable c] {A B : Prop} (hc : ¬ c) (h : if c then A else B) : B := by rw [if_neg hc] at h; exact h
section LM0
variable {p : Program} {l : Launch} {e : Env} {R : Room} {s : State} {m : MethodId} {args : Array Value} {below : List Frame} {meth : Method} {c : Code} {H : Heap} {locs : List Loc} {cells slots fR mC mS lR : Nat} {Q : State → Prop} {cc : ByteArray} {pc : Nat} {ls : Array Slot} {rest : List Value} {D : cD} {Φ : cG} {nL : Nat} {S : cS} {ret : Option FieldType} {own : String} {b : Nat × Nat} {V V' : lwS}
theorem W.monoQ {Q' : State → Prop} {g : JFrame} (h : W p l e R s m args below meth c H locs cells slots Q g) (k : ∀ t, Q t → Q' t) : W p l e R s m args below meth c H locs cells slots Q' g := fun T hT X => by
  obtain ⟨t2, a1, b1⟩ := h T hT X
  exact ⟨t2, a1, k _ b1⟩
theorem l_ra {a : Nat} (X : lwX p s m args meth c cc nL (some (.array .int)) D b) (hI : lwI D b V' H) (hS : va_S (cReg (lwO b)) s.heap H locs) (h1 : cells ≤ mC) (h2 : slots ≤ mS) (hdg : decode cc pc = .ok (.areturn, 1)) : W p l e (rA fR mC mS lR) s m args below meth c H locs cells slots (MQ below (lwQ D b V' (some (.ref a))) args s mC mS (cReg (lwO b))) (F0 m pc ls [.ref a]) :=
  W.widen h1 h2 (W.aret X.1.1 X.1.2.1 X.1.2.2.2.2.2.2.2.1 (Or.inr ⟨_, rfl⟩) (Or.inr ⟨a, rfl⟩) (fun t ht _ => ⟨rfl, by rw [ht]; exact hI, hS.F ht⟩) hS.2.2 hdg X.1.2.2.2.2.2.2.2.2)
theorem l_afterT {mc ms : Nat} {st0 : List Value} {a : Array Value} {q : Nat → lwS} (hr : va_Run p l e R s m args below meth c H locs cells slots mc ms (F0 m pc ls st0) rest (lwQt D b V q a) (cReg (lwO b))) (hS : va_S (cReg (lwO b)) s.heap H locs)
    (kk : ∀ (a9 : Nat) (H1 : Heap) (locs1 : List Loc), V.2.2 a9 = none → lwI D b (q a9) H1 → va_S (cReg (lwO b)) s.heap H1 locs1 → W p l e R s m args below meth c H1 locs1 (cells + mc) (slots + ms) Q (F0 m (pc + 3) ls (.ref a9 :: rest))) : W p l e R s m args below meth c H locs cells slots Q (F0 m pc ls st0) := by
  intro T hT X
  obtain ⟨v', st₀, t, T', L, h0, X', hL, e1, e2, ⟨a9, hn, hv, hp, hF⟩, st⟩ := hr T hT X
  cases hv
  obtain ⟨k1, k2, k3⟩ := vx_keep h0 e1 hS (fun _ _ h => h) (fun _ h => h) hL hF
  obtain ⟨t2, a1, b1⟩ := kk a9 T'.heap (locs ++ L) hn (by rw [e1]; exact hp) k3 T' rfl X'
  exact ⟨t2, st t2 a1, b1⟩
theorem lx_astore_n (hx : p.tables.exec = Jvm.exec) (hb : c.code = cc) {k : Fin 4} {i nL : Nat} {a : Nat} {lv lv' : List (Nat × Value)} (hdg : decode cc pc = .ok (.astore_n k, 1)) (hi : (k : Nat) = i) (h : lv_has ls nL lv) (hn : i < nL) (_hk : lvK i lv) (hl : (i, Value.ref a) :: lv.filter (fun q => !(q.1 == i)) = lv')
    (kk : ∀ ls' : Array Slot, lv_has ls' nL lv' → W p l e R s m args below meth c H locs cells slots Q (F0 m (pc + 1) ls' rest)) : W p l e R s m args below meth c H locs cells slots Q (F0 m pc ls (.ref a :: rest)) := by
  exact lv_astore_n hx hb hdg hi h hn (by rw [lvK_f _hk]; exact hl) kk
theorem lx_astore (hx : p.tables.exec = Jvm.exec) (hb : c.code = cc) {i nL : Nat} {a : Nat} {lv lv' : List (Nat × Value)} (hdg : decode cc pc = .ok (.astore i, 2)) (h : lv_has ls nL lv) (hn : i < nL) (_hk : lvK i lv) (hl : (i, Value.ref a) :: lv.filter (fun q => !(q.1 == i)) = lv')
    (kk : ∀ ls' : Array Slot, lv_has ls' nL lv' → W p l e R s m args below meth c H locs cells slots Q (F0 m (pc + 2) ls' rest)) : W p l e R s m args below meth c H locs cells slots Q (F0 m pc ls (.ref a :: rest)) := by
  exact lv_astore hx hb hdg h hn (by rw [lvK_f _hk]; exact hl) kk
end LM0
theorem ck {α : Type} {c : Prop} [Decidable c] {x : Option α} {r : α} (h : (if c then x else none) = some r) : c ∧ x = some r := by
  by_cases hc : c
  · rw [if_pos hc] at h; exact ⟨hc, h⟩
  · rw [if_neg hc] at h; cases h
theorem isIn01 {x0 : Nat} {a : Int32} {S : cS} {q : (Nat ⊕ Int32) × cS} (h : f_X11_isIn x0 a S = some q) {u : Int32} (hu : q.1 = .inr u) : u = 0 ∨ u = 1 := by
  unfold f_X11_isIn at h
  obtain ⟨v1, -, h⟩ := ob h
  obtain ⟨v2, -, h⟩ := ob h
  obtain ⟨v3, -, h⟩ := ob h
  cases hv : v3.1 with
  | inl k => rw [hv] at h; cases h; cases hu
  | inr w =>
    have h := el_r hv h
    obtain ⟨v5, -, h⟩ := ob h
    obtain ⟨v6, -, h⟩ := ob h
    obtain ⟨h1, h2⟩ := lrzt_spec h
    rw [h2] at hu
    cases hu
    exact h1
theorem z01 {u a : Int32} (h : u = 0 ∨ u = 1) (e : lvZ u = lvZ a) : u = zb a := by
  unfold lvZ at e
  unfold zb
  by_cases c : a = 0
  · rw [if_pos c] at e ⊢
    rcases h with h | h
    · exact h
    · rw [h] at e; exact absurd e (by decide)
  · rw [if_neg c] at e ⊢
    rcases h with h | h
    · rw [h] at e; exact absurd e (by decide)
    · exact h
theorem D_make {a1 : Int32} {V : lwS} {w : Int32 × lwS} (h : oC (f_make a1) V = some w) : w.2.2.2 = V.2.2 ∧ ∀ S, RJ V.2.1 S V.1 → ∃ u S', f_X11_make 1 a1 S = some (.inr u, S') ∧ RJ w.2.2.1 S' w.2.1 ∧ u = w.1 := by
  obtain ⟨r9, hr9, h9⟩ := ob h
  obtain ⟨hk6, a9, σ', hg, rfl⟩ := oR_spec hr9
  by_cases c : σ'.2 81 = 0
  · have h9 : (if σ'.2 81 = 0 then some (a9, (σ', V.2.1 + 1, V.2.2)) else none) = some w := h9
    rw [if_pos c] at h9
    obtain rfl := sj h9
    refine ⟨rfl, fun S hS => ?_⟩
    obtain ⟨T, Gq, Lq, A, ex, K, v9, nw, w⟩ := hS
    obtain ⟨q, r, hq, hr, ⟨hag, hvl⟩, hJ⟩ := sq_make w a1 
    have : r = (a9, σ') := Option.some.inj (hr.symm.trans hg)
    subst this
    obtain ⟨x, hx⟩ := lcd_z2 hag c
    refine ⟨x, q.2, by rw [hq]; exact congrArg some (Prod.ext hx rfl), (hJ q.2.2 (Nat.le_refl _)).rj, ?_⟩
    exact lvN_inj (hvl x hx)
  · have h9 : (if σ'.2 81 = 0 then some (a9, (σ', V.2.1 + 1, V.2.2)) else none) = some w := h9
    rw [if_neg c] at h9; cases h9
theorem D_shownParent {a1 : Int32} {V : lwS} {w : Int32 × lwS} (h : oC (f_shownParent a1) V = some w) : w.2.2.2 = V.2.2 ∧ ∀ S, RJ V.2.1 S V.1 → ∃ u S', f_X11_shownParent 1 a1 S = some (.inr u, S') ∧ RJ w.2.2.1 S' w.2.1 ∧ u = w.1 := by
  obtain ⟨r9, hr9, h9⟩ := ob h
  obtain ⟨hk6, a9, σ', hg, rfl⟩ := oR_spec hr9
  by_cases c : σ'.2 81 = 0
  · have h9 : (if σ'.2 81 = 0 then some (a9, (σ', V.2.1 + 1, V.2.2)) else none) = some w := h9
    rw [if_pos c] at h9
    obtain rfl := sj h9
    refine ⟨rfl, fun S hS => ?_⟩
    obtain ⟨T, Gq, Lq, A, ex, K, v9, nw, w⟩ := hS
    obtain ⟨q, r, hq, hr, ⟨hag, hvl⟩, hJ⟩ := sq_shownParent w a1 
    have : r = (a9, σ') := Option.some.inj (hr.symm.trans hg)
    subst this
    obtain ⟨x, hx⟩ := lcd_z1 hag c
    refine ⟨x, q.2, by rw [hq]; exact congrArg some (Prod.ext hx rfl), (hJ q.2.2 (Nat.le_refl _)).rj, ?_⟩
    exact lvN_inj (hvl x hx)
  · have h9 : (if σ'.2 81 = 0 then some (a9, (σ', V.2.1 + 1, V.2.2)) else none) = some w := h9
    rw [if_neg c] at h9; cases h9
theorem D_isIn {a1 : Int32} {V : lwS} {w : Int32 × lwS} (h : oZ (f_isIn a1) V = some w) : w.2.2.2 = V.2.2 ∧ ∀ S, RJ V.2.1 S V.1 → ∃ u S', f_X11_isIn 1 a1 S = some (.inr u, S') ∧ RJ w.2.2.1 S' w.2.1 ∧ u = w.1 := by
  obtain ⟨w9, hw9, h⟩ := ob h
  obtain ⟨r9, hr9, h9⟩ := ob hw9
  obtain ⟨hk6, a9, σ', hg, rfl⟩ := oR_spec hr9
  by_cases c : σ'.2 81 = 0
  · have h9 : (if σ'.2 81 = 0 then some (a9, (σ', V.2.1 + 1, V.2.2)) else none) = some w9 := h9
    rw [if_pos c] at h9
    obtain rfl := sj h9
    obtain rfl := sj h
    refine ⟨rfl, fun S hS => ?_⟩
    obtain ⟨T, Gq, Lq, A, ex, K, v9, nw, w⟩ := hS
    obtain ⟨q, r, hq, hr, ⟨hag, hvl⟩, hJ⟩ := sq_isIn w a1 
    have : r = (a9, σ') := Option.some.inj (hr.symm.trans hg)
    subst this
    obtain ⟨x, hx⟩ := lcd_z1 hag c
    refine ⟨x, q.2, by rw [hq]; exact congrArg some (Prod.ext hx rfl), (hJ q.2.2 (Nat.le_refl _)).rj, ?_⟩
    exact z01 (isIn01 (by rw [hq] : f_X11_isIn 1 a1 S = some q) hx) (hvl x hx)
  · have h9 : (if σ'.2 81 = 0 then some (a9, (σ', V.2.1 + 1, V.2.2)) else none) = some w9 := h9
    rw [if_neg c] at h9; cases h9
theorem D_valueAnew {a1 a2 : Int32} {V : lwS} {w : Int32 × lwS} (h : oC (f_valueAnew a1 a2) V = some w) : w.2.2.2 = V.2.2 ∧ ∀ S, RJ V.2.1 S V.1 → ∃ u S', f_X11_valueAnew 1 a1 a2 S = some (.inr u, S') ∧ RJ w.2.2.1 S' w.2.1 ∧ u = w.1 := by
  obtain ⟨r9, hr9, h9⟩ := ob h
  obtain ⟨hk6, a9, σ', hg, rfl⟩ := oR_spec hr9
  by_cases c : σ'.2 81 = 0
  · have h9 : (if σ'.2 81 = 0 then some (a9, (σ', V.2.1 + 1, V.2.2)) else none) = some w := h9
    rw [if_pos c] at h9
    obtain rfl := sj h9
    refine ⟨rfl, fun S hS => ?_⟩
    obtain ⟨T, Gq, Lq, A, ex, K, v9, nw, w⟩ := hS
    obtain ⟨q, r, hq, hr, ⟨hag, hvl⟩, hJ⟩ := sq_valueAnew hk6 w a1 a2 
    have : r = (a9, σ') := Option.some.inj (hr.symm.trans hg)
    subst this
    obtain ⟨x, hx⟩ := lcd_z3 hag c
    refine ⟨x, q.2, by rw [hq]; exact congrArg some (Prod.ext hx rfl), (hJ q.2.2 (Nat.le_refl _)).rj, ?_⟩
    exact lvN_inj (hvl x hx)
  · have h9 : (if σ'.2 81 = 0 then some (a9, (σ', V.2.1 + 1, V.2.2)) else none) = some w := h9
    rw [if_neg c] at h9; cases h9
theorem D_allThat {a1 a2 : Int32} {V : lwS} {w : Int32 × lwS} (h : oC (f_allThat a1 a2) V = some w) : w.2.2.2 = V.2.2 ∧ ∀ S, RJ V.2.1 S V.1 → ∃ u S', f_X11_allThat 1 a1 a2 S = some (.inr u, S') ∧ RJ w.2.2.1 S' w.2.1 ∧ u = w.1 := by
  obtain ⟨r9, hr9, h9⟩ := ob h
  obtain ⟨hk6, a9, σ', hg, rfl⟩ := oR_spec hr9
  by_cases c : σ'.2 81 = 0
  · have h9 : (if σ'.2 81 = 0 then some (a9, (σ', V.2.1 + 1, V.2.2)) else none) = some w := h9
    rw [if_pos c] at h9
    obtain rfl := sj h9
    refine ⟨rfl, fun S hS => ?_⟩
    obtain ⟨T, Gq, Lq, A, ex, K, v9, nw, w⟩ := hS
    obtain ⟨q, r, hq, hr, ⟨hag, hvl⟩, hJ⟩ := sq_allThat hk6 w a1 a2 
    have : r = (a9, σ') := Option.some.inj (hr.symm.trans hg)
    subst this
    obtain ⟨x, hx⟩ := lcd_z1 hag c
    refine ⟨x, q.2, by rw [hq]; exact congrArg some (Prod.ext hx rfl), (hJ q.2.2 (Nat.le_refl _)).rj, ?_⟩
    exact lvN_inj (hvl x hx)
  · have h9 : (if σ'.2 81 = 0 then some (a9, (σ', V.2.1 + 1, V.2.2)) else none) = some w := h9
    rw [if_neg c] at h9; cases h9
theorem D_weight {a1 : Int32} {V : lwS} {w : Int32 × lwS} (h : oC (f_weight a1) V = some w) : w.2.2.2 = V.2.2 ∧ ∀ S, RJ V.2.1 S V.1 → ∃ u S', f_X11_weight 1 a1 S = some (.inr u, S') ∧ RJ w.2.2.1 S' w.2.1 ∧ u = w.1 := by
  obtain ⟨r9, hr9, h9⟩ := ob h
  obtain ⟨hk6, a9, σ', hg, rfl⟩ := oR_spec hr9
  by_cases c : σ'.2 81 = 0
  · have h9 : (if σ'.2 81 = 0 then some (a9, (σ', V.2.1 + 1, V.2.2)) else none) = some w := h9
    rw [if_pos c] at h9
    obtain rfl := sj h9
    refine ⟨rfl, fun S hS => ?_⟩
    obtain ⟨T, Gq, Lq, A, ex, K, v9, nw, w⟩ := hS
    obtain ⟨q, r, hq, hr, ⟨hag, hvl⟩, hJ⟩ := sq_weight w a1 
    have : r = (a9, σ') := Option.some.inj (hr.symm.trans hg)
    subst this
    obtain ⟨x, hx⟩ := lcd_z1 hag c
    refine ⟨x, q.2, by rw [hq]; exact congrArg some (Prod.ext hx rfl), (hJ q.2.2 (Nat.le_refl _)).rj, ?_⟩
    exact lvN_inj (hvl x hx)
  · have h9 : (if σ'.2 81 = 0 then some (a9, (σ', V.2.1 + 1, V.2.2)) else none) = some w := h9
    rw [if_neg c] at h9; cases h9
theorem D_value {a1 a2 : Int32} {V : lwS} {w : Int32 × lwS} (h : oC (f_value a1 a2) V = some w) : w.2.2.2 = V.2.2 ∧ ∀ S, RJ V.2.1 S V.1 → ∃ u S', f_X11_value 1 a1 a2 S = some (.inr u, S') ∧ RJ w.2.2.1 S' w.2.1 ∧ u = w.1 := by
  obtain ⟨r9, hr9, h9⟩ := ob h
  obtain ⟨hk6, a9, σ', hg, rfl⟩ := oR_spec hr9
  by_cases c : σ'.2 81 = 0
  · have h9 : (if σ'.2 81 = 0 then some (a9, (σ', V.2.1 + 1, V.2.2)) else none) = some w := h9
    rw [if_pos c] at h9
    obtain rfl := sj h9
    refine ⟨rfl, fun S hS => ?_⟩
    obtain ⟨T, Gq, Lq, A, ex, K, v9, nw, w⟩ := hS
    obtain ⟨q, r, hq, hr, ⟨hag, hvl⟩, hJ⟩ := sq_value hk6 w a1 a2 
    have : r = (a9, σ') := Option.some.inj (hr.symm.trans hg)
    subst this
    obtain ⟨x, hx⟩ := lcd_z3 hag c
    refine ⟨x, q.2, by rw [hq]; exact congrArg some (Prod.ext hx rfl), (hJ q.2.2 (Nat.le_refl _)).rj, ?_⟩
    exact lvN_inj (hvl x hx)
  · have h9 : (if σ'.2 81 = 0 then some (a9, (σ', V.2.1 + 1, V.2.2)) else none) = some w := h9
    rw [if_neg c] at h9; cases h9
theorem D_seen {a1 a2 : Int32} {V : lwS} {w : Int32 × lwS} (h : oC (f_seen a1 a2) V = some w) : w.2.2.2 = V.2.2 ∧ ∀ S, RJ V.2.1 S V.1 → ∃ u S', f_X11_seen 1 a1 a2 S = some (.inr u, S') ∧ RJ w.2.2.1 S' w.2.1 ∧ u = w.1 := by
  obtain ⟨r9, hr9, h9⟩ := ob h
  obtain ⟨hk6, a9, σ', hg, rfl⟩ := oR_spec hr9
  by_cases c : σ'.2 81 = 0
  · have h9 : (if σ'.2 81 = 0 then some (a9, (σ', V.2.1 + 1, V.2.2)) else none) = some w := h9
    rw [if_pos c] at h9
    obtain rfl := sj h9
    refine ⟨rfl, fun S hS => ?_⟩
    obtain ⟨T, Gq, Lq, A, ex, K, v9, nw, w⟩ := hS
    obtain ⟨q, r, hq, hr, ⟨hag, hvl⟩, hJ⟩ := sq_seen hk6 w a1 a2 
    have : r = (a9, σ') := Option.some.inj (hr.symm.trans hg)
    subst this
    obtain ⟨x, hx⟩ := lcd_z3 hag c
    refine ⟨x, q.2, by rw [hq]; exact congrArg some (Prod.ext hx rfl), (hJ q.2.2 (Nat.le_refl _)).rj, ?_⟩
    exact lvN_inj (hvl x hx)
  · have h9 : (if σ'.2 81 = 0 then some (a9, (σ', V.2.1 + 1, V.2.2)) else none) = some w := h9
    rw [if_neg c] at h9; cases h9
theorem D_size {a1 : Int32} {V : lwS} {w : Int32 × lwS} (h : oC (f_size a1) V = some w) : w.2.2.2 = V.2.2 ∧ ∀ S, RJ V.2.1 S V.1 → ∃ u S', f_X11_size 1 a1 S = some (.inr u, S') ∧ RJ w.2.2.1 S' w.2.1 ∧ u = w.1 := by
  obtain ⟨r9, hr9, h9⟩ := ob h
  obtain ⟨hk6, a9, σ', hg, rfl⟩ := oR_spec hr9
  by_cases c : σ'.2 81 = 0
  · have h9 : (if σ'.2 81 = 0 then some (a9, (σ', V.2.1 + 1, V.2.2)) else none) = some w := h9
    rw [if_pos c] at h9
    obtain rfl := sj h9
    refine ⟨rfl, fun S hS => ?_⟩
    obtain ⟨T, Gq, Lq, A, ex, K, v9, nw, w⟩ := hS
    obtain ⟨q, r, hq, hr, ⟨hag, hvl⟩, hJ⟩ := sq_size hk6 w a1 
    have : r = (a9, σ') := Option.some.inj (hr.symm.trans hg)
    subst this
    obtain ⟨x, hx⟩ := lcd_z2 hag c
    refine ⟨x, q.2, by rw [hq]; exact congrArg some (Prod.ext hx rfl), (hJ q.2.2 (Nat.le_refl _)).rj, ?_⟩
    exact lvN_inj (hvl x hx)
  · have h9 : (if σ'.2 81 = 0 then some (a9, (σ', V.2.1 + 1, V.2.2)) else none) = some w := h9
    rw [if_neg c] at h9; cases h9
theorem D_why {a1 a2 a3 : Int32} {V : lwS} {w : Int32 × lwS} (h : oC (f_why a1 a2 a3) V = some w) : w.2.2.2 = V.2.2 ∧ ∀ S, RJ V.2.1 S V.1 → ∃ u S', f_X11_why 1 a1 a2 a3 S = some (.inr u, S') ∧ RJ w.2.2.1 S' w.2.1 ∧ u = w.1 := by
  obtain ⟨r9, hr9, h9⟩ := ob h
  obtain ⟨hk6, a9, σ', hg, rfl⟩ := oR_spec hr9
  by_cases c : σ'.2 81 = 0
  · have h9 : (if σ'.2 81 = 0 then some (a9, (σ', V.2.1 + 1, V.2.2)) else none) = some w := h9
    rw [if_pos c] at h9
    obtain rfl := sj h9
    refine ⟨rfl, fun S hS => ?_⟩
    obtain ⟨T, Gq, Lq, A, ex, K, v9, nw, w⟩ := hS
    obtain ⟨q, r, hq, hr, ⟨hag, hvl⟩, hJ⟩ := sq_why hk6 w a1 a2 a3 
    have : r = (a9, σ') := Option.some.inj (hr.symm.trans hg)
    subst this
    obtain ⟨x, hx⟩ := lcd_z3 hag c
    refine ⟨x, q.2, by rw [hq]; exact congrArg some (Prod.ext hx rfl), (hJ q.2.2 (Nat.le_refl _)).rj, ?_⟩
    exact lvN_inj (hvl x hx)
  · have h9 : (if σ'.2 81 = 0 then some (a9, (σ', V.2.1 + 1, V.2.2)) else none) = some w := h9
    rw [if_neg c] at h9; cases h9
theorem D_setClass {a1 a2 a3 : Int32} {V : lwS} {w : Int32 × lwS} (hz3 : a3 = 0 ∨ a3 = 1) (h : oC (f_setClass a1 a2 a3) V = some w) : w.2.2.2 = V.2.2 ∧ ∀ S, RJ V.2.1 S V.1 → ∃ u S', f_X11_setClass 1 a1 a2 a3 S = some (.inr u, S') ∧ RJ w.2.2.1 S' w.2.1 ∧ True := by
  obtain ⟨r9, hr9, h9⟩ := ob h
  obtain ⟨hk6, a9, σ', hg, rfl⟩ := oR_spec hr9
  by_cases c : σ'.2 81 = 0
  · have h9 : (if σ'.2 81 = 0 then some (a9, (σ', V.2.1 + 1, V.2.2)) else none) = some w := h9
    rw [if_pos c] at h9
    obtain rfl := sj h9
    refine ⟨rfl, fun S hS => ?_⟩
    obtain ⟨T, Gq, Lq, A, ex, K, v9, nw, w⟩ := hS
    obtain ⟨q, r, hq, hr, ⟨hag, hvl⟩, hJ⟩ := sq_setClass hk6 w a1 a2 a3 hz3
    have : r = (a9, σ') := Option.some.inj (hr.symm.trans hg)
    subst this
    obtain ⟨x, hx⟩ := lcd_z2 hag c
    refine ⟨x, q.2, by rw [hq]; exact congrArg some (Prod.ext hx rfl), (hJ q.2.2 (Nat.le_refl _)).rj, ?_⟩
    trivial
  · have h9 : (if σ'.2 81 = 0 then some (a9, (σ', V.2.1 + 1, V.2.2)) else none) = some w := h9
    rw [if_neg c] at h9; cases h9
theorem D_setAttribute {a1 a2 a3 : Int32} {V : lwS} {w : Int32 × lwS} (h : oC (f_setAttribute a1 a2 a3) V = some w) : w.2.2.2 = V.2.2 ∧ ∀ S, RJ V.2.1 S V.1 → ∃ u S', f_X11_setAttribute 1 a1 a2 a3 S = some (.inr u, S') ∧ RJ w.2.2.1 S' w.2.1 ∧ u = w.1 := by
  obtain ⟨r9, hr9, h9⟩ := ob h
  obtain ⟨hk6, a9, σ', hg, rfl⟩ := oR_spec hr9
  by_cases c : σ'.2 81 = 0
  · have h9 : (if σ'.2 81 = 0 then some (a9, (σ', V.2.1 + 1, V.2.2)) else none) = some w := h9
    rw [if_pos c] at h9
    obtain rfl := sj h9
    refine ⟨rfl, fun S hS => ?_⟩
    obtain ⟨T, Gq, Lq, A, ex, K, v9, nw, w⟩ := hS
    obtain ⟨q, r, hq, hr, ⟨hag, hvl⟩, hJ⟩ := sq_setAttribute hk6 w a1 a2 a3 
    have : r = (a9, σ') := Option.some.inj (hr.symm.trans hg)
    subst this
    obtain ⟨x, hx⟩ := lcd_z2 hag c
    refine ⟨x, q.2, by rw [hq]; exact congrArg some (Prod.ext hx rfl), (hJ q.2.2 (Nat.le_refl _)).rj, ?_⟩
    exact lvN_inj (hvl x hx)
  · have h9 : (if σ'.2 81 = 0 then some (a9, (σ', V.2.1 + 1, V.2.2)) else none) = some w := h9
    rw [if_neg c] at h9; cases h9
theorem D_setPart {a1 a2 : Int32} {V : lwS} {w : Int32 × lwS} (h : oC (f_setPart a1 a2) V = some w) : w.2.2.2 = V.2.2 ∧ ∀ S, RJ V.2.1 S V.1 → ∃ u S', f_X11_setPart 1 a1 a2 S = some (.inr u, S') ∧ RJ w.2.2.1 S' w.2.1 ∧ u = w.1 := by
  obtain ⟨r9, hr9, h9⟩ := ob h
  obtain ⟨hk6, a9, σ', hg, rfl⟩ := oR_spec hr9
  by_cases c : σ'.2 81 = 0
  · have h9 : (if σ'.2 81 = 0 then some (a9, (σ', V.2.1 + 1, V.2.2)) else none) = some w := h9
    rw [if_pos c] at h9
    obtain rfl := sj h9
    refine ⟨rfl, fun S hS => ?_⟩
    obtain ⟨T, Gq, Lq, A, ex, K, v9, nw, w⟩ := hS
    obtain ⟨q, r, hq, hr, ⟨hag, hvl⟩, hJ⟩ := sq_setPart hk6 w a1 a2 
    have : r = (a9, σ') := Option.some.inj (hr.symm.trans hg)
    subst this
    obtain ⟨x, hx⟩ := lcd_z2 hag c
    refine ⟨x, q.2, by rw [hq]; exact congrArg some (Prod.ext hx rfl), (hJ q.2.2 (Nat.le_refl _)).rj, ?_⟩
    exact lvN_inj (hvl x hx)
  · have h9 : (if σ'.2 81 = 0 then some (a9, (σ', V.2.1 + 1, V.2.2)) else none) = some w := h9
    rw [if_neg c] at h9; cases h9
theorem D_select {V : lwS} {w : Int32 × lwS} (h : oC (f_select ) V = some w) : w.2.2.2 = V.2.2 ∧ ∀ S, RJ V.2.1 S V.1 → ∃ u S', f_X11_select 1  S = some (.inr u, S') ∧ RJ w.2.2.1 S' w.2.1 ∧ u = w.1 := by
  obtain ⟨r9, hr9, h9⟩ := ob h
  obtain ⟨hk6, a9, σ', hg, rfl⟩ := oR_spec hr9
  by_cases c : σ'.2 81 = 0
  · have h9 : (if σ'.2 81 = 0 then some (a9, (σ', V.2.1 + 1, V.2.2)) else none) = some w := h9
    rw [if_pos c] at h9
    obtain rfl := sj h9
    refine ⟨rfl, fun S hS => ?_⟩
    obtain ⟨T, Gq, Lq, A, ex, K, v9, nw, w⟩ := hS
    obtain ⟨q, r, hq, hr, ⟨hag, hvl⟩, hJ⟩ := sq_select w  
    have : r = (a9, σ') := Option.some.inj (hr.symm.trans hg)
    subst this
    obtain ⟨x, hx⟩ := lcd_z1 hag c
    refine ⟨x, q.2, by rw [hq]; exact congrArg some (Prod.ext hx rfl), (hJ q.2.2 (Nat.le_refl _)).rj, ?_⟩
    exact lvN_inj (hvl x hx)
  · have h9 : (if σ'.2 81 = 0 then some (a9, (σ', V.2.1 + 1, V.2.2)) else none) = some w := h9
    rw [if_neg c] at h9; cases h9
theorem D_turn {a1 a2 : Int32} {V : lwS} {w : Int32 × lwS} (hz2 : a2 = 0 ∨ a2 = 1) (h : oC (f_turn a1 a2) V = some w) : w.2.2.2 = V.2.2 ∧ ∀ S, RJ V.2.1 S V.1 → ∃ u S', f_X11_turn 1 a1 a2 S = some (.inr u, S') ∧ RJ w.2.2.1 S' w.2.1 ∧ True := by
  obtain ⟨r9, hr9, h9⟩ := ob h
  obtain ⟨hk6, a9, σ', hg, rfl⟩ := oR_spec hr9
  by_cases c : σ'.2 81 = 0
  · have h9 : (if σ'.2 81 = 0 then some (a9, (σ', V.2.1 + 1, V.2.2)) else none) = some w := h9
    rw [if_pos c] at h9
    obtain rfl := sj h9
    refine ⟨rfl, fun S hS => ?_⟩
    obtain ⟨T, Gq, Lq, A, ex, K, v9, nw, w⟩ := hS
    obtain ⟨q, r, hq, hr, ⟨hag, hvl⟩, hJ⟩ := sq_turn w a1 a2 hz2
    have : r = (a9, σ') := Option.some.inj (hr.symm.trans hg)
    subst this
    obtain ⟨x, hx⟩ := lcd_z1 hag c
    refine ⟨x, q.2, by rw [hq]; exact congrArg some (Prod.ext hx rfl), (hJ q.2.2 (Nat.le_refl _)).rj, ?_⟩
    trivial
  · have h9 : (if σ'.2 81 = 0 then some (a9, (σ', V.2.1 + 1, V.2.2)) else none) = some w := h9
    rw [if_neg c] at h9; cases h9
theorem D_setWidth {a1 : Int32} {V : lwS} {w : Int32 × lwS} (h : oC (f_setWidth a1) V = some w) : w.2.2.2 = V.2.2 ∧ ∀ S, RJ V.2.1 S V.1 → ∃ u S', f_X11_setWidth 1 a1 S = some (.inr u, S') ∧ RJ w.2.2.1 S' w.2.1 ∧ u = w.1 := by
  obtain ⟨r9, hr9, h9⟩ := ob h
  obtain ⟨hk6, a9, σ', hg, rfl⟩ := oR_spec hr9
  by_cases c : σ'.2 81 = 0
  · have h9 : (if σ'.2 81 = 0 then some (a9, (σ', V.2.1 + 1, V.2.2)) else none) = some w := h9
    rw [if_pos c] at h9
    obtain rfl := sj h9
    refine ⟨rfl, fun S hS => ?_⟩
    obtain ⟨T, Gq, Lq, A, ex, K, v9, nw, w⟩ := hS
    obtain ⟨q, r, hq, hr, ⟨hag, hvl⟩, hJ⟩ := sq_setWidth w a1 
    have : r = (a9, σ') := Option.some.inj (hr.symm.trans hg)
    subst this
    obtain ⟨x, hx⟩ := lcd_z1 hag c
    refine ⟨x, q.2, by rw [hq]; exact congrArg some (Prod.ext hx rfl), (hJ q.2.2 (Nat.le_refl _)).rj, ?_⟩
    exact lvN_inj (hvl x hx)
  · have h9 : (if σ'.2 81 = 0 then some (a9, (σ', V.2.1 + 1, V.2.2)) else none) = some w := h9
    rw [if_neg c] at h9; cases h9
theorem D_marked {V : lwS} {S : cS} {v : Int32} (hS : RJ V.2.1 S V.1) (h : f_marked V.1 = some v) : f_X11_marked 1 S = some v := by
  obtain ⟨T, Gq, Lq, A, ex, K, v9, nw, w⟩ := hS
  rw [← h]
  exact ((sq_ints w).2.2.2.1)
theorem D_flushes {V : lwS} {S : cS} {v : Int32} (hS : RJ V.2.1 S V.1) (h : some (V.1.2 51) = some v) : f_X11_flushes 1 S = some v := by
  obtain ⟨T, Gq, Lq, A, ex, K, v9, nw, w⟩ := hS
  rw [← h]
  exact ((sq_ints w).1)
theorem D_restyled {V : lwS} {S : cS} {v : Int32} (hS : RJ V.2.1 S V.1) (h : some (V.1.2 52) = some v) : f_X11_restyled 1 S = some v := by
  obtain ⟨T, Gq, Lq, A, ex, K, v9, nw, w⟩ := hS
  rw [← h]
  exact ((sq_ints w).2.1)
theorem D_shared {V : lwS} {S : cS} {v : Int32} (hS : RJ V.2.1 S V.1) (h : some (V.1.2 53) = some v) : f_X11_shared 1 S = some v := by
  obtain ⟨T, Gq, Lq, A, ex, K, v9, nw, w⟩ := hS
  rw [← h]
  exact ((sq_ints w).2.2.1)
def f_L_low (x0 : Int32) (x1 : Int32) (V : lwS) : Option (Int32 × lwS) := (rm (x0 &&& (2147483647:Int32)) x1).bind (fun v1 => some (v1, V))
set_option maxRecDepth 20000 in
set_option maxHeartbeats 4000000 in
theorem K_L_low (l : Launch) (hl9 : l.stackTraces = false) (D : cD) (b : Nat × Nat) (V : lwS) (x0 : Int32) (x1 : Int32) {v : Int32} {V' : lwS} (h : f_L_low x0 x1 V = some (v, V')) : Met l yL_low (Cond.code yL_low cL_low 2 (some .int) :: BG) (rA 0 0 0 0) (lwPc D b V [.int x0, .int x1]) (lwQ D b V' (some (.int v))) 0 0 (cReg (lwO b)) := by
  refine Met.ofW (cc := cL_low) (maxL := 2) (ret := (some .int)) (by decide) rfl ?_
  intro p e s m args below meth c s₁ B hml hv
  obtain ⟨rfl, hI, hK, hZ, hN⟩ := hv
  have X : lwX p s m [.int x0, .int x1].toArray meth c cL_low 2 (some .int) D b := lwX_of B hml hK hZ hN rfl
  have hx := X.1.1
  have hb := X.1.2.1
  have hown := X.1.2.2.2.1
  have hts := X.1.2.2.2.2.1
  have hl := lv_entry [.int x0, .int x1] (n := 2) (by simp only [lgs_r, lgs_i, lgs_l, lgs_0, lgs_x, List.length]; exact Nat.le_of_ble_eq_true rfl)
  rw [lg_entry_eq]
  generalize (lg_sl [.int x0, .int x1] ++ List.replicate (2 - (lg_sl [.int x0, .int x1]).length) Slot.unset).toArray = ls at hl ⊢
  simp only [lv_args_r, lv_args_i, lv_args_l, lv_args_0, lv_args_x] at hl
  have hl : lv_has ls 2 [(0, .int x0), (1, .int x1)] := hl
  have hS : va_S (cReg (lwO b)) s.heap s.heap [] := va_S.rf
  show W p l e (rA 0 0 0 0) s m [.int x0, .int x1].toArray below meth c s.heap [] 0 0 (MQ below (lwQ D b V' (some (.int v))) [.int x0, .int x1].toArray s 0 0 (cReg (lwO b))) (F0 m 0 ls [])
  have h : ((rm (x0 &&& (2147483647:Int32)) x1).bind (fun v1 => some (v1, V))) = some (v, V') := h
  refine lv_iload_n hx hb dL_low_0 rfl (lv_at hl 0 rfl) ?_
  refine lv_ldc hx hb hown (hts _ w_627) dL_low_1 ?_
  refine lv_iand hx hb dL_low_3 ?_
  refine lv_iload_n hx hb dL_low_4 rfl (lv_at hl 1 rfl) ?_
  obtain ⟨v1, hv1, h⟩ := ob h
  obtain ⟨hnv1, hev1⟩ := rm_spec hv1
  refine lv_irem hx hb dL_low_5 hnv1 ?_
  rw [hev1]
  obtain ⟨rfl, rfl⟩ := Prod.mk.inj (sj h)
  exact l_ri X hI hS (by omega) (by omega) dL_low_6
theorem ww_L_low : Cond.static yL_low ∈ BG ∧ Cond.initialized (yL_low).cls ∈ BG ∧ Cond.code yL_low cL_low 2 (some .int) ∈ BG := ⟨w_625, w_55, w_626⟩
theorem hy_L_low : (yL_low).cls ≠ "java/lang/invoke/MethodHandle" ∧ (yL_low).cls ≠ "java/lang/invoke/VarHandle" ∧ (parseMethodDescriptor (yL_low).desc).map (fun d => d.parameters.length) = some 2 := ⟨by decide, by decide, by decide +kernel⟩
def f_L_still_17  (y0 : Int32) (V : lwS) : Option (Int32 × lwS) := some (y0, V)
def f_L_still_12   (V : lwS) : Option (Int32 × lwS) := f_L_still_17 ((2:Int32)) V
def f_L_still (x0 : Int32) (V : lwS) : Option (Int32 × lwS) := if x0 = (10:Int32) then (f_L_still_12 V) else (if x0 = (11:Int32) then (f_L_still_12 V) else (f_L_still_17 (x0) V))
set_option maxRecDepth 20000 in
set_option maxHeartbeats 4000000 in
theorem N_L_still_17 {p : Program} {l : Launch} {e : Env} {s : State} {m : MethodId} {args : Array Value} {below : List Frame} {meth : Method} {c : Code} {D : cD} {b : Nat × Nat}   {y0 : Int32} {V : lwS} {H : Heap} {locs : List Loc} {cells slots : Nat} {ls : Array Slot} {q : Int32 × lwS} (X : lwX p s m args meth c cL_still 1 (some .int) D b) (hl9 : l.stackTraces = false) (hI : lwI D b V H) (hS : va_S (cReg (lwO b)) s.heap H locs) (hBc : cells + (0 + 0) ≤ 0) (hBs : slots + (0 + 0) ≤ 0)  (hl : lv_has ls 1 []) (h : f_L_still_17  y0 V = some q) : W p l e (rA 0 0 0 0) s m args below meth c H locs cells slots (MQ below (lwQ D b q.2 (some (.int q.1))) args s 0 0 (cReg (lwO b))) (F0 m 17 ls [.int y0]) := by
  have hx := X.1.1
  have hb := X.1.2.1
  have hown := X.1.2.2.2.1
  have hts := X.1.2.2.2.2.1
  have h : (some (y0, V)) = some q := h
  obtain rfl := sj h
  exact l_ri X hI hS (by omega) (by omega) dL_still_17
set_option maxRecDepth 20000 in
set_option maxHeartbeats 4000000 in
theorem N_L_still_12 {p : Program} {l : Launch} {e : Env} {s : State} {m : MethodId} {args : Array Value} {below : List Frame} {meth : Method} {c : Code} {D : cD} {b : Nat × Nat}    {V : lwS} {H : Heap} {locs : List Loc} {cells slots : Nat} {ls : Array Slot} {q : Int32 × lwS} (X : lwX p s m args meth c cL_still 1 (some .int) D b) (hl9 : l.stackTraces = false) (hI : lwI D b V H) (hS : va_S (cReg (lwO b)) s.heap H locs) (hBc : cells + (0 + 0) ≤ 0) (hBs : slots + (0 + 0) ≤ 0)  (hl : lv_has ls 1 []) (h : f_L_still_12   V = some q) : W p l e (rA 0 0 0 0) s m args below meth c H locs cells slots (MQ below (lwQ D b q.2 (some (.int q.1))) args s 0 0 (cReg (lwO b))) (F0 m 12 ls []) := by
  have hx := X.1.1
  have hb := X.1.2.1
  have hown := X.1.2.2.2.1
  have hts := X.1.2.2.2.2.1
  have h : (f_L_still_17 ((2:Int32)) V) = some q := h
  refine lv_iconst (v := (2:Int32)) hx hb dL_still_12 (by decide) ?_
  refine lv_goto (tgt := 17) hx hb dL_still_13 rfl ?_
  exact N_L_still_17 X hl9 hI hS (by omega) (by omega) (lv_sub hl [] rfl) h
set_option maxRecDepth 20000 in
set_option maxHeartbeats 4000000 in
theorem K_L_still (l : Launch) (hl9 : l.stackTraces = false) (D : cD) (b : Nat × Nat) (V : lwS) (x0 : Int32) {v : Int32} {V' : lwS} (h : f_L_still x0 V = some (v, V')) : Met l yL_still (Cond.code yL_still cL_still 1 (some .int) :: BG) (rA 0 0 0 0) (lwPc D b V [.int x0]) (lwQ D b V' (some (.int v))) 0 0 (cReg (lwO b)) := by
  refine Met.ofW (cc := cL_still) (maxL := 1) (ret := (some .int)) (by decide) rfl ?_
  intro p e s m args below meth c s₁ B hml hv
  obtain ⟨rfl, hI, hK, hZ, hN⟩ := hv
  have X : lwX p s m [.int x0].toArray meth c cL_still 1 (some .int) D b := lwX_of B hml hK hZ hN rfl
  have hx := X.1.1
  have hb := X.1.2.1
  have hown := X.1.2.2.2.1
  have hts := X.1.2.2.2.2.1
  have hl := lv_entry [.int x0] (n := 1) (by simp only [lgs_r, lgs_i, lgs_l, lgs_0, lgs_x, List.length]; exact Nat.le_of_ble_eq_true rfl)
  rw [lg_entry_eq]
  generalize (lg_sl [.int x0] ++ List.replicate (1 - (lg_sl [.int x0]).length) Slot.unset).toArray = ls at hl ⊢
  simp only [lv_args_r, lv_args_i, lv_args_l, lv_args_0, lv_args_x] at hl
  have hl : lv_has ls 1 [(0, .int x0)] := hl
  have hS : va_S (cReg (lwO b)) s.heap s.heap [] := va_S.rf
  show W p l e (rA 0 0 0 0) s m [.int x0].toArray below meth c s.heap [] 0 0 (MQ below (lwQ D b V' (some (.int v))) [.int x0].toArray s 0 0 (cReg (lwO b))) (F0 m 0 ls [])
  have h : (if x0 = (10:Int32) then (f_L_still_12 V) else (if x0 = (11:Int32) then (f_L_still_12 V) else (f_L_still_17 (x0) V))) = some (v, V') := h
  refine lv_iload_n hx hb dL_still_0 rfl (lv_at hl 0 rfl) ?_
  refine lv_bipush (v := (10:Int32)) hx hb dL_still_1 (by decide) ?_
  refine lv_icmp_eq (tgt := 12) hx hb dL_still_3 rfl (fun hc => ?_) (fun hc => ?_)
  · have h := ip hc h
    exact N_L_still_12 X hl9 hI hS (by omega) (by omega) (lv_sub hl [] rfl) h
  · have h := ine hc h
    refine lv_iload_n hx hb dL_still_6 rfl (lv_at hl 0 rfl) ?_
    refine lv_bipush (v := (11:Int32)) hx hb dL_still_7 (by decide) ?_
    refine lv_icmp_ne (tgt := 16) hx hb dL_still_9 rfl (fun hc => ?_) (fun hc => ?_)
    · have h := ine hc h
      refine lv_iload_n hx hb dL_still_16 rfl (lv_at hl 0 rfl) ?_
      exact N_L_still_17 X hl9 hI hS (by omega) (by omega) (lv_sub hl [] rfl) h
    · have h := ip hc h
      exact N_L_still_12 X hl9 hI hS (by omega) (by omega) (lv_sub hl [] rfl) h
theorem ww_L_still : Cond.static yL_still ∈ BG ∧ Cond.initialized (yL_still).cls ∈ BG ∧ Cond.code yL_still cL_still 1 (some .int) ∈ BG := ⟨w_1341, w_55, w_1342⟩
theorem hy_L_still : (yL_still).cls ≠ "java/lang/invoke/MethodHandle" ∧ (yL_still).cls ≠ "java/lang/invoke/VarHandle" ∧ (parseMethodDescriptor (yL_still).desc).map (fun d => d.parameters.length) = some 1 := ⟨by decide, by decide, by decide +kernel⟩
def f_L_make (x1 : Nat) (x2 : Int32) (V : lwS) : Option (Int32 × lwS) := (ldA V x1 (0:Int32)).bind (fun v1 => if v1 = (12:Int32) then (some (((-9):Int32), V)) else ((ldA V x1 (0:Int32)).bind (fun v2 => (stA V x1 (0:Int32) (v2 + (1:Int32))).bind (fun v3 => (oC (f_make (x2)) v3).bind (fun v4 => some (v4.1, v4.2))))))
set_option maxRecDepth 20000 in
set_option maxHeartbeats 4000000 in
theorem K_L_make (l : Launch) (hl9 : l.stackTraces = false) (D : cD) (b : Nat × Nat) (V : lwS) (x1 : Nat) (x2 : Int32) {v : Int32} {V' : lwS} (h : f_L_make x1 x2 V = some (v, V')) : Met l yL_make (Cond.code yL_make cL_make 3 (some .int) :: BG) (rA 8 13 151 131) (lwPc D b V [cv (lwO b) (some 1), .ref x1, .int x2]) (lwQ D b V' (some (.int v))) 13 151 (cReg (lwO b)) := by
  refine Met.ofW (cc := cL_make) (maxL := 3) (ret := (some .int)) (by decide) rfl ?_
  intro p e s m args below meth c s₁ B hml hv
  obtain ⟨rfl, hI, hK, hZ, hN⟩ := hv
  have X : lwX p s m [cv (lwO b) (some 1), .ref x1, .int x2].toArray meth c cL_make 3 (some .int) D b := lwX_of B hml hK hZ hN rfl
  have hx := X.1.1
  have hb := X.1.2.1
  have hown := X.1.2.2.2.1
  have hts := X.1.2.2.2.2.1
  have hl := lv_entry [cv (lwO b) (some 1), .ref x1, .int x2] (n := 3) (by simp only [lgs_r, lgs_i, lgs_l, lgs_0, lgs_x, List.length]; exact Nat.le_of_ble_eq_true rfl)
  rw [lg_entry_eq]
  generalize (lg_sl [cv (lwO b) (some 1), .ref x1, .int x2] ++ List.replicate (3 - (lg_sl [cv (lwO b) (some 1), .ref x1, .int x2]).length) Slot.unset).toArray = ls at hl ⊢
  simp only [lv_args_r, lv_args_i, lv_args_l, lv_args_0, lv_args_x] at hl
  have hl : lv_has ls 3 [(0, cv (lwO b) (some 1)), (1, .ref x1), (2, .int x2)] := hl
  have hS : va_S (cReg (lwO b)) s.heap s.heap [] := va_S.rf
  show W p l e (rA 8 13 151 131) s m [cv (lwO b) (some 1), .ref x1, .int x2].toArray below meth c s.heap [] 0 0 (MQ below (lwQ D b V' (some (.int v))) [cv (lwO b) (some 1), .ref x1, .int x2].toArray s 13 151 (cReg (lwO b))) (F0 m 0 ls [])
  have h : ((ldA V x1 (0:Int32)).bind (fun v1 => if v1 = (12:Int32) then (some (((-9):Int32), V)) else ((ldA V x1 (0:Int32)).bind (fun v2 => (stA V x1 (0:Int32) (v2 + (1:Int32))).bind (fun v3 => (oC (f_make (x2)) v3).bind (fun v4 => some (v4.1, v4.2))))))) = some (v, V') := h
  refine lv_aload_n hx hb dL_make_0 rfl (lv_at hl 1 rfl) ?_
  refine lv_iconst (v := (0:Int32)) hx hb dL_make_1 (by decide) ?_
  obtain ⟨v1, hv1, h⟩ := ob h
  refine l_ald X hI hv1 dL_make_2 ?_
  refine lv_bipush (v := (12:Int32)) hx hb dL_make_3 (by decide) ?_
  refine lv_icmp_ne (tgt := 11) hx hb dL_make_5 rfl (fun hc => ?_) (fun hc => ?_)
  · have h := ine hc h
    refine lv_aload_n hx hb dL_make_11 rfl (lv_at hl 1 rfl) ?_
    refine lv_iconst (v := (0:Int32)) hx hb dL_make_12 (by decide) ?_
    refine lv_dup2_11 hx hb dL_make_13 rfl rfl ?_
    obtain ⟨v2, hv2, h⟩ := ob h
    refine l_ald X hI hv2 dL_make_14 ?_
    refine lv_iconst (v := (1:Int32)) hx hb dL_make_15 (by decide) ?_
    refine lv_iadd hx hb dL_make_16 ?_
    obtain ⟨v3, hv3, h⟩ := ob h
    refine l_ast X hI hS hv3 dL_make_17 (fun H locs hI hS => ?_)
    refine c_aload_n hx hb dL_make_18 rfl (lv_at hl 0 rfl) ?_
    refine lv_iload_n hx hb dL_make_19 rfl (lv_at hl 2 rfl) ?_
    obtain ⟨v4, hv4, h⟩ := ob h
    refine l_cls (V := v3) (V' := v4.2) (f := f_X11_make 1 (x2)) X hI hS (fun S q hq => K_X11_make l hl9 D (lwF b (v3).2.2) S 1 (x2) hq) (D_make hv4).2 (D_make hv4).1 ⟨w_631, ww_X11_make⟩ rfl hy_X11_make rfl ⟨(Nat.le_of_ble_eq_true rfl), (Nat.le_of_ble_eq_true rfl)⟩ hl.1 (Nat.le_of_ble_eq_true rfl) dL_make_20 rfl ⟨by omega, by omega⟩ (fun u H locs hu hI hS => ?_)
    subst hu
    refine W.eq (g2 := F0 m 23 ls [.int v4.1]) rfl ?_
    obtain ⟨rfl, rfl⟩ := Prod.mk.inj (sj h)
    exact l_ri X hI hS (by omega) (by omega) dL_make_23
  · have h := ip hc h
    refine lv_bipush (v := ((-9):Int32)) hx hb dL_make_8 (by decide) ?_
    obtain ⟨rfl, rfl⟩ := Prod.mk.inj (sj h)
    exact l_ri X hI hS (by omega) (by omega) dL_make_10
theorem ww_L_make : Cond.static yL_make ∈ BG ∧ Cond.initialized (yL_make).cls ∈ BG ∧ Cond.code yL_make cL_make 3 (some .int) ∈ BG := ⟨w_629, w_55, w_630⟩
theorem hy_L_make : (yL_make).cls ≠ "java/lang/invoke/MethodHandle" ∧ (yL_make).cls ≠ "java/lang/invoke/VarHandle" ∧ (parseMethodDescriptor (yL_make).desc).map (fun d => d.parameters.length) = some 3 := ⟨by decide, by decide, by decide +kernel⟩
def f_L_same_2  : Nat → Nat → Nat → Int32 → lwS → Option (Int32 × lwS)
  | 0, _, _, _, _ => none
  | n + 1, x0, x1, x2, V => if (64:Int32) ≤ x2 then (zret (1:Int32) V) else ((ldA V x0 x2).bind (fun v1 => (ldA V x1 x2).bind (fun v2 => if v1 = v2 then (f_L_same_2 n (x0) (x1) ((x2 + (1:Int32))) V) else (zret (0:Int32) V))))
def f_L_same (x0 : Nat) (x1 : Nat) (V : lwS) : Option (Int32 × lwS) := f_L_same_2 65 (x0) (x1) ((0:Int32)) V
set_option maxRecDepth 20000 in
set_option maxHeartbeats 4000000 in
theorem N_L_same_2 {p : Program} {l : Launch} {e : Env} {s : State} {m : MethodId} {args : Array Value} {below : List Frame} {meth : Method} {c : Code} {D : cD} {b : Nat × Nat}  {n : Nat} {x0 : Nat} {x1 : Nat} {x2 : Int32} {V : lwS} {H : Heap} {locs : List Loc} {cells slots : Nat} {ls : Array Slot} {q : Int32 × lwS} (X : lwX p s m args meth c cL_same 3 (some .boolean) D b) (hl9 : l.stackTraces = false) (hI : lwI D b V H) (hS : va_S (cReg (lwO b)) s.heap H locs) (hBc : cells + (n * 0 + 0 + 0) ≤ 0) (hBs : slots + (n * 0 + 0 + 0) ≤ 0)  (hl : lv_has ls 3 [(0, .ref x0), (1, .ref x1), (2, .int x2)]) (h : f_L_same_2  n x0 x1 x2 V = some q) : W p l e (rA 0 0 0 0) s m args below meth c H locs cells slots (MQ below (lwQ D b q.2 (some (.int q.1))) args s 0 0 (cReg (lwO b))) (F0 m 2 ls []) := by
  have hx := X.1.1
  have hb := X.1.2.1
  have hown := X.1.2.2.2.1
  have hts := X.1.2.2.2.2.1
  induction n generalizing x0 x1 x2 V H locs cells slots ls with
  | zero => exact absurd (show none = some q from h) (by simp)
  | succ n ih =>
    have h : (if (64:Int32) ≤ x2 then (zret (1:Int32) V) else ((ldA V x0 x2).bind (fun v1 => (ldA V x1 x2).bind (fun v2 => if v1 = v2 then (f_L_same_2 n (x0) (x1) ((x2 + (1:Int32))) V) else (zret (0:Int32) V))))) = some q := h
    refine lv_iload_n hx hb dL_same_2 rfl (lv_at hl 2 rfl) ?_
    refine lv_bipush (v := (64:Int32)) hx hb dL_same_3 (by decide) ?_
    refine lv_icmp_ge (tgt := 25) hx hb dL_same_5 rfl (fun hc => ?_) (fun hc => ?_)
    · have h := ip hc h
      refine lv_iconst (v := (1:Int32)) hx hb dL_same_25 (by decide) ?_
      obtain ⟨hz, hq⟩ := zret_spec h
      subst hq
      exact l_rz hz X hI hS (by omega) (by omega) dL_same_26
    · have h := ine hc h
      refine lv_aload_n hx hb dL_same_8 rfl (lv_at hl 0 rfl) ?_
      refine lv_iload_n hx hb dL_same_9 rfl (lv_at hl 2 rfl) ?_
      obtain ⟨v1, hv1, h⟩ := ob h
      refine l_ald X hI hv1 dL_same_10 ?_
      refine lv_aload_n hx hb dL_same_11 rfl (lv_at hl 1 rfl) ?_
      refine lv_iload_n hx hb dL_same_12 rfl (lv_at hl 2 rfl) ?_
      obtain ⟨v2, hv2, h⟩ := ob h
      refine l_ald X hI hv2 dL_same_13 ?_
      refine lv_icmp_eq (tgt := 19) hx hb dL_same_14 rfl (fun hc => ?_) (fun hc => ?_)
      · have h := ip hc h
        refine c_iinc (v := (x2 + (1:Int32))) hx hb dL_same_19 hl (k := 2) rfl rfl (Nat.le_of_ble_eq_true rfl) (lvKa rfl (lvKx (lvKa rfl lvK0))) rfl (fun ls (hl : lv_has ls 3 [(2, .int (x2 + (1:Int32))), (0, .ref x0), (1, .ref x1)]) => ?_)
        refine lv_goto (tgt := 2) hx hb dL_same_22 rfl ?_
        exact ih hI hS (by omega) (by omega) (lv_sub hl [1, 2, 0] rfl) h
      · have h := ine hc h
        refine lv_iconst (v := (0:Int32)) hx hb dL_same_17 (by decide) ?_
        obtain ⟨hz, hq⟩ := zret_spec h
        subst hq
        exact l_rz hz X hI hS (by omega) (by omega) dL_same_18
set_option maxRecDepth 20000 in
set_option maxHeartbeats 4000000 in
theorem K_L_same (l : Launch) (hl9 : l.stackTraces = false) (D : cD) (b : Nat × Nat) (V : lwS) (x0 : Nat) (x1 : Nat) {v : Int32} {V' : lwS} (h : f_L_same x0 x1 V = some (v, V')) : Met l yL_same (Cond.code yL_same cL_same 3 (some .boolean) :: BG) (rA 0 0 0 0) (lwPc D b V [.ref x0, .ref x1]) (lwQ D b V' (some (.int v))) 0 0 (cReg (lwO b)) := by
  refine Met.ofW (cc := cL_same) (maxL := 3) (ret := (some .boolean)) (by decide) rfl ?_
  intro p e s m args below meth c s₁ B hml hv
  obtain ⟨rfl, hI, hK, hZ, hN⟩ := hv
  have X : lwX p s m [.ref x0, .ref x1].toArray meth c cL_same 3 (some .boolean) D b := lwX_of B hml hK hZ hN rfl
  have hx := X.1.1
  have hb := X.1.2.1
  have hown := X.1.2.2.2.1
  have hts := X.1.2.2.2.2.1
  have hl := lv_entry [.ref x0, .ref x1] (n := 3) (by simp only [lgs_r, lgs_i, lgs_l, lgs_0, lgs_x, List.length]; exact Nat.le_of_ble_eq_true rfl)
  rw [lg_entry_eq]
  generalize (lg_sl [.ref x0, .ref x1] ++ List.replicate (3 - (lg_sl [.ref x0, .ref x1]).length) Slot.unset).toArray = ls at hl ⊢
  simp only [lv_args_r, lv_args_i, lv_args_l, lv_args_0, lv_args_x] at hl
  have hl : lv_has ls 3 [(0, .ref x0), (1, .ref x1)] := hl
  have hS : va_S (cReg (lwO b)) s.heap s.heap [] := va_S.rf
  show W p l e (rA 0 0 0 0) s m [.ref x0, .ref x1].toArray below meth c s.heap [] 0 0 (MQ below (lwQ D b V' (some (.int v))) [.ref x0, .ref x1].toArray s 0 0 (cReg (lwO b))) (F0 m 0 ls [])
  have h : (f_L_same_2 65 (x0) (x1) ((0:Int32)) V) = some (v, V') := h
  refine lv_iconst (v := (0:Int32)) hx hb dL_same_0 (by decide) ?_
  refine c_istore_n hx hb dL_same_1 rfl hl (Nat.le_of_ble_eq_true rfl) (lvKa rfl (lvKx lvK0)) rfl (fun ls (hl : lv_has ls 3 [(2, .int (0:Int32)), (0, .ref x0), (1, .ref x1)]) => ?_)
  exact N_L_same_2 X hl9 hI hS (by omega) (by omega) (lv_sub hl [1, 2, 0] rfl) h
theorem ww_L_same : Cond.static yL_same ∈ BG ∧ Cond.initialized (yL_same).cls ∈ BG ∧ Cond.code yL_same cL_same 3 (some .boolean) ∈ BG := ⟨w_1162, w_55, w_1163⟩
theorem hy_L_same : (yL_same).cls ≠ "java/lang/invoke/MethodHandle" ∧ (yL_same).cls ≠ "java/lang/invoke/VarHandle" ∧ (parseMethodDescriptor (yL_same).desc).map (fun d => d.parameters.length) = some 2 := ⟨by decide, by decide, by decide +kernel⟩
def f_L_tell_94  : Nat → Nat → Nat → Int32 → lwS → Option (Nat × lwS)
  | 0, _, _, _, _ => none
  | n + 1, x1, x2, x3, V => (ldA V x1 (1:Int32)).bind (fun v1 => if v1 ≤ x3 then ((f_marked (V).1).bind (fun v2 => (stA V x2 (60:Int32) v2).bind (fun v3 => (some ((v3).1.2 51)).bind (fun v4 => (stA v3 x2 (61:Int32) v4).bind (fun v5 => (some ((v5).1.2 52)).bind (fun v6 => (stA v5 x2 (62:Int32) v6).bind (fun v7 => (some ((v7).1.2 53)).bind (fun v8 => (stA v7 x2 (63:Int32) v8).bind (fun v9 => some (x2, v9)))))))))) else ((oC (f_allThat (x3) (((-1):Int32))) V).bind (fun v10 => (stA v10.2 x2 ((36:Int32) + x3) v10.1).bind (fun v11 => (oC (f_weight (x3)) v11).bind (fun v12 => (stA v12.2 x2 ((44:Int32) + x3) v12.1).bind (fun v13 => f_L_tell_94 n (x1) (x2) ((x3 + (1:Int32))) v13))))))
def f_L_tell_85 (k7 : Nat → Nat → Int32 → lwS → Option (Nat × lwS)) (x1 : Nat) (x2 : Nat) (x3 : Int32) (y0 : Nat) (y1 : Int32) (y2 : Int32) (V : lwS) : Option (Nat × lwS) := (stA V y0 y1 y2).bind (fun v1 => k7 (x1) (x2) ((x3 + (1:Int32))) v1)
def f_L_tell_61 (k7 : Nat → Nat → Int32 → lwS → Option (Nat × lwS)) (x1 : Nat) (x2 : Nat) (x3 : Int32) (y0 : Nat) (y1 : Int32) (y2 : Int32) (V : lwS) : Option (Nat × lwS) := (stA V y0 y1 y2).bind (fun v1 => (oZ (f_isIn (x3)) v1).bind (fun v2 => if v2.1 = (0:Int32) then (f_L_tell_85 k7 (x1) (x2) (x3) (x2) (((24:Int32) + x3)) ((0:Int32)) v2.2) else ((oC (f_valueAnew (x3) ((2:Int32))) v2.2).bind (fun v3 => f_L_tell_85 k7 (x1) (x2) (x3) (x2) (((24:Int32) + x3)) (v3.1) v3.2))))
def f_L_tell_36 (k7 : Nat → Nat → Int32 → lwS → Option (Nat × lwS)) (x1 : Nat) (x2 : Nat) (x3 : Int32) (y0 : Nat) (y1 : Int32) (y2 : Int32) (y3 : Int32) (V : lwS) : Option (Nat × lwS) := (stA V y0 y1 (y2 + y3)).bind (fun v1 => (oZ (f_isIn (x3)) v1).bind (fun v2 => if v2.1 = (0:Int32) then (f_L_tell_61 k7 (x1) (x2) (x3) (x2) (((12:Int32) + x3)) ((0:Int32)) v2.2) else ((oC (f_valueAnew (x3) ((1:Int32))) v2.2).bind (fun v3 => f_L_tell_61 k7 (x1) (x2) (x3) (x2) (((12:Int32) + x3)) (v3.1) v3.2))))
def f_L_tell_7  : Nat → Nat → Nat → Int32 → lwS → Option (Nat × lwS)
  | 0, _, _, _, _ => none
  | n + 1, x1, x2, x3, V => (ldA V x1 (0:Int32)).bind (fun v1 => if v1 ≤ x3 then (f_L_tell_94 9 (x1) (x2) ((0:Int32)) V) else ((oC (f_shownParent (x3)) V).bind (fun v2 => (oZ (f_isIn (x3)) v2.2).bind (fun v3 => if v3.1 = (0:Int32) then (f_L_tell_36 (f_L_tell_7 n) (x1) (x2) (x3) (x2) (x3) (((2:Int32) * v2.1)) ((0:Int32)) v3.2) else (f_L_tell_36 (f_L_tell_7 n) (x1) (x2) (x3) (x2) (x3) (((2:Int32) * v2.1)) ((1:Int32)) v3.2)))))
def f_L_tell (x1 : Nat) (xa : Nat) (V : lwS) : Option (Nat × lwS) := f_L_tell_7 13 (x1) (xa) ((0:Int32)) (nwA V xa 64)
set_option maxRecDepth 20000 in
set_option maxHeartbeats 4000000 in
theorem N_L_tell_94 {p : Program} {l : Launch} {e : Env} {s : State} {m : MethodId} {args : Array Value} {below : List Frame} {meth : Method} {c : Code} {D : cD} {b : Nat × Nat}  {n : Nat} {x1 : Nat} {x2 : Nat} {x3 : Int32} {V : lwS} {H : Heap} {locs : List Loc} {cells slots : Nat} {ls : Array Slot} {q : Nat × lwS} (X : lwX p s m args meth c cL_tell 4 (some (.array .int)) D b) (hl9 : l.stackTraces = false) (hI : lwI D b V H) (hS : va_S (cReg (lwO b)) s.heap H locs) (hBc : cells + (n * 3 + 3 + 0) ≤ 161) (hBs : slots + (n * 18 + 18 + 0) ≤ 1024)  (hl : lv_has ls 4 [(0, cv (lwO b) (some 1)), (1, .ref x1), (2, .ref x2), (3, .int x3)]) (h : f_L_tell_94  n x1 x2 x3 V = some q) : W p l e (rA 8 161 1024 178) s m args below meth c H locs cells slots (MQ below (lwQ D b q.2 (some (.ref q.1))) args s 161 1024 (cReg (lwO b))) (F0 m 94 ls []) := by
  have hx := X.1.1
  have hb := X.1.2.1
  have hown := X.1.2.2.2.1
  have hts := X.1.2.2.2.2.1
  induction n generalizing x1 x2 x3 V H locs cells slots ls with
  | zero => exact absurd (show none = some q from h) (by simp)
  | succ n ih =>
    have h : ((ldA V x1 (1:Int32)).bind (fun v1 => if v1 ≤ x3 then ((f_marked (V).1).bind (fun v2 => (stA V x2 (60:Int32) v2).bind (fun v3 => (some ((v3).1.2 51)).bind (fun v4 => (stA v3 x2 (61:Int32) v4).bind (fun v5 => (some ((v5).1.2 52)).bind (fun v6 => (stA v5 x2 (62:Int32) v6).bind (fun v7 => (some ((v7).1.2 53)).bind (fun v8 => (stA v7 x2 (63:Int32) v8).bind (fun v9 => some (x2, v9)))))))))) else ((oC (f_allThat (x3) (((-1):Int32))) V).bind (fun v10 => (stA v10.2 x2 ((36:Int32) + x3) v10.1).bind (fun v11 => (oC (f_weight (x3)) v11).bind (fun v12 => (stA v12.2 x2 ((44:Int32) + x3) v12.1).bind (fun v13 => f_L_tell_94 n (x1) (x2) ((x3 + (1:Int32))) v13))))))) = some q := h
    refine lv_iload_n hx hb dL_tell_94 rfl (lv_at hl 3 rfl) ?_
    refine lv_aload_n hx hb dL_tell_95 rfl (lv_at hl 1 rfl) ?_
    refine lv_iconst (v := (1:Int32)) hx hb dL_tell_96 (by decide) ?_
    obtain ⟨v1, hv1, h⟩ := ob h
    refine l_ald X hI hv1 dL_tell_97 ?_
    refine lv_icmp_ge (tgt := 130) hx hb dL_tell_98 rfl (fun hc => ?_) (fun hc => ?_)
    · have h := ip hc h
      refine lv_aload_n hx hb dL_tell_130 rfl (lv_at hl 2 rfl) ?_
      refine lv_bipush (v := (60:Int32)) hx hb dL_tell_131 (by decide) ?_
      refine c_aload_n hx hb dL_tell_133 rfl (lv_at hl 0 rfl) ?_
      obtain ⟨v2, hv2, h⟩ := ob h
      refine l_clr (V := V) (v := v2) (f := f_X11_marked 1) X hI hS (fun S r hr => K_X11_marked l D (lwF b (V).2.2) S 1 hr) (fun S hS => D_marked hS hv2) ⟨w_1145, ww_X11_marked⟩ rfl hy_X11_marked rfl ⟨(Nat.le_of_ble_eq_true rfl), (Nat.le_of_ble_eq_true rfl)⟩ hl.1 (Nat.le_of_ble_eq_true rfl) dL_tell_134 rfl ⟨by omega, by omega⟩ ?_
      obtain ⟨v3, hv3, h⟩ := ob h
      refine l_ast X hI hS hv3 dL_tell_137 (fun H locs hI hS => ?_)
      refine lv_aload_n hx hb dL_tell_138 rfl (lv_at hl 2 rfl) ?_
      refine lv_bipush (v := (61:Int32)) hx hb dL_tell_139 (by decide) ?_
      refine c_aload_n hx hb dL_tell_141 rfl (lv_at hl 0 rfl) ?_
      obtain ⟨v4, hv4, h⟩ := ob h
      refine l_clr (V := v3) (v := v4) (f := f_X11_flushes 1) X hI hS (fun S r hr => K_X11_flushes l D (lwF b (v3).2.2) S 1 hr) (fun S hS => D_flushes hS hv4) ⟨w_1149, ww_X11_flushes⟩ rfl hy_X11_flushes rfl ⟨(Nat.le_of_ble_eq_true rfl), (Nat.le_of_ble_eq_true rfl)⟩ hl.1 (Nat.le_of_ble_eq_true rfl) dL_tell_142 rfl ⟨by omega, by omega⟩ ?_
      obtain ⟨v5, hv5, h⟩ := ob h
      refine l_ast X hI hS hv5 dL_tell_145 (fun H locs hI hS => ?_)
      refine lv_aload_n hx hb dL_tell_146 rfl (lv_at hl 2 rfl) ?_
      refine lv_bipush (v := (62:Int32)) hx hb dL_tell_147 (by decide) ?_
      refine c_aload_n hx hb dL_tell_149 rfl (lv_at hl 0 rfl) ?_
      obtain ⟨v6, hv6, h⟩ := ob h
      refine l_clr (V := v5) (v := v6) (f := f_X11_restyled 1) X hI hS (fun S r hr => K_X11_restyled l D (lwF b (v5).2.2) S 1 hr) (fun S hS => D_restyled hS hv6) ⟨w_1153, ww_X11_restyled⟩ rfl hy_X11_restyled rfl ⟨(Nat.le_of_ble_eq_true rfl), (Nat.le_of_ble_eq_true rfl)⟩ hl.1 (Nat.le_of_ble_eq_true rfl) dL_tell_150 rfl ⟨by omega, by omega⟩ ?_
      obtain ⟨v7, hv7, h⟩ := ob h
      refine l_ast X hI hS hv7 dL_tell_153 (fun H locs hI hS => ?_)
      refine lv_aload_n hx hb dL_tell_154 rfl (lv_at hl 2 rfl) ?_
      refine lv_bipush (v := (63:Int32)) hx hb dL_tell_155 (by decide) ?_
      refine c_aload_n hx hb dL_tell_157 rfl (lv_at hl 0 rfl) ?_
      obtain ⟨v8, hv8, h⟩ := ob h
      refine l_clr (V := v7) (v := v8) (f := f_X11_shared 1) X hI hS (fun S r hr => K_X11_shared l D (lwF b (v7).2.2) S 1 hr) (fun S hS => D_shared hS hv8) ⟨w_1157, ww_X11_shared⟩ rfl hy_X11_shared rfl ⟨(Nat.le_of_ble_eq_true rfl), (Nat.le_of_ble_eq_true rfl)⟩ hl.1 (Nat.le_of_ble_eq_true rfl) dL_tell_158 rfl ⟨by omega, by omega⟩ ?_
      obtain ⟨v9, hv9, h⟩ := ob h
      refine l_ast X hI hS hv9 dL_tell_161 (fun H locs hI hS => ?_)
      refine lv_aload_n hx hb dL_tell_162 rfl (lv_at hl 2 rfl) ?_
      obtain rfl := sj h
      exact l_ra X hI hS (by omega) (by omega) dL_tell_163
    · have h := ine hc h
      refine lv_aload_n hx hb dL_tell_101 rfl (lv_at hl 2 rfl) ?_
      refine lv_bipush (v := (36:Int32)) hx hb dL_tell_102 (by decide) ?_
      refine lv_iload_n hx hb dL_tell_104 rfl (lv_at hl 3 rfl) ?_
      refine lv_iadd hx hb dL_tell_105 ?_
      refine c_aload_n hx hb dL_tell_106 rfl (lv_at hl 0 rfl) ?_
      refine lv_iload_n hx hb dL_tell_107 rfl (lv_at hl 3 rfl) ?_
      refine lv_iconst (v := ((-1):Int32)) hx hb dL_tell_108 (by decide) ?_
      obtain ⟨v10, hv10, h⟩ := ob h
      refine l_cls (V := V) (V' := v10.2) (f := f_X11_allThat 1 (x3) (((-1):Int32))) X hI hS (fun S q hq => K_X11_allThat l hl9 D (lwF b (V).2.2) S 1 (x3) (((-1):Int32)) hq) (D_allThat hv10).2 (D_allThat hv10).1 ⟨w_1128, ww_X11_allThat⟩ rfl hy_X11_allThat rfl ⟨(Nat.le_of_ble_eq_true rfl), (Nat.le_of_ble_eq_true rfl)⟩ hl.1 (Nat.le_of_ble_eq_true rfl) dL_tell_109 rfl ⟨by omega, by omega⟩ (fun u H locs hu hI hS => ?_)
      subst hu
      refine W.eq (g2 := F0 m 112 ls [.int v10.1, .int ((36:Int32) + x3), .ref x2]) rfl ?_
      obtain ⟨v11, hv11, h⟩ := ob h
      refine l_ast X hI hS hv11 dL_tell_112 (fun H locs hI hS => ?_)
      refine lv_aload_n hx hb dL_tell_113 rfl (lv_at hl 2 rfl) ?_
      refine lv_bipush (v := (44:Int32)) hx hb dL_tell_114 (by decide) ?_
      refine lv_iload_n hx hb dL_tell_116 rfl (lv_at hl 3 rfl) ?_
      refine lv_iadd hx hb dL_tell_117 ?_
      refine c_aload_n hx hb dL_tell_118 rfl (lv_at hl 0 rfl) ?_
      refine lv_iload_n hx hb dL_tell_119 rfl (lv_at hl 3 rfl) ?_
      obtain ⟨v12, hv12, h⟩ := ob h
      refine l_cls (V := v11) (V' := v12.2) (f := f_X11_weight 1 (x3)) X hI hS (fun S q hq => K_X11_weight l hl9 D (lwF b (v11).2.2) S 1 (x3) hq) (D_weight hv12).2 (D_weight hv12).1 ⟨w_1141, ww_X11_weight⟩ rfl hy_X11_weight rfl ⟨(Nat.le_of_ble_eq_true rfl), (Nat.le_of_ble_eq_true rfl)⟩ hl.1 (Nat.le_of_ble_eq_true rfl) dL_tell_120 rfl ⟨by omega, by omega⟩ (fun u H locs hu hI hS => ?_)
      subst hu
      refine W.eq (g2 := F0 m 123 ls [.int v12.1, .int ((44:Int32) + x3), .ref x2]) rfl ?_
      obtain ⟨v13, hv13, h⟩ := ob h
      refine l_ast X hI hS hv13 dL_tell_123 (fun H locs hI hS => ?_)
      refine c_iinc (v := (x3 + (1:Int32))) hx hb dL_tell_124 hl (k := 3) rfl rfl (Nat.le_of_ble_eq_true rfl) (lvKa rfl (lvKa rfl (lvKx (lvKa rfl lvK0)))) rfl (fun ls (hl : lv_has ls 4 [(3, .int (x3 + (1:Int32))), (0, cv (lwO b) (some 1)), (1, .ref x1), (2, .ref x2)]) => ?_)
      refine lv_goto (tgt := 94) hx hb dL_tell_127 rfl ?_
      exact ih hI hS (by omega) (by omega) (lv_sub hl [1, 2, 3, 0] rfl) h
set_option maxRecDepth 20000 in
set_option maxHeartbeats 4000000 in
theorem N_L_tell_85 {p : Program} {l : Launch} {e : Env} {s : State} {m : MethodId} {args : Array Value} {below : List Frame} {meth : Method} {c : Code} {D : cD} {b : Nat × Nat} {k7 : Nat → Nat → Int32 → lwS → Option (Nat × lwS)}  {r7 t7 : Nat} {x1 : Nat} {x2 : Nat} {x3 : Int32} {y0 : Nat} {y1 : Int32} {y2 : Int32} {V : lwS} {H : Heap} {locs : List Loc} {cells slots : Nat} {ls : Array Slot} {q : Nat × lwS} (X : lwX p s m args meth c cL_tell 4 (some (.array .int)) D b) (hl9 : l.stackTraces = false) (hI : lwI D b V H) (hS : va_S (cReg (lwO b)) s.heap H locs) (hBc : cells + (0 + r7) ≤ 161) (hBs : slots + (0 + t7) ≤ 1024) (hk7 : ∀ {x1 : Nat} {x2 : Nat} {x3 : Int32} {V : lwS} {H : Heap} {locs : List Loc} {cells slots : Nat} {ls : Array Slot}, lwI D b V H → va_S (cReg (lwO b)) s.heap H locs → cells + r7 ≤ 161 → slots + t7 ≤ 1024 → lv_has ls 4 [(0, cv (lwO b) (some 1)), (1, .ref x1), (2, .ref x2), (3, .int x3)] → k7 x1 x2 x3 V = some q → W p l e (rA 8 161 1024 178) s m args below meth c H locs cells slots (MQ below (lwQ D b q.2 (some (.ref q.1))) args s 161 1024 (cReg (lwO b))) (F0 m 7 ls [])) (hl : lv_has ls 4 [(0, cv (lwO b) (some 1)), (1, .ref x1), (2, .ref x2), (3, .int x3)]) (h : f_L_tell_85 k7 x1 x2 x3 y0 y1 y2 V = some q) : W p l e (rA 8 161 1024 178) s m args below meth c H locs cells slots (MQ below (lwQ D b q.2 (some (.ref q.1))) args s 161 1024 (cReg (lwO b))) (F0 m 85 ls [.int y2, .int y1, .ref y0]) := by
  have hx := X.1.1
  have hb := X.1.2.1
  have hown := X.1.2.2.2.1
  have hts := X.1.2.2.2.2.1
  have h : ((stA V y0 y1 y2).bind (fun v1 => k7 (x1) (x2) ((x3 + (1:Int32))) v1)) = some q := h
  obtain ⟨v1, hv1, h⟩ := ob h
  refine l_ast X hI hS hv1 dL_tell_85 (fun H locs hI hS => ?_)
  refine c_iinc (v := (x3 + (1:Int32))) hx hb dL_tell_86 hl (k := 3) rfl rfl (Nat.le_of_ble_eq_true rfl) (lvKa rfl (lvKa rfl (lvKx (lvKa rfl lvK0)))) rfl (fun ls (hl : lv_has ls 4 [(3, .int (x3 + (1:Int32))), (0, cv (lwO b) (some 1)), (1, .ref x1), (2, .ref x2)]) => ?_)
  refine lv_goto (tgt := 7) hx hb dL_tell_89 rfl ?_
  exact hk7 hI hS (by omega) (by omega) (lv_sub hl [1, 2, 3, 0] rfl) h
set_option maxRecDepth 20000 in
set_option maxHeartbeats 4000000 in
theorem N_L_tell_61 {p : Program} {l : Launch} {e : Env} {s : State} {m : MethodId} {args : Array Value} {below : List Frame} {meth : Method} {c : Code} {D : cD} {b : Nat × Nat} {k7 : Nat → Nat → Int32 → lwS → Option (Nat × lwS)}  {r7 t7 : Nat} {x1 : Nat} {x2 : Nat} {x3 : Int32} {y0 : Nat} {y1 : Int32} {y2 : Int32} {V : lwS} {H : Heap} {locs : List Loc} {cells slots : Nat} {ls : Array Slot} {q : Nat × lwS} (X : lwX p s m args meth c cL_tell 4 (some (.array .int)) D b) (hl9 : l.stackTraces = false) (hI : lwI D b V H) (hS : va_S (cReg (lwO b)) s.heap H locs) (hBc : cells + (4 + r7) ≤ 161) (hBs : slots + (24 + t7) ≤ 1024) (hk7 : ∀ {x1 : Nat} {x2 : Nat} {x3 : Int32} {V : lwS} {H : Heap} {locs : List Loc} {cells slots : Nat} {ls : Array Slot}, lwI D b V H → va_S (cReg (lwO b)) s.heap H locs → cells + r7 ≤ 161 → slots + t7 ≤ 1024 → lv_has ls 4 [(0, cv (lwO b) (some 1)), (1, .ref x1), (2, .ref x2), (3, .int x3)] → k7 x1 x2 x3 V = some q → W p l e (rA 8 161 1024 178) s m args below meth c H locs cells slots (MQ below (lwQ D b q.2 (some (.ref q.1))) args s 161 1024 (cReg (lwO b))) (F0 m 7 ls [])) (hl : lv_has ls 4 [(0, cv (lwO b) (some 1)), (1, .ref x1), (2, .ref x2), (3, .int x3)]) (h : f_L_tell_61 k7 x1 x2 x3 y0 y1 y2 V = some q) : W p l e (rA 8 161 1024 178) s m args below meth c H locs cells slots (MQ below (lwQ D b q.2 (some (.ref q.1))) args s 161 1024 (cReg (lwO b))) (F0 m 61 ls [.int y2, .int y1, .ref y0]) := by
  have hx := X.1.1
  have hb := X.1.2.1
  have hown := X.1.2.2.2.1
  have hts := X.1.2.2.2.2.1
  have h : ((stA V y0 y1 y2).bind (fun v1 => (oZ (f_isIn (x3)) v1).bind (fun v2 => if v2.1 = (0:Int32) then (f_L_tell_85 k7 (x1) (x2) (x3) (x2) (((24:Int32) + x3)) ((0:Int32)) v2.2) else ((oC (f_valueAnew (x3) ((2:Int32))) v2.2).bind (fun v3 => f_L_tell_85 k7 (x1) (x2) (x3) (x2) (((24:Int32) + x3)) (v3.1) v3.2))))) = some q := h
  obtain ⟨v1, hv1, h⟩ := ob h
  refine l_ast X hI hS hv1 dL_tell_61 (fun H locs hI hS => ?_)
  refine lv_aload_n hx hb dL_tell_62 rfl (lv_at hl 2 rfl) ?_
  refine lv_bipush (v := (24:Int32)) hx hb dL_tell_63 (by decide) ?_
  refine lv_iload_n hx hb dL_tell_65 rfl (lv_at hl 3 rfl) ?_
  refine lv_iadd hx hb dL_tell_66 ?_
  refine c_aload_n hx hb dL_tell_67 rfl (lv_at hl 0 rfl) ?_
  refine lv_iload_n hx hb dL_tell_68 rfl (lv_at hl 3 rfl) ?_
  obtain ⟨v2, hv2, h⟩ := ob h
  refine l_cls (V := v1) (V' := v2.2) (f := f_X11_isIn 1 (x3)) X hI hS (fun S q hq => K_X11_isIn l hl9 D (lwF b (v1).2.2) S 1 (x3) hq) (D_isIn hv2).2 (D_isIn hv2).1 ⟨w_1116, ww_X11_isIn⟩ rfl hy_X11_isIn rfl ⟨(Nat.le_of_ble_eq_true rfl), (Nat.le_of_ble_eq_true rfl)⟩ hl.1 (Nat.le_of_ble_eq_true rfl) dL_tell_69 rfl ⟨by omega, by omega⟩ (fun u H locs hu hI hS => ?_)
  subst hu
  refine W.eq (g2 := F0 m 72 ls [.int v2.1, .int ((24:Int32) + x3), .ref x2]) rfl ?_
  refine lv_if_eq (tgt := 84) hx hb dL_tell_72 rfl (fun hc => ?_) (fun hc => ?_)
  · have h := ip hc h
    refine lv_iconst (v := (0:Int32)) hx hb dL_tell_84 (by decide) ?_
    exact N_L_tell_85 (r7 := r7) (t7 := t7) X hl9 hI hS (by omega) (by omega) hk7 (lv_sub hl [0, 1, 2, 3] rfl) h
  · have h := ine hc h
    refine c_aload_n hx hb dL_tell_75 rfl (lv_at hl 0 rfl) ?_
    refine lv_iload_n hx hb dL_tell_76 rfl (lv_at hl 3 rfl) ?_
    refine lv_iconst (v := (2:Int32)) hx hb dL_tell_77 (by decide) ?_
    obtain ⟨v3, hv3, h⟩ := ob h
    refine l_cls (V := v2.2) (V' := v3.2) (f := f_X11_valueAnew 1 (x3) ((2:Int32))) X hI hS (fun S q hq => K_X11_valueAnew l hl9 D (lwF b (v2.2).2.2) S 1 (x3) ((2:Int32)) hq) (D_valueAnew hv3).2 (D_valueAnew hv3).1 ⟨w_1120, ww_X11_valueAnew⟩ rfl hy_X11_valueAnew rfl ⟨(Nat.le_of_ble_eq_true rfl), (Nat.le_of_ble_eq_true rfl)⟩ hl.1 (Nat.le_of_ble_eq_true rfl) dL_tell_78 rfl ⟨by omega, by omega⟩ (fun u H locs hu hI hS => ?_)
    subst hu
    refine W.eq (g2 := F0 m 81 ls [.int v3.1, .int ((24:Int32) + x3), .ref x2]) rfl ?_
    refine lv_goto (tgt := 85) hx hb dL_tell_81 rfl ?_
    exact N_L_tell_85 (r7 := r7) (t7 := t7) X hl9 hI hS (by omega) (by omega) hk7 (lv_sub hl [0, 1, 2, 3] rfl) h
set_option maxRecDepth 20000 in
set_option maxHeartbeats 4000000 in
theorem N_L_tell_36 {p : Program} {l : Launch} {e : Env} {s : State} {m : MethodId} {args : Array Value} {below : List Frame} {meth : Method} {c : Code} {D : cD} {b : Nat × Nat} {k7 : Nat → Nat → Int32 → lwS → Option (Nat × lwS)}  {r7 t7 : Nat} {x1 : Nat} {x2 : Nat} {x3 : Int32} {y0 : Nat} {y1 : Int32} {y2 : Int32} {y3 : Int32} {V : lwS} {H : Heap} {locs : List Loc} {cells slots : Nat} {ls : Array Slot} {q : Nat × lwS} (X : lwX p s m args meth c cL_tell 4 (some (.array .int)) D b) (hl9 : l.stackTraces = false) (hI : lwI D b V H) (hS : va_S (cReg (lwO b)) s.heap H locs) (hBc : cells + (8 + r7) ≤ 161) (hBs : slots + (48 + t7) ≤ 1024) (hk7 : ∀ {x1 : Nat} {x2 : Nat} {x3 : Int32} {V : lwS} {H : Heap} {locs : List Loc} {cells slots : Nat} {ls : Array Slot}, lwI D b V H → va_S (cReg (lwO b)) s.heap H locs → cells + r7 ≤ 161 → slots + t7 ≤ 1024 → lv_has ls 4 [(0, cv (lwO b) (some 1)), (1, .ref x1), (2, .ref x2), (3, .int x3)] → k7 x1 x2 x3 V = some q → W p l e (rA 8 161 1024 178) s m args below meth c H locs cells slots (MQ below (lwQ D b q.2 (some (.ref q.1))) args s 161 1024 (cReg (lwO b))) (F0 m 7 ls [])) (hl : lv_has ls 4 [(0, cv (lwO b) (some 1)), (1, .ref x1), (2, .ref x2), (3, .int x3)]) (h : f_L_tell_36 k7 x1 x2 x3 y0 y1 y2 y3 V = some q) : W p l e (rA 8 161 1024 178) s m args below meth c H locs cells slots (MQ below (lwQ D b q.2 (some (.ref q.1))) args s 161 1024 (cReg (lwO b))) (F0 m 36 ls [.int y3, .int y2, .int y1, .ref y0]) := by
  have hx := X.1.1
  have hb := X.1.2.1
  have hown := X.1.2.2.2.1
  have hts := X.1.2.2.2.2.1
  have h : ((stA V y0 y1 (y2 + y3)).bind (fun v1 => (oZ (f_isIn (x3)) v1).bind (fun v2 => if v2.1 = (0:Int32) then (f_L_tell_61 k7 (x1) (x2) (x3) (x2) (((12:Int32) + x3)) ((0:Int32)) v2.2) else ((oC (f_valueAnew (x3) ((1:Int32))) v2.2).bind (fun v3 => f_L_tell_61 k7 (x1) (x2) (x3) (x2) (((12:Int32) + x3)) (v3.1) v3.2))))) = some q := h
  refine lv_iadd hx hb dL_tell_36 ?_
  obtain ⟨v1, hv1, h⟩ := ob h
  refine l_ast X hI hS hv1 dL_tell_37 (fun H locs hI hS => ?_)
  refine lv_aload_n hx hb dL_tell_38 rfl (lv_at hl 2 rfl) ?_
  refine lv_bipush (v := (12:Int32)) hx hb dL_tell_39 (by decide) ?_
  refine lv_iload_n hx hb dL_tell_41 rfl (lv_at hl 3 rfl) ?_
  refine lv_iadd hx hb dL_tell_42 ?_
  refine c_aload_n hx hb dL_tell_43 rfl (lv_at hl 0 rfl) ?_
  refine lv_iload_n hx hb dL_tell_44 rfl (lv_at hl 3 rfl) ?_
  obtain ⟨v2, hv2, h⟩ := ob h
  refine l_cls (V := v1) (V' := v2.2) (f := f_X11_isIn 1 (x3)) X hI hS (fun S q hq => K_X11_isIn l hl9 D (lwF b (v1).2.2) S 1 (x3) hq) (D_isIn hv2).2 (D_isIn hv2).1 ⟨w_1116, ww_X11_isIn⟩ rfl hy_X11_isIn rfl ⟨(Nat.le_of_ble_eq_true rfl), (Nat.le_of_ble_eq_true rfl)⟩ hl.1 (Nat.le_of_ble_eq_true rfl) dL_tell_45 rfl ⟨by omega, by omega⟩ (fun u H locs hu hI hS => ?_)
  subst hu
  refine W.eq (g2 := F0 m 48 ls [.int v2.1, .int ((12:Int32) + x3), .ref x2]) rfl ?_
  refine lv_if_eq (tgt := 60) hx hb dL_tell_48 rfl (fun hc => ?_) (fun hc => ?_)
  · have h := ip hc h
    refine lv_iconst (v := (0:Int32)) hx hb dL_tell_60 (by decide) ?_
    exact N_L_tell_61 (r7 := r7) (t7 := t7) X hl9 hI hS (by omega) (by omega) hk7 (lv_sub hl [0, 1, 2, 3] rfl) h
  · have h := ine hc h
    refine c_aload_n hx hb dL_tell_51 rfl (lv_at hl 0 rfl) ?_
    refine lv_iload_n hx hb dL_tell_52 rfl (lv_at hl 3 rfl) ?_
    refine lv_iconst (v := (1:Int32)) hx hb dL_tell_53 (by decide) ?_
    obtain ⟨v3, hv3, h⟩ := ob h
    refine l_cls (V := v2.2) (V' := v3.2) (f := f_X11_valueAnew 1 (x3) ((1:Int32))) X hI hS (fun S q hq => K_X11_valueAnew l hl9 D (lwF b (v2.2).2.2) S 1 (x3) ((1:Int32)) hq) (D_valueAnew hv3).2 (D_valueAnew hv3).1 ⟨w_1120, ww_X11_valueAnew⟩ rfl hy_X11_valueAnew rfl ⟨(Nat.le_of_ble_eq_true rfl), (Nat.le_of_ble_eq_true rfl)⟩ hl.1 (Nat.le_of_ble_eq_true rfl) dL_tell_54 rfl ⟨by omega, by omega⟩ (fun u H locs hu hI hS => ?_)
    subst hu
    refine W.eq (g2 := F0 m 57 ls [.int v3.1, .int ((12:Int32) + x3), .ref x2]) rfl ?_
    refine lv_goto (tgt := 61) hx hb dL_tell_57 rfl ?_
    exact N_L_tell_61 (r7 := r7) (t7 := t7) X hl9 hI hS (by omega) (by omega) hk7 (lv_sub hl [0, 1, 2, 3] rfl) h
set_option maxRecDepth 20000 in
set_option maxHeartbeats 4000000 in
theorem N_L_tell_7 {p : Program} {l : Launch} {e : Env} {s : State} {m : MethodId} {args : Array Value} {below : List Frame} {meth : Method} {c : Code} {D : cD} {b : Nat × Nat}  {n : Nat} {x1 : Nat} {x2 : Nat} {x3 : Int32} {V : lwS} {H : Heap} {locs : List Loc} {cells slots : Nat} {ls : Array Slot} {q : Nat × lwS} (X : lwX p s m args meth c cL_tell 4 (some (.array .int)) D b) (hl9 : l.stackTraces = false) (hI : lwI D b V H) (hS : va_S (cReg (lwO b)) s.heap H locs) (hBc : cells + (n * 10 + 30 + 0) ≤ 161) (hBs : slots + (n * 60 + 180 + 0) ≤ 1024)  (hl : lv_has ls 4 [(0, cv (lwO b) (some 1)), (1, .ref x1), (2, .ref x2), (3, .int x3)]) (h : f_L_tell_7  n x1 x2 x3 V = some q) : W p l e (rA 8 161 1024 178) s m args below meth c H locs cells slots (MQ below (lwQ D b q.2 (some (.ref q.1))) args s 161 1024 (cReg (lwO b))) (F0 m 7 ls []) := by
  have hx := X.1.1
  have hb := X.1.2.1
  have hown := X.1.2.2.2.1
  have hts := X.1.2.2.2.2.1
  induction n generalizing x1 x2 x3 V H locs cells slots ls with
  | zero => exact absurd (show none = some q from h) (by simp)
  | succ n ih =>
    have h : ((ldA V x1 (0:Int32)).bind (fun v1 => if v1 ≤ x3 then (f_L_tell_94 9 (x1) (x2) ((0:Int32)) V) else ((oC (f_shownParent (x3)) V).bind (fun v2 => (oZ (f_isIn (x3)) v2.2).bind (fun v3 => if v3.1 = (0:Int32) then (f_L_tell_36 (f_L_tell_7 n) (x1) (x2) (x3) (x2) (x3) (((2:Int32) * v2.1)) ((0:Int32)) v3.2) else (f_L_tell_36 (f_L_tell_7 n) (x1) (x2) (x3) (x2) (x3) (((2:Int32) * v2.1)) ((1:Int32)) v3.2)))))) = some q := h
    refine lv_iload_n hx hb dL_tell_7 rfl (lv_at hl 3 rfl) ?_
    refine lv_aload_n hx hb dL_tell_8 rfl (lv_at hl 1 rfl) ?_
    refine lv_iconst (v := (0:Int32)) hx hb dL_tell_9 (by decide) ?_
    obtain ⟨v1, hv1, h⟩ := ob h
    refine l_ald X hI hv1 dL_tell_10 ?_
    refine lv_icmp_ge (tgt := 92) hx hb dL_tell_11 rfl (fun hc => ?_) (fun hc => ?_)
    · have h := ip hc h
      refine lv_iconst (v := (0:Int32)) hx hb dL_tell_92 (by decide) ?_
      refine c_istore_n hx hb dL_tell_93 rfl hl (Nat.le_of_ble_eq_true rfl) (lvKa rfl (lvKa rfl (lvKx (lvKa rfl lvK0)))) rfl (fun ls (hl : lv_has ls 4 [(3, .int (0:Int32)), (0, cv (lwO b) (some 1)), (1, .ref x1), (2, .ref x2)]) => ?_)
      exact N_L_tell_94 X hl9 hI hS (by omega) (by omega) (lv_sub hl [1, 2, 3, 0] rfl) h
    · have h := ine hc h
      refine lv_aload_n hx hb dL_tell_14 rfl (lv_at hl 2 rfl) ?_
      refine lv_iload_n hx hb dL_tell_15 rfl (lv_at hl 3 rfl) ?_
      refine lv_iconst (v := (2:Int32)) hx hb dL_tell_16 (by decide) ?_
      refine c_aload_n hx hb dL_tell_17 rfl (lv_at hl 0 rfl) ?_
      refine lv_iload_n hx hb dL_tell_18 rfl (lv_at hl 3 rfl) ?_
      obtain ⟨v2, hv2, h⟩ := ob h
      refine l_cls (V := V) (V' := v2.2) (f := f_X11_shownParent 1 (x3)) X hI hS (fun S q hq => K_X11_shownParent l hl9 D (lwF b (V).2.2) S 1 (x3) hq) (D_shownParent hv2).2 (D_shownParent hv2).1 ⟨w_1112, ww_X11_shownParent⟩ rfl hy_X11_shownParent rfl ⟨(Nat.le_of_ble_eq_true rfl), (Nat.le_of_ble_eq_true rfl)⟩ hl.1 (Nat.le_of_ble_eq_true rfl) dL_tell_19 rfl ⟨by omega, by omega⟩ (fun u H locs hu hI hS => ?_)
      subst hu
      refine W.eq (g2 := F0 m 22 ls [.int v2.1, .int (2:Int32), .int x3, .ref x2]) rfl ?_
      refine lv_imul hx hb dL_tell_22 ?_
      refine c_aload_n hx hb dL_tell_23 rfl (lv_at hl 0 rfl) ?_
      refine lv_iload_n hx hb dL_tell_24 rfl (lv_at hl 3 rfl) ?_
      obtain ⟨v3, hv3, h⟩ := ob h
      refine l_cls (V := v2.2) (V' := v3.2) (f := f_X11_isIn 1 (x3)) X hI hS (fun S q hq => K_X11_isIn l hl9 D (lwF b (v2.2).2.2) S 1 (x3) hq) (D_isIn hv3).2 (D_isIn hv3).1 ⟨w_1116, ww_X11_isIn⟩ rfl hy_X11_isIn rfl ⟨(Nat.le_of_ble_eq_true rfl), (Nat.le_of_ble_eq_true rfl)⟩ hl.1 (Nat.le_of_ble_eq_true rfl) dL_tell_25 rfl ⟨by omega, by omega⟩ (fun u H locs hu hI hS => ?_)
      subst hu
      refine W.eq (g2 := F0 m 28 ls [.int v3.1, .int ((2:Int32) * v2.1), .int x3, .ref x2]) rfl ?_
      refine lv_if_eq (tgt := 35) hx hb dL_tell_28 rfl (fun hc => ?_) (fun hc => ?_)
      · have h := ip hc h
        refine lv_iconst (v := (0:Int32)) hx hb dL_tell_35 (by decide) ?_
        exact N_L_tell_36 (r7 := (n * 10 + 30 + 0)) (t7 := (n * 60 + 180 + 0)) X hl9 hI hS (by omega) (by omega) (fun hI hS h1 h2 hl h => ih hI hS (by omega) (by omega) hl h) (lv_sub hl [0, 1, 2, 3] rfl) h
      · have h := ine hc h
        refine lv_iconst (v := (1:Int32)) hx hb dL_tell_31 (by decide) ?_
        refine lv_goto (tgt := 36) hx hb dL_tell_32 rfl ?_
        exact N_L_tell_36 (r7 := (n * 10 + 30 + 0)) (t7 := (n * 60 + 180 + 0)) X hl9 hI hS (by omega) (by omega) (fun hI hS h1 h2 hl h => ih hI hS (by omega) (by omega) hl h) (lv_sub hl [0, 1, 2, 3] rfl) h
set_option maxRecDepth 20000 in
set_option maxHeartbeats 4000000 in
theorem K_L_tell (l : Launch) (hl9 : l.stackTraces = false) (D : cD) (b : Nat × Nat) (V : lwS) (x1 : Nat) {q : Nat → lwS} (h : ∀ xa, V.2.2 xa = none → f_L_tell x1 xa V = some (xa, q xa)) : Met l yL_tell (Cond.code yL_tell cL_tell 4 (some (.array .int)) :: BG) (rA 8 161 1024 178) (lwPc D b V [cv (lwO b) (some 1), .ref x1]) (lwQt D b V q) 161 1024 (cReg (lwO b)) := by
  refine Met.ofW (cc := cL_tell) (maxL := 4) (ret := (some (.array .int))) (by decide) rfl ?_
  intro p e s m args below meth c s₁ B hml hv
  obtain ⟨rfl, hI, hK, hZ, hN⟩ := hv
  have X : lwX p s m [cv (lwO b) (some 1), .ref x1].toArray meth c cL_tell 4 (some (.array .int)) D b := lwX_of B hml hK hZ hN rfl
  have hx := X.1.1
  have hb := X.1.2.1
  have hown := X.1.2.2.2.1
  have hts := X.1.2.2.2.2.1
  have hl := lv_entry [cv (lwO b) (some 1), .ref x1] (n := 4) (by simp only [lgs_r, lgs_i, lgs_l, lgs_0, lgs_x, List.length]; exact Nat.le_of_ble_eq_true rfl)
  rw [lg_entry_eq]
  generalize (lg_sl [cv (lwO b) (some 1), .ref x1] ++ List.replicate (4 - (lg_sl [cv (lwO b) (some 1), .ref x1]).length) Slot.unset).toArray = ls at hl ⊢
  simp only [lv_args_r, lv_args_i, lv_args_l, lv_args_0, lv_args_x] at hl
  have hl : lv_has ls 4 [(0, cv (lwO b) (some 1)), (1, .ref x1)] := hl
  have hS : va_S (cReg (lwO b)) s.heap s.heap [] := va_S.rf
  show W p l e (rA 8 161 1024 178) s m [cv (lwO b) (some 1), .ref x1].toArray below meth c s.heap [] 0 0 (MQ below (lwQt D b V q) [cv (lwO b) (some 1), .ref x1].toArray s 161 1024 (cReg (lwO b))) (F0 m 0 ls [])
  refine lv_bipush (v := (64:Int32)) hx hb dL_tell_0 (by decide) ?_
  refine l_new (N := 64) X hI hS w_141 (by decide) rfl (Nat.le_of_ble_eq_true rfl) (Nat.le_of_ble_eq_true rfl) (Nat.le_of_ble_eq_true rfl) dL_tell_2 (fun xa H hna hba hI hS => ?_)
  have h := h xa hna
  refine W.monoQ (Q := MQ below (lwQ D b (q xa) (some (.ref xa))) [cv (lwO b) (some 1), .ref x1].toArray s 161 1024 (cReg (lwO b))) ?_ (fun t ht => MQ.mono ht (fun st o t9 hq => ⟨xa, hna, hq.1, hq.2⟩))
  have h : (f_L_tell_7 13 (x1) (xa) ((0:Int32)) (nwA V xa 64)) = some (xa, q xa) := h
  refine lx_astore_n hx hb dL_tell_4 rfl hl (Nat.le_of_ble_eq_true rfl) (lvKa rfl (lvKx lvK0)) rfl (fun ls (hl : lv_has ls 4 [(2, .ref xa), (0, cv (lwO b) (some 1)), (1, .ref x1)]) => ?_)
  refine lv_iconst (v := (0:Int32)) hx hb dL_tell_5 (by decide) ?_
  refine c_istore_n hx hb dL_tell_6 rfl hl (Nat.le_of_ble_eq_true rfl) (lvKx (lvKa rfl (lvKa rfl lvK0))) rfl (fun ls (hl : lv_has ls 4 [(3, .int (0:Int32)), (2, .ref xa), (0, cv (lwO b) (some 1)), (1, .ref x1)]) => ?_)
  exact N_L_tell_7 X hl9 hI hS (by omega) (by omega) (lv_sub hl [2, 3, 1, 0] rfl) h
theorem ww_L_tell : Cond.static yL_tell ∈ BG ∧ Cond.initialized (yL_tell).cls ∈ BG ∧ Cond.code yL_tell cL_tell 4 (some (.array .int)) ∈ BG := ⟨w_1110, w_55, w_1111⟩
theorem hy_L_tell : (yL_tell).cls ≠ "java/lang/invoke/MethodHandle" ∧ (yL_tell).cls ≠ "java/lang/invoke/VarHandle" ∧ (parseMethodDescriptor (yL_tell).desc).map (fun d => d.parameters.length) = some 2 := ⟨by decide, by decide, by decide +kernel⟩
def f_L_selects_153  (x1 : Nat) (V : lwS) : Option (Int32 × lwS) := (ldA V x1 (1:Int32)).bind (fun v1 => (stA V x1 (1:Int32) (v1 + (1:Int32))).bind (fun v2 => (oC (f_select ) v2).bind (fun v3 => some (v3.1, v3.2))))
def f_L_selects_92  (x1 : Nat) (x2 : Int32) (y1 : Int32) (y2 : Int32) (V : lwS) : Option (Int32 × lwS) := (f_L_low ((x2 >>> ((15:Int32) &&& 31))) ((3:Int32)) V).bind (fun v1 => (f_L_tests (y1) (y2) (v1.1) v1.2).bind (fun v2 => f_L_selects_153 (x1) v2.2))
def f_L_selects (x1 : Nat) (x2 : Int32) (V : lwS) : Option (Int32 × lwS) := (ldA V x1 (1:Int32)).bind (fun v1 => if v1 = (8:Int32) then (some (((-9):Int32), V)) else ((f_L_low (x2) ((4:Int32)) V).bind (fun v2 => (f_L_low ((x2 >>> ((2:Int32) &&& 31))) ((3:Int32)) v2.2).bind (fun v3 => (f_L_low ((x2 >>> ((4:Int32) &&& 31))) ((3:Int32)) v3.2).bind (fun v4 => (f_L_tests (v2.1) (v3.1) (v4.1) v4.2).bind (fun v5 => (f_L_low ((x2 >>> ((6:Int32) &&& 31))) ((3:Int32)) v5.2).bind (fun v6 => if v6.1 = (0:Int32) then ((f_L_low ((x2 >>> ((8:Int32) &&& 31))) ((4:Int32)) v6.2).bind (fun v12 => (f_L_joins (v12.1) v12.2).bind (fun v13 => (f_L_low ((x2 >>> ((10:Int32) &&& 31))) ((10:Int32)) v13.2).bind (fun v14 => (f_L_low ((x2 >>> ((13:Int32) &&& 31))) ((3:Int32)) v14.2).bind (fun v15 => if v14.1 = (3:Int32) then (f_L_selects_92 (x1) (x2) (v14.1) ((0:Int32)) v15.2) else (f_L_selects_92 (x1) (x2) (v14.1) (v15.1) v15.2)))))) else ((f_L_low ((x2 >>> ((6:Int32) &&& 31))) ((3:Int32)) v6.2).bind (fun v7 => if v7.1 = (1:Int32) then ((f_L_low ((x2 >>> ((10:Int32) &&& 31))) ((6:Int32)) v7.2).bind (fun v8 => (f_L_low ((x2 >>> ((13:Int32) &&& 31))) ((3:Int32)) v8.2).bind (fun v9 => (f_L_low ((x2 >>> ((15:Int32) &&& 31))) ((3:Int32)) v9.2).bind (fun v10 => (f_L_tests (((4:Int32) + v8.1)) (v9.1) (v10.1) v10.2).bind (fun v11 => f_L_selects_153 (x1) v11.2))))) else (f_L_selects_153 (x1) v7.2))))))))))
set_option maxRecDepth 20000 in
set_option maxHeartbeats 4000000 in
theorem N_L_selects_153 {p : Program} {l : Launch} {e : Env} {s : State} {m : MethodId} {args : Array Value} {below : List Frame} {meth : Method} {c : Code} {D : cD} {b : Nat × Nat}   {x1 : Nat} {V : lwS} {H : Heap} {locs : List Loc} {cells slots : Nat} {ls : Array Slot} {q : Int32 × lwS} (X : lwX p s m args meth c cL_selects 5 (some .int) D b) (hl9 : l.stackTraces = false) (hI : lwI D b V H) (hS : va_S (cReg (lwO b)) s.heap H locs) (hBc : cells + (6 + 0) ≤ 16) (hBs : slots + (41 + 0) ≤ 99)  (hl : lv_has ls 5 [(0, cv (lwO b) (some 1)), (1, .ref x1)]) (h : f_L_selects_153  x1 V = some q) : W p l e (rA 9 16 99 159) s m args below meth c H locs cells slots (MQ below (lwQ D b q.2 (some (.int q.1))) args s 16 99 (cReg (lwO b))) (F0 m 153 ls []) := by
  have hx := X.1.1
  have hb := X.1.2.1
  have hown := X.1.2.2.2.1
  have hts := X.1.2.2.2.2.1
  have h : ((ldA V x1 (1:Int32)).bind (fun v1 => (stA V x1 (1:Int32) (v1 + (1:Int32))).bind (fun v2 => (oC (f_select ) v2).bind (fun v3 => some (v3.1, v3.2))))) = some q := h
  refine lv_aload_n hx hb dL_selects_153 rfl (lv_at hl 1 rfl) ?_
  refine lv_iconst (v := (1:Int32)) hx hb dL_selects_154 (by decide) ?_
  refine lv_dup2_11 hx hb dL_selects_155 rfl rfl ?_
  obtain ⟨v1, hv1, h⟩ := ob h
  refine l_ald X hI hv1 dL_selects_156 ?_
  refine lv_iconst (v := (1:Int32)) hx hb dL_selects_157 (by decide) ?_
  refine lv_iadd hx hb dL_selects_158 ?_
  obtain ⟨v2, hv2, h⟩ := ob h
  refine l_ast X hI hS hv2 dL_selects_159 (fun H locs hI hS => ?_)
  refine c_aload_n hx hb dL_selects_160 rfl (lv_at hl 0 rfl) ?_
  obtain ⟨v3, hv3, h⟩ := ob h
  refine l_cls (V := v2) (V' := v3.2) (f := f_X11_select 1 ) X hI hS (fun S q hq => K_X11_select l hl9 D (lwF b (v2).2.2) S 1  hq) (D_select hv3).2 (D_select hv3).1 ⟨w_1229, ww_X11_select⟩ rfl hy_X11_select rfl ⟨(Nat.le_of_ble_eq_true rfl), (Nat.le_of_ble_eq_true rfl)⟩ hl.1 (Nat.le_of_ble_eq_true rfl) dL_selects_161 rfl ⟨by omega, by omega⟩ (fun u H locs hu hI hS => ?_)
  subst hu
  refine W.eq (g2 := F0 m 164 ls [.int v3.1]) rfl ?_
  obtain rfl := sj h
  exact l_ri X hI hS (by omega) (by omega) dL_selects_164
set_option maxRecDepth 20000 in
set_option maxHeartbeats 4000000 in
theorem N_L_selects_92 {p : Program} {l : Launch} {e : Env} {s : State} {m : MethodId} {args : Array Value} {below : List Frame} {meth : Method} {c : Code} {D : cD} {b : Nat × Nat}   {x1 : Nat} {x2 : Int32} {y1 : Int32} {y2 : Int32} {V : lwS} {H : Heap} {locs : List Loc} {cells slots : Nat} {ls : Array Slot} {q : Int32 × lwS} (X : lwX p s m args meth c cL_selects 5 (some .int) D b) (hl9 : l.stackTraces = false) (hI : lwI D b V H) (hS : va_S (cReg (lwO b)) s.heap H locs) (hBc : cells + (8 + 0) ≤ 16) (hBs : slots + (53 + 0) ≤ 99)  (hl : lv_has ls 5 [(0, cv (lwO b) (some 1)), (1, .ref x1), (2, .int x2)]) (h : f_L_selects_92  x1 x2 y1 y2 V = some q) : W p l e (rA 9 16 99 159) s m args below meth c H locs cells slots (MQ below (lwQ D b q.2 (some (.int q.1))) args s 16 99 (cReg (lwO b))) (F0 m 92 ls [.int y2, .int y1, cv (lwO b) (some 1)]) := by
  have hx := X.1.1
  have hb := X.1.2.1
  have hown := X.1.2.2.2.1
  have hts := X.1.2.2.2.2.1
  have h : ((f_L_low ((x2 >>> ((15:Int32) &&& 31))) ((3:Int32)) V).bind (fun v1 => (f_L_tests (y1) (y2) (v1.1) v1.2).bind (fun v2 => f_L_selects_153 (x1) v2.2))) = some q := h
  refine lv_iload_n hx hb dL_selects_92 rfl (lv_at hl 2 rfl) ?_
  refine lv_bipush (v := (15:Int32)) hx hb dL_selects_93 (by decide) ?_
  refine lv_ishr hx hb dL_selects_95 ?_
  refine lv_iconst (v := (3:Int32)) hx hb dL_selects_96 (by decide) ?_
  obtain ⟨v1, hv1, h⟩ := ob h
  refine l_after (l_runS X (K_L_low l hl9 D b V ((x2 >>> ((15:Int32) &&& 31))) ((3:Int32)) (v := v1.1) (V' := v1.2) hv1) ⟨w_624, ww_L_low⟩ hy_L_low rfl ⟨(Nat.le_of_ble_eq_true rfl), (Nat.le_of_ble_eq_true rfl)⟩ hI hS hl.1 (Nat.le_of_ble_eq_true rfl) dL_selects_97 rfl ⟨by omega, by omega⟩) hS (fun H locs hI hS => ?_)
  refine W.eq (g2 := F0 m 100 ls [.int v1.1, .int y2, .int y1, cv (lwO b) (some 1)]) rfl ?_
  obtain ⟨v2, hv2, h⟩ := ob h
  refine l_after (l_runW X (K_L_tests l hl9 D b v1.2 (y1) (y2) (v1.1) (v := v2.1) (V' := v2.2) hv2) ⟨w_849, ww_L_tests⟩ hy_L_tests rfl ⟨(Nat.le_of_ble_eq_true rfl), (Nat.le_of_ble_eq_true rfl)⟩ hI hS hl.1 (Nat.le_of_ble_eq_true rfl) dL_selects_100 rfl ⟨by omega, by omega⟩) hS (fun H locs hI hS => ?_)
  refine W.eq (g2 := F0 m 103 ls [.int v2.1]) rfl ?_
  refine lv_pop hx hb dL_selects_103 rfl ?_
  refine lv_goto (tgt := 153) hx hb dL_selects_104 rfl ?_
  exact N_L_selects_153 X hl9 hI hS (by omega) (by omega) (lv_sub hl [0, 1] rfl) h
set_option maxRecDepth 20000 in
set_option maxHeartbeats 4000000 in
theorem K_L_selects (l : Launch) (hl9 : l.stackTraces = false) (D : cD) (b : Nat × Nat) (V : lwS) (x1 : Nat) (x2 : Int32) {v : Int32} {V' : lwS} (h : f_L_selects x1 x2 V = some (v, V')) : Met l yL_selects (Cond.code yL_selects cL_selects 5 (some .int) :: BG) (rA 9 16 99 159) (lwPc D b V [cv (lwO b) (some 1), .ref x1, .int x2]) (lwQ D b V' (some (.int v))) 16 99 (cReg (lwO b)) := by
  refine Met.ofW (cc := cL_selects) (maxL := 5) (ret := (some .int)) (by decide) rfl ?_
  intro p e s m args below meth c s₁ B hml hv
  obtain ⟨rfl, hI, hK, hZ, hN⟩ := hv
  have X : lwX p s m [cv (lwO b) (some 1), .ref x1, .int x2].toArray meth c cL_selects 5 (some .int) D b := lwX_of B hml hK hZ hN rfl
  have hx := X.1.1
  have hb := X.1.2.1
  have hown := X.1.2.2.2.1
  have hts := X.1.2.2.2.2.1
  have hl := lv_entry [cv (lwO b) (some 1), .ref x1, .int x2] (n := 5) (by simp only [lgs_r, lgs_i, lgs_l, lgs_0, lgs_x, List.length]; exact Nat.le_of_ble_eq_true rfl)
  rw [lg_entry_eq]
  generalize (lg_sl [cv (lwO b) (some 1), .ref x1, .int x2] ++ List.replicate (5 - (lg_sl [cv (lwO b) (some 1), .ref x1, .int x2]).length) Slot.unset).toArray = ls at hl ⊢
  simp only [lv_args_r, lv_args_i, lv_args_l, lv_args_0, lv_args_x] at hl
  have hl : lv_has ls 5 [(0, cv (lwO b) (some 1)), (1, .ref x1), (2, .int x2)] := hl
  have hS : va_S (cReg (lwO b)) s.heap s.heap [] := va_S.rf
  show W p l e (rA 9 16 99 159) s m [cv (lwO b) (some 1), .ref x1, .int x2].toArray below meth c s.heap [] 0 0 (MQ below (lwQ D b V' (some (.int v))) [cv (lwO b) (some 1), .ref x1, .int x2].toArray s 16 99 (cReg (lwO b))) (F0 m 0 ls [])
  have h : ((ldA V x1 (1:Int32)).bind (fun v1 => if v1 = (8:Int32) then (some (((-9):Int32), V)) else ((f_L_low (x2) ((4:Int32)) V).bind (fun v2 => (f_L_low ((x2 >>> ((2:Int32) &&& 31))) ((3:Int32)) v2.2).bind (fun v3 => (f_L_low ((x2 >>> ((4:Int32) &&& 31))) ((3:Int32)) v3.2).bind (fun v4 => (f_L_tests (v2.1) (v3.1) (v4.1) v4.2).bind (fun v5 => (f_L_low ((x2 >>> ((6:Int32) &&& 31))) ((3:Int32)) v5.2).bind (fun v6 => if v6.1 = (0:Int32) then ((f_L_low ((x2 >>> ((8:Int32) &&& 31))) ((4:Int32)) v6.2).bind (fun v12 => (f_L_joins (v12.1) v12.2).bind (fun v13 => (f_L_low ((x2 >>> ((10:Int32) &&& 31))) ((10:Int32)) v13.2).bind (fun v14 => (f_L_low ((x2 >>> ((13:Int32) &&& 31))) ((3:Int32)) v14.2).bind (fun v15 => if v14.1 = (3:Int32) then (f_L_selects_92 (x1) (x2) (v14.1) ((0:Int32)) v15.2) else (f_L_selects_92 (x1) (x2) (v14.1) (v15.1) v15.2)))))) else ((f_L_low ((x2 >>> ((6:Int32) &&& 31))) ((3:Int32)) v6.2).bind (fun v7 => if v7.1 = (1:Int32) then ((f_L_low ((x2 >>> ((10:Int32) &&& 31))) ((6:Int32)) v7.2).bind (fun v8 => (f_L_low ((x2 >>> ((13:Int32) &&& 31))) ((3:Int32)) v8.2).bind (fun v9 => (f_L_low ((x2 >>> ((15:Int32) &&& 31))) ((3:Int32)) v9.2).bind (fun v10 => (f_L_tests (((4:Int32) + v8.1)) (v9.1) (v10.1) v10.2).bind (fun v11 => f_L_selects_153 (x1) v11.2))))) else (f_L_selects_153 (x1) v7.2))))))))))) = some (v, V') := h
  refine lv_aload_n hx hb dL_selects_0 rfl (lv_at hl 1 rfl) ?_
  refine lv_iconst (v := (1:Int32)) hx hb dL_selects_1 (by decide) ?_
  obtain ⟨v1, hv1, h⟩ := ob h
  refine l_ald X hI hv1 dL_selects_2 ?_
  refine lv_bipush (v := (8:Int32)) hx hb dL_selects_3 (by decide) ?_
  refine lv_icmp_ne (tgt := 11) hx hb dL_selects_5 rfl (fun hc => ?_) (fun hc => ?_)
  · have h := ine hc h
    refine c_aload_n hx hb dL_selects_11 rfl (lv_at hl 0 rfl) ?_
    refine lv_iload_n hx hb dL_selects_12 rfl (lv_at hl 2 rfl) ?_
    refine lv_iconst (v := (4:Int32)) hx hb dL_selects_13 (by decide) ?_
    obtain ⟨v2, hv2, h⟩ := ob h
    refine l_after (l_runS X (K_L_low l hl9 D b V (x2) ((4:Int32)) (v := v2.1) (V' := v2.2) hv2) ⟨w_624, ww_L_low⟩ hy_L_low rfl ⟨(Nat.le_of_ble_eq_true rfl), (Nat.le_of_ble_eq_true rfl)⟩ hI hS hl.1 (Nat.le_of_ble_eq_true rfl) dL_selects_14 rfl ⟨by omega, by omega⟩) hS (fun H locs hI hS => ?_)
    refine W.eq (g2 := F0 m 17 ls [.int v2.1, cv (lwO b) (some 1)]) rfl ?_
    refine lv_iload_n hx hb dL_selects_17 rfl (lv_at hl 2 rfl) ?_
    refine lv_iconst (v := (2:Int32)) hx hb dL_selects_18 (by decide) ?_
    refine lv_ishr hx hb dL_selects_19 ?_
    refine lv_iconst (v := (3:Int32)) hx hb dL_selects_20 (by decide) ?_
    obtain ⟨v3, hv3, h⟩ := ob h
    refine l_after (l_runS X (K_L_low l hl9 D b v2.2 ((x2 >>> ((2:Int32) &&& 31))) ((3:Int32)) (v := v3.1) (V' := v3.2) hv3) ⟨w_624, ww_L_low⟩ hy_L_low rfl ⟨(Nat.le_of_ble_eq_true rfl), (Nat.le_of_ble_eq_true rfl)⟩ hI hS hl.1 (Nat.le_of_ble_eq_true rfl) dL_selects_21 rfl ⟨by omega, by omega⟩) hS (fun H locs hI hS => ?_)
    refine W.eq (g2 := F0 m 24 ls [.int v3.1, .int v2.1, cv (lwO b) (some 1)]) rfl ?_
    refine lv_iload_n hx hb dL_selects_24 rfl (lv_at hl 2 rfl) ?_
    refine lv_iconst (v := (4:Int32)) hx hb dL_selects_25 (by decide) ?_
    refine lv_ishr hx hb dL_selects_26 ?_
    refine lv_iconst (v := (3:Int32)) hx hb dL_selects_27 (by decide) ?_
    obtain ⟨v4, hv4, h⟩ := ob h
    refine l_after (l_runS X (K_L_low l hl9 D b v3.2 ((x2 >>> ((4:Int32) &&& 31))) ((3:Int32)) (v := v4.1) (V' := v4.2) hv4) ⟨w_624, ww_L_low⟩ hy_L_low rfl ⟨(Nat.le_of_ble_eq_true rfl), (Nat.le_of_ble_eq_true rfl)⟩ hI hS hl.1 (Nat.le_of_ble_eq_true rfl) dL_selects_28 rfl ⟨by omega, by omega⟩) hS (fun H locs hI hS => ?_)
    refine W.eq (g2 := F0 m 31 ls [.int v4.1, .int v3.1, .int v2.1, cv (lwO b) (some 1)]) rfl ?_
    obtain ⟨v5, hv5, h⟩ := ob h
    refine l_after (l_runW X (K_L_tests l hl9 D b v4.2 (v2.1) (v3.1) (v4.1) (v := v5.1) (V' := v5.2) hv5) ⟨w_849, ww_L_tests⟩ hy_L_tests rfl ⟨(Nat.le_of_ble_eq_true rfl), (Nat.le_of_ble_eq_true rfl)⟩ hI hS hl.1 (Nat.le_of_ble_eq_true rfl) dL_selects_31 rfl ⟨by omega, by omega⟩) hS (fun H locs hI hS => ?_)
    refine W.eq (g2 := F0 m 34 ls [.int v5.1]) rfl ?_
    refine lv_pop hx hb dL_selects_34 rfl ?_
    refine lv_iload_n hx hb dL_selects_35 rfl (lv_at hl 2 rfl) ?_
    refine lv_bipush (v := (6:Int32)) hx hb dL_selects_36 (by decide) ?_
    refine lv_ishr hx hb dL_selects_38 ?_
    refine lv_iconst (v := (3:Int32)) hx hb dL_selects_39 (by decide) ?_
    obtain ⟨v6, hv6, h⟩ := ob h
    refine l_after (l_runS X (K_L_low l hl9 D b v5.2 ((x2 >>> ((6:Int32) &&& 31))) ((3:Int32)) (v := v6.1) (V' := v6.2) hv6) ⟨w_624, ww_L_low⟩ hy_L_low rfl ⟨(Nat.le_of_ble_eq_true rfl), (Nat.le_of_ble_eq_true rfl)⟩ hI hS hl.1 (Nat.le_of_ble_eq_true rfl) dL_selects_40 rfl ⟨by omega, by omega⟩) hS (fun H locs hI hS => ?_)
    refine W.eq (g2 := F0 m 43 ls [.int v6.1]) rfl ?_
    refine lv_if_ne (tgt := 107) hx hb dL_selects_43 rfl (fun hc => ?_) (fun hc => ?_)
    · have h := ine hc h
      refine lv_iload_n hx hb dL_selects_107 rfl (lv_at hl 2 rfl) ?_
      refine lv_bipush (v := (6:Int32)) hx hb dL_selects_108 (by decide) ?_
      refine lv_ishr hx hb dL_selects_110 ?_
      refine lv_iconst (v := (3:Int32)) hx hb dL_selects_111 (by decide) ?_
      obtain ⟨v7, hv7, h⟩ := ob h
      refine l_after (l_runS X (K_L_low l hl9 D b v6.2 ((x2 >>> ((6:Int32) &&& 31))) ((3:Int32)) (v := v7.1) (V' := v7.2) hv7) ⟨w_624, ww_L_low⟩ hy_L_low rfl ⟨(Nat.le_of_ble_eq_true rfl), (Nat.le_of_ble_eq_true rfl)⟩ hI hS hl.1 (Nat.le_of_ble_eq_true rfl) dL_selects_112 rfl ⟨by omega, by omega⟩) hS (fun H locs hI hS => ?_)
      refine W.eq (g2 := F0 m 115 ls [.int v7.1]) rfl ?_
      refine lv_iconst (v := (1:Int32)) hx hb dL_selects_115 (by decide) ?_
      refine lv_icmp_ne (tgt := 153) hx hb dL_selects_116 rfl (fun hc => ?_) (fun hc => ?_)
      · have h := ine hc h
        exact N_L_selects_153 X hl9 hI hS (by omega) (by omega) (lv_sub hl [0, 1] rfl) h
      · have h := ip hc h
        refine lv_iconst (v := (4:Int32)) hx hb dL_selects_119 (by decide) ?_
        refine lv_iload_n hx hb dL_selects_120 rfl (lv_at hl 2 rfl) ?_
        refine lv_bipush (v := (10:Int32)) hx hb dL_selects_121 (by decide) ?_
        refine lv_ishr hx hb dL_selects_123 ?_
        refine lv_bipush (v := (6:Int32)) hx hb dL_selects_124 (by decide) ?_
        obtain ⟨v8, hv8, h⟩ := ob h
        refine l_after (l_runS X (K_L_low l hl9 D b v7.2 ((x2 >>> ((10:Int32) &&& 31))) ((6:Int32)) (v := v8.1) (V' := v8.2) hv8) ⟨w_624, ww_L_low⟩ hy_L_low rfl ⟨(Nat.le_of_ble_eq_true rfl), (Nat.le_of_ble_eq_true rfl)⟩ hI hS hl.1 (Nat.le_of_ble_eq_true rfl) dL_selects_126 rfl ⟨by omega, by omega⟩) hS (fun H locs hI hS => ?_)
        refine W.eq (g2 := F0 m 129 ls [.int v8.1, .int (4:Int32)]) rfl ?_
        refine lv_iadd hx hb dL_selects_129 ?_
        refine c_istore_n hx hb dL_selects_130 rfl hl (Nat.le_of_ble_eq_true rfl) (lvKa rfl (lvKa rfl (lvKi lvK0))) rfl (fun ls (hl : lv_has ls 5 [(3, .int ((4:Int32) + v8.1)), (0, cv (lwO b) (some 1)), (1, .ref x1), (2, .int x2)]) => ?_)
        refine c_aload_n hx hb dL_selects_131 rfl (lv_at hl 1 rfl) ?_
        refine lv_iload_n hx hb dL_selects_132 rfl (lv_at hl 0 rfl) ?_
        refine lv_iload_n hx hb dL_selects_133 rfl (lv_at hl 3 rfl) ?_
        refine lv_bipush (v := (13:Int32)) hx hb dL_selects_134 (by decide) ?_
        refine lv_ishr hx hb dL_selects_136 ?_
        refine lv_iconst (v := (3:Int32)) hx hb dL_selects_137 (by decide) ?_
        obtain ⟨v9, hv9, h⟩ := ob h
        refine l_after (l_runS X (K_L_low l hl9 D b v8.2 ((x2 >>> ((13:Int32) &&& 31))) ((3:Int32)) (v := v9.1) (V' := v9.2) hv9) ⟨w_624, ww_L_low⟩ hy_L_low rfl ⟨(Nat.le_of_ble_eq_true rfl), (Nat.le_of_ble_eq_true rfl)⟩ hI hS hl.1 (Nat.le_of_ble_eq_true rfl) dL_selects_138 rfl ⟨by omega, by omega⟩) hS (fun H locs hI hS => ?_)
        refine W.eq (g2 := F0 m 141 ls [.int v9.1, .int ((4:Int32) + v8.1), cv (lwO b) (some 1)]) rfl ?_
        refine lv_iload_n hx hb dL_selects_141 rfl (lv_at hl 3 rfl) ?_
        refine lv_bipush (v := (15:Int32)) hx hb dL_selects_142 (by decide) ?_
        refine lv_ishr hx hb dL_selects_144 ?_
        refine lv_iconst (v := (3:Int32)) hx hb dL_selects_145 (by decide) ?_
        obtain ⟨v10, hv10, h⟩ := ob h
        refine l_after (l_runS X (K_L_low l hl9 D b v9.2 ((x2 >>> ((15:Int32) &&& 31))) ((3:Int32)) (v := v10.1) (V' := v10.2) hv10) ⟨w_624, ww_L_low⟩ hy_L_low rfl ⟨(Nat.le_of_ble_eq_true rfl), (Nat.le_of_ble_eq_true rfl)⟩ hI hS hl.1 (Nat.le_of_ble_eq_true rfl) dL_selects_146 rfl ⟨by omega, by omega⟩) hS (fun H locs hI hS => ?_)
        refine W.eq (g2 := F0 m 149 ls [.int v10.1, .int v9.1, .int ((4:Int32) + v8.1), cv (lwO b) (some 1)]) rfl ?_
        obtain ⟨v11, hv11, h⟩ := ob h
        refine l_after (l_runW X (K_L_tests l hl9 D b v10.2 (((4:Int32) + v8.1)) (v9.1) (v10.1) (v := v11.1) (V' := v11.2) hv11) ⟨w_849, ww_L_tests⟩ hy_L_tests rfl ⟨(Nat.le_of_ble_eq_true rfl), (Nat.le_of_ble_eq_true rfl)⟩ hI hS hl.1 (Nat.le_of_ble_eq_true rfl) dL_selects_149 rfl ⟨by omega, by omega⟩) hS (fun H locs hI hS => ?_)
        refine W.eq (g2 := F0 m 152 ls [.int v11.1]) rfl ?_
        refine lv_pop hx hb dL_selects_152 rfl ?_
        exact N_L_selects_153 X hl9 hI hS (by omega) (by omega) (lv_sub hl [1, 2] rfl) h
    · have h := ip hc h
      refine c_aload_n hx hb dL_selects_46 rfl (lv_at hl 0 rfl) ?_
      refine lv_iload_n hx hb dL_selects_47 rfl (lv_at hl 2 rfl) ?_
      refine lv_bipush (v := (8:Int32)) hx hb dL_selects_48 (by decide) ?_
      refine lv_ishr hx hb dL_selects_50 ?_
      refine lv_iconst (v := (4:Int32)) hx hb dL_selects_51 (by decide) ?_
      obtain ⟨v12, hv12, h⟩ := ob h
      refine l_after (l_runS X (K_L_low l hl9 D b v6.2 ((x2 >>> ((8:Int32) &&& 31))) ((4:Int32)) (v := v12.1) (V' := v12.2) hv12) ⟨w_624, ww_L_low⟩ hy_L_low rfl ⟨(Nat.le_of_ble_eq_true rfl), (Nat.le_of_ble_eq_true rfl)⟩ hI hS hl.1 (Nat.le_of_ble_eq_true rfl) dL_selects_52 rfl ⟨by omega, by omega⟩) hS (fun H locs hI hS => ?_)
      refine W.eq (g2 := F0 m 55 ls [.int v12.1, cv (lwO b) (some 1)]) rfl ?_
      obtain ⟨v13, hv13, h⟩ := ob h
      refine l_after (l_runW X (K_L_joins l hl9 D b v12.2 (v12.1) (v := v13.1) (V' := v13.2) hv13) ⟨w_879, ww_L_joins⟩ hy_L_joins rfl ⟨(Nat.le_of_ble_eq_true rfl), (Nat.le_of_ble_eq_true rfl)⟩ hI hS hl.1 (Nat.le_of_ble_eq_true rfl) dL_selects_55 rfl ⟨by omega, by omega⟩) hS (fun H locs hI hS => ?_)
      refine W.eq (g2 := F0 m 58 ls [.int v13.1]) rfl ?_
      refine lv_pop hx hb dL_selects_58 rfl ?_
      refine lv_iload_n hx hb dL_selects_59 rfl (lv_at hl 2 rfl) ?_
      refine lv_bipush (v := (10:Int32)) hx hb dL_selects_60 (by decide) ?_
      refine lv_ishr hx hb dL_selects_62 ?_
      refine lv_bipush (v := (10:Int32)) hx hb dL_selects_63 (by decide) ?_
      obtain ⟨v14, hv14, h⟩ := ob h
      refine l_after (l_runS X (K_L_low l hl9 D b v13.2 ((x2 >>> ((10:Int32) &&& 31))) ((10:Int32)) (v := v14.1) (V' := v14.2) hv14) ⟨w_624, ww_L_low⟩ hy_L_low rfl ⟨(Nat.le_of_ble_eq_true rfl), (Nat.le_of_ble_eq_true rfl)⟩ hI hS hl.1 (Nat.le_of_ble_eq_true rfl) dL_selects_65 rfl ⟨by omega, by omega⟩) hS (fun H locs hI hS => ?_)
      refine W.eq (g2 := F0 m 68 ls [.int v14.1]) rfl ?_
      refine c_istore_n hx hb dL_selects_68 rfl hl (Nat.le_of_ble_eq_true rfl) (lvKa rfl (lvKa rfl (lvKi lvK0))) rfl (fun ls (hl : lv_has ls 5 [(3, .int v14.1), (0, cv (lwO b) (some 1)), (1, .ref x1), (2, .int x2)]) => ?_)
      refine lv_iload_n hx hb dL_selects_69 rfl (lv_at hl 3 rfl) ?_
      refine lv_bipush (v := (13:Int32)) hx hb dL_selects_70 (by decide) ?_
      refine lv_ishr hx hb dL_selects_72 ?_
      refine lv_iconst (v := (3:Int32)) hx hb dL_selects_73 (by decide) ?_
      obtain ⟨v15, hv15, h⟩ := ob h
      refine l_after (l_runS X (K_L_low l hl9 D b v14.2 ((x2 >>> ((13:Int32) &&& 31))) ((3:Int32)) (v := v15.1) (V' := v15.2) hv15) ⟨w_624, ww_L_low⟩ hy_L_low rfl ⟨(Nat.le_of_ble_eq_true rfl), (Nat.le_of_ble_eq_true rfl)⟩ hI hS hl.1 (Nat.le_of_ble_eq_true rfl) dL_selects_74 rfl ⟨by omega, by omega⟩) hS (fun H locs hI hS => ?_)
      refine W.eq (g2 := F0 m 77 ls [.int v15.1]) rfl ?_
      refine c_istore hx hb dL_selects_77 hl (Nat.le_of_ble_eq_true rfl) (lvKi (lvKa rfl (lvKa rfl (lvKa rfl lvK0)))) rfl (fun ls (hl : lv_has ls 5 [(4, .int v15.1), (3, .int v14.1), (0, cv (lwO b) (some 1)), (1, .ref x1), (2, .int x2)]) => ?_)
      refine c_aload_n hx hb dL_selects_79 rfl (lv_at hl 2 rfl) ?_
      refine lv_iload_n hx hb dL_selects_80 rfl (lv_at hl 1 rfl) ?_
      refine lv_iload_n hx hb dL_selects_81 rfl (lv_at hl 1 rfl) ?_
      refine lv_iconst (v := (3:Int32)) hx hb dL_selects_82 (by decide) ?_
      refine lv_icmp_ne (tgt := 90) hx hb dL_selects_83 rfl (fun hc => ?_) (fun hc => ?_)
      · have h := ine hc h
        refine lv_iload hx hb dL_selects_90 (lv_at hl 0 rfl) ?_
        exact N_L_selects_92 X hl9 hI hS (by omega) (by omega) (lv_sub hl [2, 3, 4] rfl) h
      · have h := ip hc h
        refine lv_iconst (v := (0:Int32)) hx hb dL_selects_86 (by decide) ?_
        refine lv_goto (tgt := 92) hx hb dL_selects_87 rfl ?_
        exact N_L_selects_92 X hl9 hI hS (by omega) (by omega) (lv_sub hl [2, 3, 4] rfl) h
  · have h := ip hc h
    refine lv_bipush (v := ((-9):Int32)) hx hb dL_selects_8 (by decide) ?_
    obtain ⟨rfl, rfl⟩ := Prod.mk.inj (sj h)
    exact l_ri X hI hS (by omega) (by omega) dL_selects_10
theorem ww_L_selects : Cond.static yL_selects ∈ BG ∧ Cond.initialized (yL_selects).cls ∈ BG ∧ Cond.code yL_selects cL_selects 5 (some .int) ∈ BG := ⟨w_1227, w_55, w_1228⟩
theorem hy_L_selects : (yL_selects).cls ≠ "java/lang/invoke/MethodHandle" ∧ (yL_selects).cls ≠ "java/lang/invoke/VarHandle" ∧ (parseMethodDescriptor (yL_selects).desc).map (fun d => d.parameters.length) = some 3 := ⟨by decide, by decide, by decide +kernel⟩
