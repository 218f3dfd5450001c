set_option maxRecDepth 100000 in
theorem w_640 : Cond.code yX11_refuseArgument cX11_refuseArgument 1 none ∈ BG := bg_in 640 (by rfl) (by decide +kernel)
set_option maxRecDepth 100000 in
theorem w_639 : Cond.static yX11_refuseArgument ∈ BG := bg_in 639 (by decide +kernel) (by decide +kernel)
set_option maxRecDepth 100000 in
theorem w_706 : Cond.code yX11_refuseState cX11_refuseState 1 none ∈ BG := bg_in 706 (by rfl) (by decide +kernel)
set_option maxRecDepth 100000 in
theorem w_705 : Cond.static yX11_refuseState ∈ BG := bg_in 705 (by decide +kernel) (by decide +kernel)
set_option maxRecDepth 100000 in
theorem w_704 : Cond.methodLink "Cascadery" 73 yX11_refuseState ∈ BG := bg_in 704 (by decide +kernel) (by decide +kernel)
set_option maxRecDepth 100000 in
theorem w_722 : Cond.methodLink "Cascadery" 76 yX10_addElement ∈ BG := bg_in 722 (by decide +kernel) (by decide +kernel)
set_option maxRecDepth 100000 in
theorem w_638 : Cond.methodLink "Cascadery" 65 yX11_refuseArgument ∈ BG := bg_in 638 (by decide +kernel) (by decide +kernel)
set_option maxRecDepth 100000 in
theorem w_329 : Cond.fieldLink "Cascadery" 69 "Cascadery$Trees" "count" "I" ∈ BG := bg_in 329 (by decide +kernel) (by decide +kernel)
set_option maxRecDepth 100000 in
theorem w_634 : Cond.code yX11_make cX11_make 2 (some .int) ∈ BG := bg_in 634 (by rfl) (by decide +kernel)
set_option maxRecDepth 100000 in
theorem w_632 : Cond.instanceMethod yX11_make ∈ BG := bg_in 632 (by decide +kernel) (by decide +kernel)
set_option maxRecDepth 100000 in
theorem w_633 : Cond.selects "Cascadery" yX11_make yX11_make ∈ BG := bg_in 633 (by decide +kernel) (by decide +kernel)
set_option maxRecDepth 100000 in
theorem w_739 : Cond.methodLink "Cascadery" 244 yX10_at ∈ BG := bg_in 739 (by decide +kernel) (by decide +kernel)
set_option maxRecDepth 100000 in
theorem w_738 : Cond.code yX11_elementAt cX11_elementAt 3 (some (.object "Cascadery$Element")) ∈ BG := bg_in 738 (by rfl) (by decide +kernel)
set_option maxRecDepth 100000 in
theorem w_737 : Cond.instanceMethod yX11_elementAt ∈ BG := bg_in 737 (by decide +kernel) (by decide +kernel)
set_option maxRecDepth 100000 in
theorem w_1 : Cond.selects "Cascadery" yX11_elementAt yX11_elementAt ∈ BG := bg_in 1 (by decide +kernel) (by decide +kernel)
set_option maxRecDepth 100000 in
theorem w_735 : Cond.methodLink "Cascadery" 80 yX11_elementAt ∈ BG := bg_in 735 (by decide +kernel) (by decide +kernel)
set_option maxRecDepth 100000 in
theorem w_1213 : Cond.methodLink "Cascadery" 90 yX10_layOut ∈ BG := bg_in 1213 (by decide +kernel) (by decide +kernel)
set_option maxRecDepth 100000 in
theorem w_1212 : Cond.code yX11_shadow cX11_shadow 3 none ∈ BG := bg_in 1212 (by rfl) (by decide +kernel)
set_option maxRecDepth 100000 in
theorem w_1210 : Cond.instanceMethod yX11_shadow ∈ BG := bg_in 1210 (by decide +kernel) (by decide +kernel)
set_option maxRecDepth 100000 in
theorem w_1211 : Cond.selects "Cascadery" yX11_shadow yX11_shadow ∈ BG := bg_in 1211 (by decide +kernel) (by decide +kernel)
set_option maxRecDepth 100000 in
theorem w_764 : Cond.code yX11_refuseBounds cX11_refuseBounds 1 none ∈ BG := bg_in 764 (by rfl) (by decide +kernel)
set_option maxRecDepth 100000 in
theorem w_763 : Cond.static yX11_refuseBounds ∈ BG := bg_in 763 (by decide +kernel) (by decide +kernel)
set_option maxRecDepth 100000 in
theorem w_773 : Cond.methodLink "Cascadery" 111 yX10_insert ∈ BG := bg_in 773 (by decide +kernel) (by decide +kernel)
set_option maxRecDepth 100000 in
theorem w_270 : Cond.fieldLink "Cascadery" 118 "Cascadery$Element" "treeHost" "LCascadery$Element;" ∈ BG := bg_in 270 (by decide +kernel) (by decide +kernel)
set_option maxRecDepth 100000 in
theorem w_818 : Cond.methodLink "Cascadery" 121 yX11_markMove ∈ BG := bg_in 818 (by decide +kernel) (by decide +kernel)
set_option maxRecDepth 100000 in
theorem w_762 : Cond.methodLink "Cascadery" 104 yX11_refuseBounds ∈ BG := bg_in 762 (by decide +kernel) (by decide +kernel)
set_option maxRecDepth 100000 in
theorem w_765 : Cond.methodLink "Cascadery" 107 yX10_mayEnter ∈ BG := bg_in 765 (by decide +kernel) (by decide +kernel)
set_option maxRecDepth 100000 in
theorem w_258 : Cond.fieldLink "Cascadery" 96 "Cascadery$Element" "firstChild" "LCascadery$Element;" ∈ BG := bg_in 258 (by decide +kernel) (by decide +kernel)
set_option maxRecDepth 100000 in
theorem w_758 : Cond.methodLink "Cascadery" 100 yX10_countFrom ∈ BG := bg_in 758 (by decide +kernel) (by decide +kernel)
set_option maxRecDepth 100000 in
theorem w_734 : Cond.code yX11_put cX11_put 6 none ∈ BG := bg_in 734 (by rfl) (by decide +kernel)
set_option maxRecDepth 100000 in
theorem w_732 : Cond.instanceMethod yX11_put ∈ BG := bg_in 732 (by decide +kernel) (by decide +kernel)
set_option maxRecDepth 100000 in
theorem w_733 : Cond.selects "Cascadery" yX11_put yX11_put ∈ BG := bg_in 733 (by decide +kernel) (by decide +kernel)
set_option maxRecDepth 100000 in
theorem w_260 : Cond.fieldLink "Cascadery" 125 "Cascadery$Element" "firstTop" "LCascadery$Element;" ∈ BG := bg_in 260 (by decide +kernel) (by decide +kernel)
set_option maxRecDepth 100000 in
theorem w_1205 : Cond.code yX11_putTop cX11_putTop 6 none ∈ BG := bg_in 1205 (by rfl) (by decide +kernel)
set_option maxRecDepth 100000 in
theorem w_1203 : Cond.instanceMethod yX11_putTop ∈ BG := bg_in 1203 (by decide +kernel) (by decide +kernel)
set_option maxRecDepth 100000 in
theorem w_1204 : Cond.selects "Cascadery" yX11_putTop yX11_putTop ∈ BG := bg_in 1204 (by decide +kernel) (by decide +kernel)
set_option maxRecDepth 100000 in
theorem w_845 : Cond.methodLink "Cascadery" 137 yX10_remove ∈ BG := bg_in 845 (by decide +kernel) (by decide +kernel)
set_option maxRecDepth 100000 in
theorem w_251 : Cond.fieldLink "Cascadery" 128 "Cascadery$Element" "parent" "LCascadery$Element;" ∈ BG := bg_in 251 (by decide +kernel) (by decide +kernel)
set_option maxRecDepth 100000 in
theorem w_255 : Cond.fieldLink "Cascadery" 131 "Cascadery$Element" "host" "LCascadery$Element;" ∈ BG := bg_in 255 (by decide +kernel) (by decide +kernel)
set_option maxRecDepth 100000 in
theorem w_844 : Cond.code yX11_take cX11_take 8 (some .int) ∈ BG := bg_in 844 (by rfl) (by decide +kernel)
set_option maxRecDepth 100000 in
theorem w_842 : Cond.instanceMethod yX11_take ∈ BG := bg_in 842 (by decide +kernel) (by decide +kernel)
set_option maxRecDepth 100000 in
theorem w_843 : Cond.selects "Cascadery" yX11_take yX11_take ∈ BG := bg_in 843 (by decide +kernel) (by decide +kernel)
set_option maxRecDepth 100000 in
theorem w_1093 : Cond.methodLink "Cascadery" 147 yX11_giveClass ∈ BG := bg_in 1093 (by decide +kernel) (by decide +kernel)
set_option maxRecDepth 100000 in
theorem w_1217 : Cond.code yX11_setClass cX11_setClass 6 (some .boolean) ∈ BG := bg_in 1217 (by rfl) (by decide +kernel)
set_option maxRecDepth 100000 in
theorem w_1215 : Cond.instanceMethod yX11_setClass ∈ BG := bg_in 1215 (by decide +kernel) (by decide +kernel)
set_option maxRecDepth 100000 in
theorem w_1216 : Cond.selects "Cascadery" yX11_setClass yX11_setClass ∈ BG := bg_in 1216 (by decide +kernel) (by decide +kernel)
set_option maxRecDepth 100000 in
theorem w_242 : Cond.fieldLink "Cascadery" 170 "Cascadery$Element" "attribute1" "I" ∈ BG := bg_in 242 (by decide +kernel) (by decide +kernel)
set_option maxRecDepth 100000 in
theorem w_239 : Cond.fieldLink "Cascadery" 167 "Cascadery$Element" "attribute0" "I" ∈ BG := bg_in 239 (by decide +kernel) (by decide +kernel)
set_option maxRecDepth 100000 in
theorem w_1221 : Cond.code yX11_setAttribute cX11_setAttribute 6 (some .int) ∈ BG := bg_in 1221 (by rfl) (by decide +kernel)
set_option maxRecDepth 100000 in
theorem w_1219 : Cond.instanceMethod yX11_setAttribute ∈ BG := bg_in 1219 (by decide +kernel) (by decide +kernel)
set_option maxRecDepth 100000 in
theorem w_1220 : Cond.selects "Cascadery" yX11_setAttribute yX11_setAttribute ∈ BG := bg_in 1220 (by decide +kernel) (by decide +kernel)
set_option maxRecDepth 100000 in
theorem w_245 : Cond.fieldLink "Cascadery" 177 "Cascadery$Element" "part" "I" ∈ BG := bg_in 245 (by decide +kernel) (by decide +kernel)
set_option maxRecDepth 100000 in
theorem w_1225 : Cond.code yX11_setPart cX11_setPart 5 (some .int) ∈ BG := bg_in 1225 (by rfl) (by decide +kernel)
set_option maxRecDepth 100000 in
theorem w_1223 : Cond.instanceMethod yX11_setPart ∈ BG := bg_in 1223 (by decide +kernel) (by decide +kernel)
set_option maxRecDepth 100000 in
theorem w_1224 : Cond.selects "Cascadery" yX11_setPart yX11_setPart ∈ BG := bg_in 1224 (by decide +kernel) (by decide +kernel)
theorem dX11_refuseArgument_0 : decode cX11_refuseArgument 0 = .ok (.iload_n 0, 1) := by decide +kernel
theorem dX11_refuseArgument_1 : decode cX11_refuseArgument 1 = .ok (.ifCond .eq 11, 3) := by decide +kernel
theorem dX11_refuseArgument_4 : decode cX11_refuseArgument 4 = .ok (.new 203, 3) := by decide +kernel
theorem dX11_refuseArgument_7 : decode cX11_refuseArgument 7 = .ok (.dup, 1) := by decide +kernel
theorem dX11_refuseArgument_8 : decode cX11_refuseArgument 8 = .ok (.invokespecial 205, 3) := by decide +kernel
theorem dX11_refuseArgument_11 : decode cX11_refuseArgument 11 = .ok (.athrow, 1) := by decide +kernel
theorem dX11_refuseArgument_12 : decode cX11_refuseArgument 12 = .ok (.return_, 1) := by decide +kernel
theorem dX11_refuseState_0 : decode cX11_refuseState 0 = .ok (.iload_n 0, 1) := by decide +kernel
theorem dX11_refuseState_1 : decode cX11_refuseState 1 = .ok (.ifCond .eq 11, 3) := by decide +kernel
theorem dX11_refuseState_4 : decode cX11_refuseState 4 = .ok (.new 404, 3) := by decide +kernel
theorem dX11_refuseState_7 : decode cX11_refuseState 7 = .ok (.dup, 1) := by decide +kernel
theorem dX11_refuseState_8 : decode cX11_refuseState 8 = .ok (.invokespecial 406, 3) := by decide +kernel
theorem dX11_refuseState_11 : decode cX11_refuseState 11 = .ok (.athrow, 1) := by decide +kernel
theorem dX11_refuseState_12 : decode cX11_refuseState 12 = .ok (.return_, 1) := by decide +kernel
theorem dX11_make_0 : decode cX11_make 0 = .ok (.iload_n 1, 1) := by decide +kernel
theorem dX11_make_1 : decode cX11_make 1 = .ok (.bipush 8, 2) := by decide +kernel
theorem dX11_make_3 : decode cX11_make 3 = .ok (.invokestatic 61, 3) := by decide +kernel
theorem dX11_make_6 : decode cX11_make 6 = .ok (.ifCond .ne 7, 3) := by decide +kernel
theorem dX11_make_9 : decode cX11_make 9 = .ok (.iconst 1, 1) := by decide +kernel
theorem dX11_make_10 : decode cX11_make 10 = .ok (.goto 4, 3) := by decide +kernel
theorem dX11_make_13 : decode cX11_make 13 = .ok (.iconst 0, 1) := by decide +kernel
theorem dX11_make_14 : decode cX11_make 14 = .ok (.invokestatic 65, 3) := by decide +kernel
theorem dX11_make_17 : decode cX11_make 17 = .ok (.aload_n 0, 1) := by decide +kernel
theorem dX11_make_18 : decode cX11_make 18 = .ok (.getfield 48, 3) := by decide +kernel
theorem dX11_make_21 : decode cX11_make 21 = .ok (.getfield 69, 3) := by decide +kernel
theorem dX11_make_24 : decode cX11_make 24 = .ok (.bipush 30, 2) := by decide +kernel
theorem dX11_make_26 : decode cX11_make 26 = .ok (.if_icmp .lt 7, 3) := by decide +kernel
theorem dX11_make_29 : decode cX11_make 29 = .ok (.iconst 1, 1) := by decide +kernel
theorem dX11_make_30 : decode cX11_make 30 = .ok (.goto 4, 3) := by decide +kernel
theorem dX11_make_33 : decode cX11_make 33 = .ok (.iconst 0, 1) := by decide +kernel
theorem dX11_make_34 : decode cX11_make 34 = .ok (.invokestatic 73, 3) := by decide +kernel
theorem dX11_make_37 : decode cX11_make 37 = .ok (.aload_n 0, 1) := by decide +kernel
theorem dX11_make_38 : decode cX11_make 38 = .ok (.getfield 48, 3) := by decide +kernel
theorem dX11_make_41 : decode cX11_make 41 = .ok (.iload_n 1, 1) := by decide +kernel
theorem dX11_make_42 : decode cX11_make 42 = .ok (.invokevirtual 76, 3) := by decide +kernel
theorem dX11_make_45 : decode cX11_make 45 = .ok (.ireturn, 1) := by decide +kernel
theorem dX11_elementAt_0 : decode cX11_elementAt 0 = .ok (.aload_n 0, 1) := by decide +kernel
theorem dX11_elementAt_1 : decode cX11_elementAt 1 = .ok (.getfield 48, 3) := by decide +kernel
theorem dX11_elementAt_4 : decode cX11_elementAt 4 = .ok (.iload_n 1, 1) := by decide +kernel
theorem dX11_elementAt_5 : decode cX11_elementAt 5 = .ok (.invokevirtual 244, 3) := by decide +kernel
theorem dX11_elementAt_8 : decode cX11_elementAt 8 = .ok (.astore_n 2, 1) := by decide +kernel
theorem dX11_elementAt_9 : decode cX11_elementAt 9 = .ok (.aload_n 2, 1) := by decide +kernel
theorem dX11_elementAt_10 : decode cX11_elementAt 10 = .ok (.ifnonnull 11, 3) := by decide +kernel
theorem dX11_elementAt_13 : decode cX11_elementAt 13 = .ok (.new 206, 3) := by decide +kernel
theorem dX11_elementAt_16 : decode cX11_elementAt 16 = .ok (.dup, 1) := by decide +kernel
theorem dX11_elementAt_17 : decode cX11_elementAt 17 = .ok (.invokespecial 208, 3) := by decide +kernel
theorem dX11_elementAt_20 : decode cX11_elementAt 20 = .ok (.athrow, 1) := by decide +kernel
theorem dX11_elementAt_21 : decode cX11_elementAt 21 = .ok (.aload_n 2, 1) := by decide +kernel
theorem dX11_elementAt_22 : decode cX11_elementAt 22 = .ok (.areturn, 1) := by decide +kernel
theorem dX11_shadow_0 : decode cX11_shadow 0 = .ok (.aload_n 0, 1) := by decide +kernel
theorem dX11_shadow_1 : decode cX11_shadow 1 = .ok (.iload_n 1, 1) := by decide +kernel
theorem dX11_shadow_2 : decode cX11_shadow 2 = .ok (.invokevirtual 80, 3) := by decide +kernel
theorem dX11_shadow_5 : decode cX11_shadow 5 = .ok (.astore_n 2, 1) := by decide +kernel
theorem dX11_shadow_6 : decode cX11_shadow 6 = .ok (.aload_n 2, 1) := by decide +kernel
theorem dX11_shadow_7 : decode cX11_shadow 7 = .ok (.getfield 84, 3) := by decide +kernel
theorem dX11_shadow_10 : decode cX11_shadow 10 = .ok (.invokestatic 73, 3) := by decide +kernel
theorem dX11_shadow_13 : decode cX11_shadow 13 = .ok (.aload_n 2, 1) := by decide +kernel
theorem dX11_shadow_14 : decode cX11_shadow 14 = .ok (.iconst 1, 1) := by decide +kernel
theorem dX11_shadow_15 : decode cX11_shadow 15 = .ok (.putfield 84, 3) := by decide +kernel
theorem dX11_shadow_18 : decode cX11_shadow 18 = .ok (.aload_n 0, 1) := by decide +kernel
theorem dX11_shadow_19 : decode cX11_shadow 19 = .ok (.getfield 48, 3) := by decide +kernel
theorem dX11_shadow_22 : decode cX11_shadow 22 = .ok (.invokevirtual 90, 3) := by decide +kernel
theorem dX11_shadow_25 : decode cX11_shadow 25 = .ok (.aload_n 0, 1) := by decide +kernel
theorem dX11_shadow_26 : decode cX11_shadow 26 = .ok (.invokevirtual 93, 3) := by decide +kernel
theorem dX11_shadow_29 : decode cX11_shadow 29 = .ok (.return_, 1) := by decide +kernel
theorem dX11_refuseBounds_0 : decode cX11_refuseBounds 0 = .ok (.iload_n 0, 1) := by decide +kernel
theorem dX11_refuseBounds_1 : decode cX11_refuseBounds 1 = .ok (.ifCond .eq 11, 3) := by decide +kernel
theorem dX11_refuseBounds_4 : decode cX11_refuseBounds 4 = .ok (.new 206, 3) := by decide +kernel
theorem dX11_refuseBounds_7 : decode cX11_refuseBounds 7 = .ok (.dup, 1) := by decide +kernel
theorem dX11_refuseBounds_8 : decode cX11_refuseBounds 8 = .ok (.invokespecial 208, 3) := by decide +kernel
theorem dX11_refuseBounds_11 : decode cX11_refuseBounds 11 = .ok (.athrow, 1) := by decide +kernel
theorem dX11_refuseBounds_12 : decode cX11_refuseBounds 12 = .ok (.return_, 1) := by decide +kernel
theorem dX11_put_0 : decode cX11_put 0 = .ok (.aload_n 0, 1) := by decide +kernel
theorem dX11_put_1 : decode cX11_put 1 = .ok (.iload_n 1, 1) := by decide +kernel
theorem dX11_put_2 : decode cX11_put 2 = .ok (.invokevirtual 80, 3) := by decide +kernel
theorem dX11_put_5 : decode cX11_put 5 = .ok (.astore 4, 2) := by decide +kernel
theorem dX11_put_7 : decode cX11_put 7 = .ok (.aload_n 0, 1) := by decide +kernel
theorem dX11_put_8 : decode cX11_put 8 = .ok (.iload_n 2, 1) := by decide +kernel
theorem dX11_put_9 : decode cX11_put 9 = .ok (.invokevirtual 80, 3) := by decide +kernel
theorem dX11_put_12 : decode cX11_put 12 = .ok (.astore 5, 2) := by decide +kernel
theorem dX11_put_14 : decode cX11_put 14 = .ok (.iload_n 3, 1) := by decide +kernel
theorem dX11_put_15 : decode cX11_put 15 = .ok (.ifCond .lt 19, 3) := by decide +kernel
theorem dX11_put_18 : decode cX11_put 18 = .ok (.iload_n 3, 1) := by decide +kernel
theorem dX11_put_19 : decode cX11_put 19 = .ok (.aload_n 0, 1) := by decide +kernel
theorem dX11_put_20 : decode cX11_put 20 = .ok (.getfield 48, 3) := by decide +kernel
theorem dX11_put_23 : decode cX11_put 23 = .ok (.aload 5, 2) := by decide +kernel
theorem dX11_put_25 : decode cX11_put 25 = .ok (.getfield 96, 3) := by decide +kernel
theorem dX11_put_28 : decode cX11_put 28 = .ok (.invokevirtual 100, 3) := by decide +kernel
theorem dX11_put_31 : decode cX11_put 31 = .ok (.if_icmp .le 7, 3) := by decide +kernel
theorem dX11_put_34 : decode cX11_put 34 = .ok (.iconst 1, 1) := by decide +kernel
theorem dX11_put_35 : decode cX11_put 35 = .ok (.goto 4, 3) := by decide +kernel
theorem dX11_put_38 : decode cX11_put 38 = .ok (.iconst 0, 1) := by decide +kernel
theorem dX11_put_39 : decode cX11_put 39 = .ok (.invokestatic 104, 3) := by decide +kernel
theorem dX11_put_42 : decode cX11_put 42 = .ok (.aload_n 0, 1) := by decide +kernel
theorem dX11_put_43 : decode cX11_put 43 = .ok (.getfield 48, 3) := by decide +kernel
theorem dX11_put_46 : decode cX11_put 46 = .ok (.aload 4, 2) := by decide +kernel
theorem dX11_put_48 : decode cX11_put 48 = .ok (.aload 5, 2) := by decide +kernel
theorem dX11_put_50 : decode cX11_put 50 = .ok (.invokevirtual 107, 3) := by decide +kernel
theorem dX11_put_53 : decode cX11_put 53 = .ok (.ifCond .ne 7, 3) := by decide +kernel
theorem dX11_put_56 : decode cX11_put 56 = .ok (.iconst 1, 1) := by decide +kernel
theorem dX11_put_57 : decode cX11_put 57 = .ok (.goto 4, 3) := by decide +kernel
theorem dX11_put_60 : decode cX11_put 60 = .ok (.iconst 0, 1) := by decide +kernel
theorem dX11_put_61 : decode cX11_put 61 = .ok (.invokestatic 73, 3) := by decide +kernel
theorem dX11_put_64 : decode cX11_put 64 = .ok (.aload_n 0, 1) := by decide +kernel
theorem dX11_put_65 : decode cX11_put 65 = .ok (.getfield 48, 3) := by decide +kernel
theorem dX11_put_68 : decode cX11_put 68 = .ok (.aload 4, 2) := by decide +kernel
theorem dX11_put_70 : decode cX11_put 70 = .ok (.aload 5, 2) := by decide +kernel
theorem dX11_put_72 : decode cX11_put 72 = .ok (.aconst_null, 1) := by decide +kernel
theorem dX11_put_73 : decode cX11_put 73 = .ok (.iload_n 3, 1) := by decide +kernel
theorem dX11_put_74 : decode cX11_put 74 = .ok (.invokevirtual 111, 3) := by decide +kernel
theorem dX11_put_77 : decode cX11_put 77 = .ok (.aload_n 0, 1) := by decide +kernel
theorem dX11_put_78 : decode cX11_put 78 = .ok (.aload 4, 2) := by decide +kernel
theorem dX11_put_80 : decode cX11_put 80 = .ok (.aload 4, 2) := by decide +kernel
theorem dX11_put_82 : decode cX11_put 82 = .ok (.getfield 115, 3) := by decide +kernel
theorem dX11_put_85 : decode cX11_put 85 = .ok (.aload 5, 2) := by decide +kernel
theorem dX11_put_87 : decode cX11_put 87 = .ok (.aload 4, 2) := by decide +kernel
theorem dX11_put_89 : decode cX11_put 89 = .ok (.getfield 118, 3) := by decide +kernel
theorem dX11_put_92 : decode cX11_put 92 = .ok (.invokevirtual 121, 3) := by decide +kernel
theorem dX11_put_95 : decode cX11_put 95 = .ok (.return_, 1) := by decide +kernel
theorem dX11_putTop_0 : decode cX11_putTop 0 = .ok (.aload_n 0, 1) := by decide +kernel
theorem dX11_putTop_1 : decode cX11_putTop 1 = .ok (.iload_n 1, 1) := by decide +kernel
theorem dX11_putTop_2 : decode cX11_putTop 2 = .ok (.invokevirtual 80, 3) := by decide +kernel
theorem dX11_putTop_5 : decode cX11_putTop 5 = .ok (.astore 4, 2) := by decide +kernel
theorem dX11_putTop_7 : decode cX11_putTop 7 = .ok (.aload_n 0, 1) := by decide +kernel
theorem dX11_putTop_8 : decode cX11_putTop 8 = .ok (.iload_n 2, 1) := by decide +kernel
theorem dX11_putTop_9 : decode cX11_putTop 9 = .ok (.invokevirtual 80, 3) := by decide +kernel
theorem dX11_putTop_12 : decode cX11_putTop 12 = .ok (.astore 5, 2) := by decide +kernel
theorem dX11_putTop_14 : decode cX11_putTop 14 = .ok (.aload 5, 2) := by decide +kernel
theorem dX11_putTop_16 : decode cX11_putTop 16 = .ok (.getfield 84, 3) := by decide +kernel
theorem dX11_putTop_19 : decode cX11_putTop 19 = .ok (.ifCond .eq 23, 3) := by decide +kernel
theorem dX11_putTop_22 : decode cX11_putTop 22 = .ok (.iload_n 3, 1) := by decide +kernel
theorem dX11_putTop_23 : decode cX11_putTop 23 = .ok (.ifCond .lt 19, 3) := by decide +kernel
theorem dX11_putTop_26 : decode cX11_putTop 26 = .ok (.iload_n 3, 1) := by decide +kernel
theorem dX11_putTop_27 : decode cX11_putTop 27 = .ok (.aload_n 0, 1) := by decide +kernel
theorem dX11_putTop_28 : decode cX11_putTop 28 = .ok (.getfield 48, 3) := by decide +kernel
theorem dX11_putTop_31 : decode cX11_putTop 31 = .ok (.aload 5, 2) := by decide +kernel
theorem dX11_putTop_33 : decode cX11_putTop 33 = .ok (.getfield 125, 3) := by decide +kernel
theorem dX11_putTop_36 : decode cX11_putTop 36 = .ok (.invokevirtual 100, 3) := by decide +kernel
theorem dX11_putTop_39 : decode cX11_putTop 39 = .ok (.if_icmp .le 7, 3) := by decide +kernel
theorem dX11_putTop_42 : decode cX11_putTop 42 = .ok (.iconst 1, 1) := by decide +kernel
theorem dX11_putTop_43 : decode cX11_putTop 43 = .ok (.goto 4, 3) := by decide +kernel
theorem dX11_putTop_46 : decode cX11_putTop 46 = .ok (.iconst 0, 1) := by decide +kernel
theorem dX11_putTop_47 : decode cX11_putTop 47 = .ok (.invokestatic 104, 3) := by decide +kernel
theorem dX11_putTop_50 : decode cX11_putTop 50 = .ok (.aload_n 0, 1) := by decide +kernel
theorem dX11_putTop_51 : decode cX11_putTop 51 = .ok (.getfield 48, 3) := by decide +kernel
theorem dX11_putTop_54 : decode cX11_putTop 54 = .ok (.aload 4, 2) := by decide +kernel
theorem dX11_putTop_56 : decode cX11_putTop 56 = .ok (.aload 5, 2) := by decide +kernel
theorem dX11_putTop_58 : decode cX11_putTop 58 = .ok (.invokevirtual 107, 3) := by decide +kernel
theorem dX11_putTop_61 : decode cX11_putTop 61 = .ok (.ifCond .ne 7, 3) := by decide +kernel
theorem dX11_putTop_64 : decode cX11_putTop 64 = .ok (.iconst 1, 1) := by decide +kernel
theorem dX11_putTop_65 : decode cX11_putTop 65 = .ok (.goto 4, 3) := by decide +kernel
theorem dX11_putTop_68 : decode cX11_putTop 68 = .ok (.iconst 0, 1) := by decide +kernel
theorem dX11_putTop_69 : decode cX11_putTop 69 = .ok (.invokestatic 73, 3) := by decide +kernel
theorem dX11_putTop_72 : decode cX11_putTop 72 = .ok (.aload_n 0, 1) := by decide +kernel
theorem dX11_putTop_73 : decode cX11_putTop 73 = .ok (.getfield 48, 3) := by decide +kernel
theorem dX11_putTop_76 : decode cX11_putTop 76 = .ok (.aload 4, 2) := by decide +kernel
theorem dX11_putTop_78 : decode cX11_putTop 78 = .ok (.aconst_null, 1) := by decide +kernel
theorem dX11_putTop_79 : decode cX11_putTop 79 = .ok (.aload 5, 2) := by decide +kernel
theorem dX11_putTop_81 : decode cX11_putTop 81 = .ok (.iload_n 3, 1) := by decide +kernel
theorem dX11_putTop_82 : decode cX11_putTop 82 = .ok (.invokevirtual 111, 3) := by decide +kernel
theorem dX11_putTop_85 : decode cX11_putTop 85 = .ok (.aload_n 0, 1) := by decide +kernel
theorem dX11_putTop_86 : decode cX11_putTop 86 = .ok (.aload 4, 2) := by decide +kernel
theorem dX11_putTop_88 : decode cX11_putTop 88 = .ok (.aload 4, 2) := by decide +kernel
theorem dX11_putTop_90 : decode cX11_putTop 90 = .ok (.getfield 115, 3) := by decide +kernel
theorem dX11_putTop_93 : decode cX11_putTop 93 = .ok (.aconst_null, 1) := by decide +kernel
theorem dX11_putTop_94 : decode cX11_putTop 94 = .ok (.aload 5, 2) := by decide +kernel
theorem dX11_putTop_96 : decode cX11_putTop 96 = .ok (.invokevirtual 121, 3) := by decide +kernel
theorem dX11_putTop_99 : decode cX11_putTop 99 = .ok (.return_, 1) := by decide +kernel
theorem dX11_take_0 : decode cX11_take 0 = .ok (.aload_n 0, 1) := by decide +kernel
theorem dX11_take_1 : decode cX11_take 1 = .ok (.iload_n 1, 1) := by decide +kernel
theorem dX11_take_2 : decode cX11_take 2 = .ok (.invokevirtual 80, 3) := by decide +kernel
theorem dX11_take_5 : decode cX11_take 5 = .ok (.astore_n 2, 1) := by decide +kernel
theorem dX11_take_6 : decode cX11_take 6 = .ok (.aload_n 2, 1) := by decide +kernel
theorem dX11_take_7 : decode cX11_take 7 = .ok (.getfield 128, 3) := by decide +kernel
theorem dX11_take_10 : decode cX11_take 10 = .ok (.astore_n 3, 1) := by decide +kernel
theorem dX11_take_11 : decode cX11_take 11 = .ok (.aload_n 2, 1) := by decide +kernel
theorem dX11_take_12 : decode cX11_take 12 = .ok (.getfield 131, 3) := by decide +kernel
theorem dX11_take_15 : decode cX11_take 15 = .ok (.astore 4, 2) := by decide +kernel
theorem dX11_take_17 : decode cX11_take 17 = .ok (.aload_n 3, 1) := by decide +kernel
theorem dX11_take_18 : decode cX11_take 18 = .ok (.ifnull 10, 3) := by decide +kernel
theorem dX11_take_21 : decode cX11_take 21 = .ok (.aload_n 3, 1) := by decide +kernel
theorem dX11_take_22 : decode cX11_take 22 = .ok (.getfield 134, 3) := by decide +kernel
theorem dX11_take_25 : decode cX11_take 25 = .ok (.goto 20, 3) := by decide +kernel
theorem dX11_take_28 : decode cX11_take 28 = .ok (.aload 4, 2) := by decide +kernel
theorem dX11_take_30 : decode cX11_take 30 = .ok (.ifnull 14, 3) := by decide +kernel
theorem dX11_take_33 : decode cX11_take 33 = .ok (.bipush 100, 2) := by decide +kernel
theorem dX11_take_35 : decode cX11_take 35 = .ok (.aload 4, 2) := by decide +kernel
theorem dX11_take_37 : decode cX11_take 37 = .ok (.getfield 134, 3) := by decide +kernel
theorem dX11_take_40 : decode cX11_take 40 = .ok (.iadd, 1) := by decide +kernel
theorem dX11_take_41 : decode cX11_take 41 = .ok (.goto 4, 3) := by decide +kernel
theorem dX11_take_44 : decode cX11_take 44 = .ok (.iconst (-1), 1) := by decide +kernel
theorem dX11_take_45 : decode cX11_take 45 = .ok (.istore 5, 2) := by decide +kernel
theorem dX11_take_47 : decode cX11_take 47 = .ok (.iload 5, 2) := by decide +kernel
theorem dX11_take_49 : decode cX11_take 49 = .ok (.iconst (-1), 1) := by decide +kernel
theorem dX11_take_50 : decode cX11_take 50 = .ok (.if_icmp .ne 7, 3) := by decide +kernel
theorem dX11_take_53 : decode cX11_take 53 = .ok (.iconst 1, 1) := by decide +kernel
theorem dX11_take_54 : decode cX11_take 54 = .ok (.goto 4, 3) := by decide +kernel
theorem dX11_take_57 : decode cX11_take 57 = .ok (.iconst 0, 1) := by decide +kernel
theorem dX11_take_58 : decode cX11_take 58 = .ok (.invokestatic 73, 3) := by decide +kernel
theorem dX11_take_61 : decode cX11_take 61 = .ok (.aload_n 2, 1) := by decide +kernel
theorem dX11_take_62 : decode cX11_take 62 = .ok (.getfield 115, 3) := by decide +kernel
theorem dX11_take_65 : decode cX11_take 65 = .ok (.astore 6, 2) := by decide +kernel
theorem dX11_take_67 : decode cX11_take 67 = .ok (.aload_n 2, 1) := by decide +kernel
theorem dX11_take_68 : decode cX11_take 68 = .ok (.getfield 118, 3) := by decide +kernel
theorem dX11_take_71 : decode cX11_take 71 = .ok (.astore 7, 2) := by decide +kernel
theorem dX11_take_73 : decode cX11_take 73 = .ok (.aload_n 0, 1) := by decide +kernel
theorem dX11_take_74 : decode cX11_take 74 = .ok (.getfield 48, 3) := by decide +kernel
theorem dX11_take_77 : decode cX11_take 77 = .ok (.aload_n 2, 1) := by decide +kernel
theorem dX11_take_78 : decode cX11_take 78 = .ok (.invokevirtual 137, 3) := by decide +kernel
theorem dX11_take_81 : decode cX11_take 81 = .ok (.aload_n 0, 1) := by decide +kernel
theorem dX11_take_82 : decode cX11_take 82 = .ok (.aload_n 2, 1) := by decide +kernel
theorem dX11_take_83 : decode cX11_take 83 = .ok (.aload 6, 2) := by decide +kernel
theorem dX11_take_85 : decode cX11_take 85 = .ok (.aload_n 3, 1) := by decide +kernel
theorem dX11_take_86 : decode cX11_take 86 = .ok (.aload 7, 2) := by decide +kernel
theorem dX11_take_88 : decode cX11_take 88 = .ok (.invokevirtual 121, 3) := by decide +kernel
theorem dX11_take_91 : decode cX11_take 91 = .ok (.iload 5, 2) := by decide +kernel
theorem dX11_take_93 : decode cX11_take 93 = .ok (.ireturn, 1) := by decide +kernel
theorem dX11_setClass_0 : decode cX11_setClass 0 = .ok (.aload_n 0, 1) := by decide +kernel
theorem dX11_setClass_1 : decode cX11_setClass 1 = .ok (.iload_n 1, 1) := by decide +kernel
theorem dX11_setClass_2 : decode cX11_setClass 2 = .ok (.invokevirtual 80, 3) := by decide +kernel
theorem dX11_setClass_5 : decode cX11_setClass 5 = .ok (.astore 4, 2) := by decide +kernel
theorem dX11_setClass_7 : decode cX11_setClass 7 = .ok (.iload_n 2, 1) := by decide +kernel
theorem dX11_setClass_8 : decode cX11_setClass 8 = .ok (.bipush 8, 2) := by decide +kernel
theorem dX11_setClass_10 : decode cX11_setClass 10 = .ok (.invokestatic 61, 3) := by decide +kernel
theorem dX11_setClass_13 : decode cX11_setClass 13 = .ok (.ifCond .ne 7, 3) := by decide +kernel
theorem dX11_setClass_16 : decode cX11_setClass 16 = .ok (.iconst 1, 1) := by decide +kernel
theorem dX11_setClass_17 : decode cX11_setClass 17 = .ok (.goto 4, 3) := by decide +kernel
theorem dX11_setClass_20 : decode cX11_setClass 20 = .ok (.iconst 0, 1) := by decide +kernel
theorem dX11_setClass_21 : decode cX11_setClass 21 = .ok (.invokestatic 65, 3) := by decide +kernel
theorem dX11_setClass_24 : decode cX11_setClass 24 = .ok (.aload 4, 2) := by decide +kernel
theorem dX11_setClass_26 : decode cX11_setClass 26 = .ok (.getfield 141, 3) := by decide +kernel
theorem dX11_setClass_29 : decode cX11_setClass 29 = .ok (.iload_n 2, 1) := by decide +kernel
theorem dX11_setClass_30 : decode cX11_setClass 30 = .ok (.invokestatic 144, 3) := by decide +kernel
theorem dX11_setClass_33 : decode cX11_setClass 33 = .ok (.istore 5, 2) := by decide +kernel
theorem dX11_setClass_35 : decode cX11_setClass 35 = .ok (.aload_n 0, 1) := by decide +kernel
theorem dX11_setClass_36 : decode cX11_setClass 36 = .ok (.aload 4, 2) := by decide +kernel
theorem dX11_setClass_38 : decode cX11_setClass 38 = .ok (.iload_n 2, 1) := by decide +kernel
theorem dX11_setClass_39 : decode cX11_setClass 39 = .ok (.iload_n 3, 1) := by decide +kernel
theorem dX11_setClass_40 : decode cX11_setClass 40 = .ok (.invokevirtual 147, 3) := by decide +kernel
theorem dX11_setClass_43 : decode cX11_setClass 43 = .ok (.iload 5, 2) := by decide +kernel
theorem dX11_setClass_45 : decode cX11_setClass 45 = .ok (.ireturn, 1) := by decide +kernel
theorem dX11_setAttribute_0 : decode cX11_setAttribute 0 = .ok (.aload_n 0, 1) := by decide +kernel
theorem dX11_setAttribute_1 : decode cX11_setAttribute 1 = .ok (.iload_n 1, 1) := by decide +kernel
theorem dX11_setAttribute_2 : decode cX11_setAttribute 2 = .ok (.invokevirtual 80, 3) := by decide +kernel
theorem dX11_setAttribute_5 : decode cX11_setAttribute 5 = .ok (.astore 4, 2) := by decide +kernel
theorem dX11_setAttribute_7 : decode cX11_setAttribute 7 = .ok (.iload_n 2, 1) := by decide +kernel
theorem dX11_setAttribute_8 : decode cX11_setAttribute 8 = .ok (.iconst 2, 1) := by decide +kernel
theorem dX11_setAttribute_9 : decode cX11_setAttribute 9 = .ok (.invokestatic 61, 3) := by decide +kernel
theorem dX11_setAttribute_12 : decode cX11_setAttribute 12 = .ok (.ifCond .eq 17, 3) := by decide +kernel
theorem dX11_setAttribute_15 : decode cX11_setAttribute 15 = .ok (.iload_n 3, 1) := by decide +kernel
theorem dX11_setAttribute_16 : decode cX11_setAttribute 16 = .ok (.iconst (-1), 1) := by decide +kernel
theorem dX11_setAttribute_17 : decode cX11_setAttribute 17 = .ok (.if_icmp .eq 16, 3) := by decide +kernel
theorem dX11_setAttribute_20 : decode cX11_setAttribute 20 = .ok (.iload_n 3, 1) := by decide +kernel
theorem dX11_setAttribute_21 : decode cX11_setAttribute 21 = .ok (.bipush 10, 2) := by decide +kernel
theorem dX11_setAttribute_23 : decode cX11_setAttribute 23 = .ok (.invokestatic 61, 3) := by decide +kernel
theorem dX11_setAttribute_26 : decode cX11_setAttribute 26 = .ok (.ifCond .ne 7, 3) := by decide +kernel
theorem dX11_setAttribute_29 : decode cX11_setAttribute 29 = .ok (.iconst 1, 1) := by decide +kernel
theorem dX11_setAttribute_30 : decode cX11_setAttribute 30 = .ok (.goto 4, 3) := by decide +kernel
theorem dX11_setAttribute_33 : decode cX11_setAttribute 33 = .ok (.iconst 0, 1) := by decide +kernel
theorem dX11_setAttribute_34 : decode cX11_setAttribute 34 = .ok (.invokestatic 65, 3) := by decide +kernel
theorem dX11_setAttribute_37 : decode cX11_setAttribute 37 = .ok (.iload_n 2, 1) := by decide +kernel
theorem dX11_setAttribute_38 : decode cX11_setAttribute 38 = .ok (.ifCond .ne 11, 3) := by decide +kernel
theorem dX11_setAttribute_41 : decode cX11_setAttribute 41 = .ok (.aload 4, 2) := by decide +kernel
theorem dX11_setAttribute_43 : decode cX11_setAttribute 43 = .ok (.getfield 167, 3) := by decide +kernel
theorem dX11_setAttribute_46 : decode cX11_setAttribute 46 = .ok (.goto 8, 3) := by decide +kernel
theorem dX11_setAttribute_49 : decode cX11_setAttribute 49 = .ok (.aload 4, 2) := by decide +kernel
theorem dX11_setAttribute_51 : decode cX11_setAttribute 51 = .ok (.getfield 170, 3) := by decide +kernel
theorem dX11_setAttribute_54 : decode cX11_setAttribute 54 = .ok (.istore 5, 2) := by decide +kernel
theorem dX11_setAttribute_56 : decode cX11_setAttribute 56 = .ok (.iload_n 2, 1) := by decide +kernel
theorem dX11_setAttribute_57 : decode cX11_setAttribute 57 = .ok (.ifCond .ne 25, 3) := by decide +kernel
theorem dX11_setAttribute_60 : decode cX11_setAttribute 60 = .ok (.aload 4, 2) := by decide +kernel
theorem dX11_setAttribute_62 : decode cX11_setAttribute 62 = .ok (.iload_n 3, 1) := by decide +kernel
theorem dX11_setAttribute_63 : decode cX11_setAttribute 63 = .ok (.putfield 167, 3) := by decide +kernel
theorem dX11_setAttribute_66 : decode cX11_setAttribute 66 = .ok (.aload_n 0, 1) := by decide +kernel
theorem dX11_setAttribute_67 : decode cX11_setAttribute 67 = .ok (.getfield 48, 3) := by decide +kernel
theorem dX11_setAttribute_70 : decode cX11_setAttribute 70 = .ok (.dup, 1) := by decide +kernel
theorem dX11_setAttribute_71 : decode cX11_setAttribute 71 = .ok (.getfield 154, 3) := by decide +kernel
theorem dX11_setAttribute_74 : decode cX11_setAttribute 74 = .ok (.iconst 1, 1) := by decide +kernel
theorem dX11_setAttribute_75 : decode cX11_setAttribute 75 = .ok (.iadd, 1) := by decide +kernel
theorem dX11_setAttribute_76 : decode cX11_setAttribute 76 = .ok (.putfield 154, 3) := by decide +kernel
theorem dX11_setAttribute_79 : decode cX11_setAttribute 79 = .ok (.goto 30, 3) := by decide +kernel
theorem dX11_setAttribute_82 : decode cX11_setAttribute 82 = .ok (.aload 4, 2) := by decide +kernel
theorem dX11_setAttribute_84 : decode cX11_setAttribute 84 = .ok (.iload_n 3, 1) := by decide +kernel
theorem dX11_setAttribute_85 : decode cX11_setAttribute 85 = .ok (.putfield 170, 3) := by decide +kernel
theorem dX11_setAttribute_88 : decode cX11_setAttribute 88 = .ok (.aload_n 0, 1) := by decide +kernel
theorem dX11_setAttribute_89 : decode cX11_setAttribute 89 = .ok (.getfield 48, 3) := by decide +kernel
theorem dX11_setAttribute_92 : decode cX11_setAttribute 92 = .ok (.invokevirtual 90, 3) := by decide +kernel
theorem dX11_setAttribute_95 : decode cX11_setAttribute 95 = .ok (.aload_n 0, 1) := by decide +kernel
theorem dX11_setAttribute_96 : decode cX11_setAttribute 96 = .ok (.aload 4, 2) := by decide +kernel
theorem dX11_setAttribute_98 : decode cX11_setAttribute 98 = .ok (.getfield 128, 3) := by decide +kernel
theorem dX11_setAttribute_101 : decode cX11_setAttribute 101 = .ok (.aload 4, 2) := by decide +kernel
theorem dX11_setAttribute_103 : decode cX11_setAttribute 103 = .ok (.getfield 118, 3) := by decide +kernel
theorem dX11_setAttribute_106 : decode cX11_setAttribute 106 = .ok (.invokevirtual 173, 3) := by decide +kernel
theorem dX11_setAttribute_109 : decode cX11_setAttribute 109 = .ok (.aload_n 0, 1) := by decide +kernel
theorem dX11_setAttribute_110 : decode cX11_setAttribute 110 = .ok (.aload 4, 2) := by decide +kernel
theorem dX11_setAttribute_112 : decode cX11_setAttribute 112 = .ok (.iconst 3, 1) := by decide +kernel
theorem dX11_setAttribute_113 : decode cX11_setAttribute 113 = .ok (.iload_n 2, 1) := by decide +kernel
theorem dX11_setAttribute_114 : decode cX11_setAttribute 114 = .ok (.invokestatic 157, 3) := by decide +kernel
theorem dX11_setAttribute_117 : decode cX11_setAttribute 117 = .ok (.invokevirtual 163, 3) := by decide +kernel
theorem dX11_setAttribute_120 : decode cX11_setAttribute 120 = .ok (.iload 5, 2) := by decide +kernel
theorem dX11_setAttribute_122 : decode cX11_setAttribute 122 = .ok (.ireturn, 1) := by decide +kernel
theorem dX11_setPart_0 : decode cX11_setPart 0 = .ok (.aload_n 0, 1) := by decide +kernel
theorem dX11_setPart_1 : decode cX11_setPart 1 = .ok (.iload_n 1, 1) := by decide +kernel
theorem dX11_setPart_2 : decode cX11_setPart 2 = .ok (.invokevirtual 80, 3) := by decide +kernel
theorem dX11_setPart_5 : decode cX11_setPart 5 = .ok (.astore_n 3, 1) := by decide +kernel
theorem dX11_setPart_6 : decode cX11_setPart 6 = .ok (.iload_n 2, 1) := by decide +kernel
theorem dX11_setPart_7 : decode cX11_setPart 7 = .ok (.iconst (-1), 1) := by decide +kernel
theorem dX11_setPart_8 : decode cX11_setPart 8 = .ok (.if_icmp .eq 15, 3) := by decide +kernel
theorem dX11_setPart_11 : decode cX11_setPart 11 = .ok (.iload_n 2, 1) := by decide +kernel
theorem dX11_setPart_12 : decode cX11_setPart 12 = .ok (.iconst 4, 1) := by decide +kernel
theorem dX11_setPart_13 : decode cX11_setPart 13 = .ok (.invokestatic 61, 3) := by decide +kernel
theorem dX11_setPart_16 : decode cX11_setPart 16 = .ok (.ifCond .ne 7, 3) := by decide +kernel
theorem dX11_setPart_19 : decode cX11_setPart 19 = .ok (.iconst 1, 1) := by decide +kernel
theorem dX11_setPart_20 : decode cX11_setPart 20 = .ok (.goto 4, 3) := by decide +kernel
theorem dX11_setPart_23 : decode cX11_setPart 23 = .ok (.iconst 0, 1) := by decide +kernel
theorem dX11_setPart_24 : decode cX11_setPart 24 = .ok (.invokestatic 65, 3) := by decide +kernel
theorem dX11_setPart_27 : decode cX11_setPart 27 = .ok (.aload_n 3, 1) := by decide +kernel
theorem dX11_setPart_28 : decode cX11_setPart 28 = .ok (.getfield 177, 3) := by decide +kernel
theorem dX11_setPart_31 : decode cX11_setPart 31 = .ok (.istore 4, 2) := by decide +kernel
theorem dX11_setPart_33 : decode cX11_setPart 33 = .ok (.aload_n 3, 1) := by decide +kernel
theorem dX11_setPart_34 : decode cX11_setPart 34 = .ok (.iload_n 2, 1) := by decide +kernel
theorem dX11_setPart_35 : decode cX11_setPart 35 = .ok (.putfield 177, 3) := by decide +kernel
theorem dX11_setPart_38 : decode cX11_setPart 38 = .ok (.aload_n 0, 1) := by decide +kernel
theorem dX11_setPart_39 : decode cX11_setPart 39 = .ok (.getfield 48, 3) := by decide +kernel
theorem dX11_setPart_42 : decode cX11_setPart 42 = .ok (.dup, 1) := by decide +kernel
theorem dX11_setPart_43 : decode cX11_setPart 43 = .ok (.getfield 154, 3) := by decide +kernel
theorem dX11_setPart_46 : decode cX11_setPart 46 = .ok (.iconst 1, 1) := by decide +kernel
theorem dX11_setPart_47 : decode cX11_setPart 47 = .ok (.iadd, 1) := by decide +kernel
theorem dX11_setPart_48 : decode cX11_setPart 48 = .ok (.putfield 154, 3) := by decide +kernel
theorem dX11_setPart_51 : decode cX11_setPart 51 = .ok (.aload_n 0, 1) := by decide +kernel
theorem dX11_setPart_52 : decode cX11_setPart 52 = .ok (.iconst 1, 1) := by decide +kernel
theorem dX11_setPart_53 : decode cX11_setPart 53 = .ok (.aload_n 3, 1) := by decide +kernel
theorem dX11_setPart_54 : decode cX11_setPart 54 = .ok (.getfield 134, 3) := by decide +kernel
theorem dX11_setPart_57 : decode cX11_setPart 57 = .ok (.ishl, 1) := by decide +kernel
theorem dX11_setPart_58 : decode cX11_setPart 58 = .ok (.invokevirtual 180, 3) := by decide +kernel
theorem dX11_setPart_61 : decode cX11_setPart 61 = .ok (.iload 4, 2) := by decide +kernel
theorem dX11_setPart_63 : decode cX11_setPart 63 = .ok (.ireturn, 1) := by decide +kernel
def f_X11_refuseArgument  (x0 : Int32) (σ : cS) : Option ((Nat ⊕ Unit) × cS) := if x0 = (0:Int32) then (some (.inr (), σ)) else (some (.inl 0, σ))
set_option maxRecDepth 20000 in
set_option maxHeartbeats 4000000 in
theorem K_X11_refuseArgument (l : Launch) (hl9 : l.stackTraces = false) (D : cD) (Φ : cG) (σ : cS)  (x0 : Int32) {q : (Nat ⊕ Unit) × cS} (h : f_X11_refuseArgument  x0 σ = some q) : vx_Met l yX11_refuseArgument (Cond.code yX11_refuseArgument cX11_refuseArgument 1 none :: BG) (rA 6 1 6 90) (cPc D Φ σ [.int x0]) (cQt vlU D Φ q) (cXC D Φ q) 1 6 (cReg Φ) := by
  refine vx_ofW (cc := cX11_refuseArgument) (maxL := 1) (ret := none) (by decide) rfl ?_
  intro p e s m args below meth c s₁ B hml hnt hv
  obtain ⟨rfl, hP, hK, hZ⟩ := hv
  have X : cX p s m [.int x0].toArray meth c cX11_refuseArgument 1 none RX11 D Φ := cX_of B hml hK hZ
  have hx := X.1
  have hb := X.2.1
  have hown := X.2.2.2.1
  have hts := X.2.2.2.2.1
  have hl := lv_entry [.int x0] (n := 1) (by simp only [lgs_r, lgs_i, lgs_l, lgs_0, List.length]; exact Nat.le_of_ble_eq_true rfl)
  rw [lg_entry_eq]
  generalize (lg_sl [.int x0] ++ List.replicate (1 - (lg_sl [.int x0]).length) Slot.unset).toArray = ls at hl ⊢
  simp only [lv_args_r, lv_args_i, lv_args_l, lv_args_0] at hl
  have hl : lv_has ls 1 [(0, .int x0)] := hl
  have hS : va_S (cReg Φ) s.heap s.heap [] := va_S.rf
  show cWt p l e 6 1 6 90 s m [.int x0].toArray below meth c D Φ vlU q s.heap [] 0 0 (F0 m 0 ls [])
  have h : (if x0 = (0:Int32) then (some (.inr (), σ)) else (some (.inl 0, σ))) = some q := h
  refine lv_iload_n hx hb dX11_refuseArgument_0 rfl (lv_at hl 0 rfl) ?_
  refine lv_if_eq (tgt := 12) hx hb dX11_refuseArgument_1 rfl (fun hc => ?_) (fun hc => ?_)
  · have h := ip hc h
    exact c_tv X hP hS (sj h).symm (Nat.le_of_ble_eq_true rfl) (Nat.le_of_ble_eq_true rfl) dX11_refuseArgument_12
  · have h := ine hc h
    exact c_thr0 hl9 X hnt hP hS hl.1 dX11_refuseArgument_4 dX11_refuseArgument_7 dX11_refuseArgument_8 dX11_refuseArgument_11 (sj h).symm (Nat.le_of_ble_eq_true rfl) (Nat.le_of_ble_eq_true rfl) (Nat.le_of_ble_eq_true rfl) (Nat.le_of_ble_eq_true rfl) (Nat.le_of_ble_eq_true rfl)
theorem ww_X11_refuseArgument : Cond.static yX11_refuseArgument ∈ BG ∧ Cond.initialized (yX11_refuseArgument).cls ∈ BG ∧ Cond.code yX11_refuseArgument cX11_refuseArgument 1 none ∈ BG := ⟨w_639, w_56, w_640⟩
theorem hy_X11_refuseArgument : (yX11_refuseArgument).cls ≠ "java/lang/invoke/MethodHandle" ∧ (yX11_refuseArgument).cls ≠ "java/lang/invoke/VarHandle" ∧ (parseMethodDescriptor (yX11_refuseArgument).desc).map (fun d => d.parameters.length) = some 1 := ⟨by decide, by decide, by decide +kernel⟩
def f_X11_refuseState  (x0 : Int32) (σ : cS) : Option ((Nat ⊕ Unit) × cS) := if x0 = (0:Int32) then (some (.inr (), σ)) else (some (.inl 1, σ))
set_option maxRecDepth 20000 in
set_option maxHeartbeats 4000000 in
theorem K_X11_refuseState (l : Launch) (hl9 : l.stackTraces = false) (D : cD) (Φ : cG) (σ : cS)  (x0 : Int32) {q : (Nat ⊕ Unit) × cS} (h : f_X11_refuseState  x0 σ = some q) : vx_Met l yX11_refuseState (Cond.code yX11_refuseState cX11_refuseState 1 none :: BG) (rA 6 1 6 90) (cPc D Φ σ [.int x0]) (cQt vlU D Φ q) (cXC D Φ q) 1 6 (cReg Φ) := by
  refine vx_ofW (cc := cX11_refuseState) (maxL := 1) (ret := none) (by decide) rfl ?_
  intro p e s m args below meth c s₁ B hml hnt hv
  obtain ⟨rfl, hP, hK, hZ⟩ := hv
  have X : cX p s m [.int x0].toArray meth c cX11_refuseState 1 none RX11 D Φ := cX_of B hml hK hZ
  have hx := X.1
  have hb := X.2.1
  have hown := X.2.2.2.1
  have hts := X.2.2.2.2.1
  have hl := lv_entry [.int x0] (n := 1) (by simp only [lgs_r, lgs_i, lgs_l, lgs_0, List.length]; exact Nat.le_of_ble_eq_true rfl)
  rw [lg_entry_eq]
  generalize (lg_sl [.int x0] ++ List.replicate (1 - (lg_sl [.int x0]).length) Slot.unset).toArray = ls at hl ⊢
  simp only [lv_args_r, lv_args_i, lv_args_l, lv_args_0] at hl
  have hl : lv_has ls 1 [(0, .int x0)] := hl
  have hS : va_S (cReg Φ) s.heap s.heap [] := va_S.rf
  show cWt p l e 6 1 6 90 s m [.int x0].toArray below meth c D Φ vlU q s.heap [] 0 0 (F0 m 0 ls [])
  have h : (if x0 = (0:Int32) then (some (.inr (), σ)) else (some (.inl 1, σ))) = some q := h
  refine lv_iload_n hx hb dX11_refuseState_0 rfl (lv_at hl 0 rfl) ?_
  refine lv_if_eq (tgt := 12) hx hb dX11_refuseState_1 rfl (fun hc => ?_) (fun hc => ?_)
  · have h := ip hc h
    exact c_tv X hP hS (sj h).symm (Nat.le_of_ble_eq_true rfl) (Nat.le_of_ble_eq_true rfl) dX11_refuseState_12
  · have h := ine hc h
    exact c_thr1 hl9 X hnt hP hS hl.1 dX11_refuseState_4 dX11_refuseState_7 dX11_refuseState_8 dX11_refuseState_11 (sj h).symm (Nat.le_of_ble_eq_true rfl) (Nat.le_of_ble_eq_true rfl) (Nat.le_of_ble_eq_true rfl) (Nat.le_of_ble_eq_true rfl) (Nat.le_of_ble_eq_true rfl)
theorem ww_X11_refuseState : Cond.static yX11_refuseState ∈ BG ∧ Cond.initialized (yX11_refuseState).cls ∈ BG ∧ Cond.code yX11_refuseState cX11_refuseState 1 none ∈ BG := ⟨w_705, w_56, w_706⟩
theorem hy_X11_refuseState : (yX11_refuseState).cls ≠ "java/lang/invoke/MethodHandle" ∧ (yX11_refuseState).cls ≠ "java/lang/invoke/VarHandle" ∧ (parseMethodDescriptor (yX11_refuseState).desc).map (fun d => d.parameters.length) = some 1 := ⟨by decide, by decide, by decide +kernel⟩
def f_X11_make_34  (x0 : Nat) (x1 : Int32) (y0 : Int32) (σ : cS) : Option ((Nat ⊕ Int32) × cS) := (f_X11_refuseState (y0) σ).bind (fun v1 => v1.1.elim (fun k => some (.inl k, v1.2)) (fun w2 => (gR v1.2 (some x0) 11 0).bind (fun v3 => (rc v1.2 v3 10).bind (fun v4 => (f_X10_addElement v4 (x1) v1.2).bind (fun v5 => some (.inr v5.1, v5.2))))))
def f_X11_make_14  (x0 : Nat) (x1 : Int32) (y0 : Int32) (σ : cS) : Option ((Nat ⊕ Int32) × cS) := (f_X11_refuseArgument (y0) σ).bind (fun v1 => v1.1.elim (fun k => some (.inl k, v1.2)) (fun w2 => (gR v1.2 (some x0) 11 0).bind (fun v3 => (gI v1.2 v3 10 1).bind (fun v4 => if v4 < (30:Int32) then (f_X11_make_34 x0 (x1) ((0:Int32)) v1.2) else (f_X11_make_34 x0 (x1) ((1:Int32)) v1.2)))))
def f_X11_make (x0 : Nat) (x1 : Int32) (σ : cS) : Option ((Nat ⊕ Int32) × cS) := (f_X11_isBelow (x1) ((8:Int32))).bind (fun v1 => if v1 = (0:Int32) then (f_X11_make_14 x0 (x1) ((1:Int32)) σ) else (f_X11_make_14 x0 (x1) ((0:Int32)) σ))
set_option maxRecDepth 20000 in
set_option maxHeartbeats 4000000 in
theorem N_X11_make_34 {p : Program} {l : Launch} {e : Env} {s : State} {m : MethodId} {args : Array Value} {below : List Frame} {meth : Method} {c : Code} {D : cD} {Φ : cG} {x0 : Nat}   {x1 : Int32} {y0 : Int32} {σ : cS} {H : Heap} {locs : List Loc} {ls : Array Slot} {q : (Nat ⊕ Int32) × cS} (X : cX p s m args meth c cX11_make 2 (some .int) RX11 D Φ) (hl9 : l.stackTraces = false) (hnt : ∀ x ∈ c.exceptionTable.toList, False) (hP : cP D Φ σ H) (hS : va_S (cReg Φ) s.heap H locs)  (hl : lv_has ls 2 [(0, cv Φ (some x0)), (1, .int x1)]) (h : f_X11_make_34  x0 x1 y0 σ = some q) : cWt p l e 7 13 151 110 s m args below meth c D Φ vlI q H locs 1 6 (F0 m 34 ls [.int y0]) := by
  have hx := X.1
  have hb := X.2.1
  have hown := X.2.2.2.1
  have hts := X.2.2.2.2.1
  have h : ((f_X11_refuseState (y0) σ).bind (fun v1 => v1.1.elim (fun k => some (.inl k, v1.2)) (fun w2 => (gR v1.2 (some x0) 11 0).bind (fun v3 => (rc v1.2 v3 10).bind (fun v4 => (f_X10_addElement v4 (x1) v1.2).bind (fun v5 => some (.inr v5.1, v5.2))))))) = some q := h
  obtain ⟨v1, hv1, h⟩ := ob h
  refine c_ct (c_tS X (K_X11_refuseState l hl9 D Φ σ (y0) hv1) ⟨w_704, ww_X11_refuseState⟩ hy_X11_refuseState rfl ⟨(Nat.le_of_ble_eq_true rfl), (Nat.le_of_ble_eq_true rfl)⟩ hP hS hl.1 (Nat.le_of_ble_eq_true rfl) dX11_make_34 rfl ⟨(Nat.le_of_ble_eq_true rfl), (Nat.le_of_ble_eq_true rfl)⟩) X hnt hS ⟨(Nat.le_of_ble_eq_true rfl), (Nat.le_of_ble_eq_true rfl)⟩ (fun k e => by have h9 := el_l e h; exact (sj h9).symm) (fun w2 H locs e hP hS => ?_)
  have h := el_r e h
  refine W.eq (g2 := F0 m 37 ls []) rfl ?_
  refine c_aload_n hx hb dX11_make_37 rfl (lv_at hl 0 rfl) ?_
  obtain ⟨v3, hv3, h⟩ := ob h
  refine c_gR X hP hv3 (Nat.le_of_ble_eq_true rfl) (Nat.le_of_ble_eq_true rfl) rfl w_571 dX11_make_38 ?_
  refine lv_iload_n hx hb dX11_make_41 rfl (lv_at hl 1 rfl) ?_
  obtain ⟨v4, hv4, h⟩ := ob h
  obtain ⟨v5, hv5, h⟩ := ob h
  refine c_cw (c_runV X (K_X10_addElement l D Φ v1.2 v4 (x1) hv5) hv4 ⟨Nat.le_of_ble_eq_true rfl, by decide⟩ ⟨w_722, ww_X10_addElement⟩ rfl hy_X10_addElement rfl ⟨(Nat.le_of_ble_eq_true rfl), (Nat.le_of_ble_eq_true rfl)⟩ hP hS hl.1 (Nat.le_of_ble_eq_true rfl) dX11_make_42 rfl ⟨(Nat.le_of_ble_eq_true rfl), (Nat.le_of_ble_eq_true rfl)⟩) hS (fun H locs hP hS => ?_)
  refine W.eq (g2 := F0 m 45 ls [.int v5.1]) rfl ?_
  exact c_ti X hP hS (sj h).symm (Nat.le_of_ble_eq_true rfl) (Nat.le_of_ble_eq_true rfl) dX11_make_45
set_option maxRecDepth 20000 in
set_option maxHeartbeats 4000000 in
theorem N_X11_make_14 {p : Program} {l : Launch} {e : Env} {s : State} {m : MethodId} {args : Array Value} {below : List Frame} {meth : Method} {c : Code} {D : cD} {Φ : cG} {x0 : Nat}   {x1 : Int32} {y0 : Int32} {σ : cS} {H : Heap} {locs : List Loc} {ls : Array Slot} {q : (Nat ⊕ Int32) × cS} (X : cX p s m args meth c cX11_make 2 (some .int) RX11 D Φ) (hl9 : l.stackTraces = false) (hnt : ∀ x ∈ c.exceptionTable.toList, False) (hP : cP D Φ σ H) (hS : va_S (cReg Φ) s.heap H locs)  (hl : lv_has ls 2 [(0, cv Φ (some x0)), (1, .int x1)]) (h : f_X11_make_14  x0 x1 y0 σ = some q) : cWt p l e 7 13 151 110 s m args below meth c D Φ vlI q H locs 0 0 (F0 m 14 ls [.int y0]) := by
  have hx := X.1
  have hb := X.2.1
  have hown := X.2.2.2.1
  have hts := X.2.2.2.2.1
  have h : ((f_X11_refuseArgument (y0) σ).bind (fun v1 => v1.1.elim (fun k => some (.inl k, v1.2)) (fun w2 => (gR v1.2 (some x0) 11 0).bind (fun v3 => (gI v1.2 v3 10 1).bind (fun v4 => if v4 < (30:Int32) then (f_X11_make_34 x0 (x1) ((0:Int32)) v1.2) else (f_X11_make_34 x0 (x1) ((1:Int32)) v1.2)))))) = some q := h
  obtain ⟨v1, hv1, h⟩ := ob h
  refine c_ct (c_tS X (K_X11_refuseArgument l hl9 D Φ σ (y0) hv1) ⟨w_638, ww_X11_refuseArgument⟩ hy_X11_refuseArgument rfl ⟨(Nat.le_of_ble_eq_true rfl), (Nat.le_of_ble_eq_true rfl)⟩ hP hS hl.1 (Nat.le_of_ble_eq_true rfl) dX11_make_14 rfl ⟨(Nat.le_of_ble_eq_true rfl), (Nat.le_of_ble_eq_true rfl)⟩) X hnt hS ⟨(Nat.le_of_ble_eq_true rfl), (Nat.le_of_ble_eq_true rfl)⟩ (fun k e => by have h9 := el_l e h; exact (sj h9).symm) (fun w2 H locs e hP hS => ?_)
  have h := el_r e h
  refine W.eq (g2 := F0 m 17 ls []) rfl ?_
  refine c_aload_n hx hb dX11_make_17 rfl (lv_at hl 0 rfl) ?_
  obtain ⟨v3, hv3, h⟩ := ob h
  refine c_gR X hP hv3 (Nat.le_of_ble_eq_true rfl) (Nat.le_of_ble_eq_true rfl) rfl w_571 dX11_make_18 ?_
  obtain ⟨v4, hv4, h⟩ := ob h
  refine c_gI X hP hv4 (Nat.le_of_ble_eq_true rfl) (Nat.le_of_ble_eq_true rfl) rfl w_329 dX11_make_21 ?_
  refine lv_bipush (v := (30:Int32)) hx hb dX11_make_24 (by decide) ?_
  refine lv_icmp_lt (tgt := 33) hx hb dX11_make_26 rfl (fun hc => ?_) (fun hc => ?_)
  · have h := ip hc h
    refine lv_iconst (v := (0:Int32)) hx hb dX11_make_33 (by decide) ?_
    exact N_X11_make_34 X hl9 hnt hP hS (lv_sub hl [0, 1] rfl) h
  · have h := ine hc h
    refine lv_iconst (v := (1:Int32)) hx hb dX11_make_29 (by decide) ?_
    refine lv_goto (tgt := 34) hx hb dX11_make_30 rfl ?_
    exact N_X11_make_34 X hl9 hnt hP hS (lv_sub hl [0, 1] rfl) h
set_option maxRecDepth 20000 in
set_option maxHeartbeats 4000000 in
theorem K_X11_make (l : Launch) (hl9 : l.stackTraces = false) (D : cD) (Φ : cG) (σ : cS) (x0 : Nat) (x1 : Int32) {q : (Nat ⊕ Int32) × cS} (h : f_X11_make x0 x1 σ = some q) : vx_Met l yX11_make (Cond.code yX11_make cX11_make 2 (some .int) :: BG) (rA 7 13 151 110) (cPc D Φ σ [cv Φ (some x0), .int x1]) (cQt vlI D Φ q) (cXC D Φ q) 13 151 (cReg Φ) := by
  refine vx_ofW (cc := cX11_make) (maxL := 2) (ret := (some .int)) (by decide) rfl ?_
  intro p e s m args below meth c s₁ B hml hnt hv
  obtain ⟨rfl, hP, hK, hZ⟩ := hv
  have X : cX p s m [cv Φ (some x0), .int x1].toArray meth c cX11_make 2 (some .int) RX11 D Φ := cX_of B hml hK hZ
  have hx := X.1
  have hb := X.2.1
  have hown := X.2.2.2.1
  have hts := X.2.2.2.2.1
  have hl := lv_entry [cv Φ (some x0), .int x1] (n := 2) (by simp only [lgs_r, lgs_i, lgs_l, lgs_0, List.length]; exact Nat.le_of_ble_eq_true rfl)
  rw [lg_entry_eq]
  generalize (lg_sl [cv Φ (some x0), .int x1] ++ List.replicate (2 - (lg_sl [cv Φ (some x0), .int x1]).length) Slot.unset).toArray = ls at hl ⊢
  simp only [lv_args_r, lv_args_i, lv_args_l, lv_args_0] at hl
  have hl : lv_has ls 2 [(0, cv Φ (some x0)), (1, .int x1)] := hl
  have hS : va_S (cReg Φ) s.heap s.heap [] := va_S.rf
  show cWt p l e 7 13 151 110 s m [cv Φ (some x0), .int x1].toArray below meth c D Φ vlI q s.heap [] 0 0 (F0 m 0 ls [])
  have h : ((f_X11_isBelow (x1) ((8:Int32))).bind (fun v1 => if v1 = (0:Int32) then (f_X11_make_14 x0 (x1) ((1:Int32)) σ) else (f_X11_make_14 x0 (x1) ((0:Int32)) σ))) = some q := h
  refine lv_iload_n hx hb dX11_make_0 rfl (lv_at hl 1 rfl) ?_
  refine lv_bipush (v := (8:Int32)) hx hb dX11_make_1 (by decide) ?_
  obtain ⟨v1, hv1, h⟩ := ob h
  refine c_cr (c_runS X (K_X11_isBelow l D Φ σ (x1) ((8:Int32)) hv1) ⟨w_635, ww_X11_isBelow⟩ hy_X11_isBelow rfl ⟨(Nat.le_of_ble_eq_true rfl), (Nat.le_of_ble_eq_true rfl)⟩ hP hS hl.1 (Nat.le_of_ble_eq_true rfl) dX11_make_3 rfl ⟨(Nat.le_of_ble_eq_true rfl), (Nat.le_of_ble_eq_true rfl)⟩) ?_
  refine lv_if_ne (tgt := 13) hx hb dX11_make_6 rfl (fun hc => ?_) (fun hc => ?_)
  · have h := ine hc h
    refine lv_iconst (v := (0:Int32)) hx hb dX11_make_13 (by decide) ?_
    exact N_X11_make_14 X hl9 hnt hP hS (lv_sub hl [0, 1] rfl) h
  · have h := ip hc h
    refine lv_iconst (v := (1:Int32)) hx hb dX11_make_9 (by decide) ?_
    refine lv_goto (tgt := 14) hx hb dX11_make_10 rfl ?_
    exact N_X11_make_14 X hl9 hnt hP hS (lv_sub hl [0, 1] rfl) h
theorem ww_X11_make : Cond.instanceMethod yX11_make ∈ BG ∧ Cond.selects (yX11_make).cls yX11_make yX11_make ∈ BG ∧ Cond.initialized (yX11_make).cls ∈ BG ∧ Cond.code yX11_make cX11_make 2 (some .int) ∈ BG := ⟨w_632, w_633, w_56, w_634⟩
theorem hy_X11_make : (yX11_make).cls ≠ "java/lang/invoke/MethodHandle" ∧ (yX11_make).cls ≠ "java/lang/invoke/VarHandle" ∧ (parseMethodDescriptor (yX11_make).desc).map (fun d => d.parameters.length) = some 1 := ⟨by decide, by decide, by decide +kernel⟩
def f_X11_elementAt (x0 : Nat) (x1 : Int32) (σ : cS) : Option ((Nat ⊕ Option Nat) × cS) := (gR σ (some x0) 11 0).bind (fun v1 => (rc σ v1 10).bind (fun v2 => (f_X10_at v2 (x1) σ).bind (fun v3 => if v3 = none then (some (.inl 2, σ)) else (some (.inr v3, σ)))))
set_option maxRecDepth 20000 in
set_option maxHeartbeats 4000000 in
theorem K_X11_elementAt (l : Launch) (hl9 : l.stackTraces = false) (D : cD) (Φ : cG) (σ : cS) (x0 : Nat) (x1 : Int32) {q : (Nat ⊕ Option Nat) × cS} (h : f_X11_elementAt x0 x1 σ = some q) : vx_Met l yX11_elementAt (Cond.code yX11_elementAt cX11_elementAt 3 (some (.object "Cascadery$Element")) :: BG) (rA 6 1 6 90) (cPc D Φ σ [cv Φ (some x0), .int x1]) (cQt (vlR Φ) D Φ q) (cXC D Φ q) 1 6 (cReg Φ) := by
  refine vx_ofW (cc := cX11_elementAt) (maxL := 3) (ret := (some (.object "Cascadery$Element"))) (by decide) rfl ?_
  intro p e s m args below meth c s₁ B hml hnt hv
  obtain ⟨rfl, hP, hK, hZ⟩ := hv
  have X : cX p s m [cv Φ (some x0), .int x1].toArray meth c cX11_elementAt 3 (some (.object "Cascadery$Element")) RX11 D Φ := cX_of B hml hK hZ
  have hx := X.1
  have hb := X.2.1
  have hown := X.2.2.2.1
  have hts := X.2.2.2.2.1
  have hl := lv_entry [cv Φ (some x0), .int x1] (n := 3) (by simp only [lgs_r, lgs_i, lgs_l, lgs_0, List.length]; exact Nat.le_of_ble_eq_true rfl)
  rw [lg_entry_eq]
  generalize (lg_sl [cv Φ (some x0), .int x1] ++ List.replicate (3 - (lg_sl [cv Φ (some x0), .int x1]).length) Slot.unset).toArray = ls at hl ⊢
  simp only [lv_args_r, lv_args_i, lv_args_l, lv_args_0] at hl
  have hl : lv_has ls 3 [(0, cv Φ (some x0)), (1, .int x1)] := hl
  have hS : va_S (cReg Φ) s.heap s.heap [] := va_S.rf
  show cWt p l e 6 1 6 90 s m [cv Φ (some x0), .int x1].toArray below meth c D Φ (vlR Φ) q s.heap [] 0 0 (F0 m 0 ls [])
  have h : ((gR σ (some x0) 11 0).bind (fun v1 => (rc σ v1 10).bind (fun v2 => (f_X10_at v2 (x1) σ).bind (fun v3 => if v3 = none then (some (.inl 2, σ)) else (some (.inr v3, σ)))))) = some q := h
  refine c_aload_n hx hb dX11_elementAt_0 rfl (lv_at hl 0 rfl) ?_
  obtain ⟨v1, hv1, h⟩ := ob h
  refine c_gR X hP hv1 (Nat.le_of_ble_eq_true rfl) (Nat.le_of_ble_eq_true rfl) rfl w_571 dX11_elementAt_1 ?_
  refine lv_iload_n hx hb dX11_elementAt_4 rfl (lv_at hl 1 rfl) ?_
  obtain ⟨v2, hv2, h⟩ := ob h
  obtain ⟨v3, hv3, h⟩ := ob h
  refine c_cr (c_runV X (K_X10_at l D Φ σ v2 (x1) hv3) hv2 ⟨Nat.le_of_ble_eq_true rfl, by decide⟩ ⟨w_739, ww_X10_at⟩ rfl hy_X10_at rfl ⟨(Nat.le_of_ble_eq_true rfl), (Nat.le_of_ble_eq_true rfl)⟩ hP hS hl.1 (Nat.le_of_ble_eq_true rfl) dX11_elementAt_5 rfl ⟨(Nat.le_of_ble_eq_true rfl), (Nat.le_of_ble_eq_true rfl)⟩) ?_
  refine c_astore_n hx hb dX11_elementAt_8 rfl hl (Nat.le_of_ble_eq_true rfl) (lvKa rfl (lvKi lvK0)) rfl (fun ls (hl : lv_has ls 3 [(2, cv Φ v3), (0, cv Φ (some x0)), (1, .int x1)]) => ?_)
  refine c_aload_n hx hb dX11_elementAt_9 rfl (lv_at hl 0 rfl) ?_
  refine c_ifnonnull (Φ := Φ) (tgt := 21) hx hb dX11_elementAt_10 rfl (fun hc => ?_) (fun hc => ?_)
  · have h := ine hc h
    refine c_aload_n hx hb dX11_elementAt_21 rfl (lv_at hl 0 rfl) ?_
    exact c_ta X hP hS (sj h).symm (Nat.le_of_ble_eq_true rfl) (Nat.le_of_ble_eq_true rfl) dX11_elementAt_22
  · have h := ip hc h
    exact c_thr2 hl9 X hnt hP hS hl.1 dX11_elementAt_13 dX11_elementAt_16 dX11_elementAt_17 dX11_elementAt_20 (sj h).symm (Nat.le_of_ble_eq_true rfl) (Nat.le_of_ble_eq_true rfl) (Nat.le_of_ble_eq_true rfl) (Nat.le_of_ble_eq_true rfl) (Nat.le_of_ble_eq_true rfl)
theorem ww_X11_elementAt : Cond.instanceMethod yX11_elementAt ∈ BG ∧ Cond.selects (yX11_elementAt).cls yX11_elementAt yX11_elementAt ∈ BG ∧ Cond.initialized (yX11_elementAt).cls ∈ BG ∧ Cond.code yX11_elementAt cX11_elementAt 3 (some (.object "Cascadery$Element")) ∈ BG := ⟨w_737, w_1, w_56, w_738⟩
theorem hy_X11_elementAt : (yX11_elementAt).cls ≠ "java/lang/invoke/MethodHandle" ∧ (yX11_elementAt).cls ≠ "java/lang/invoke/VarHandle" ∧ (parseMethodDescriptor (yX11_elementAt).desc).map (fun d => d.parameters.length) = some 1 := ⟨by decide, by decide, by decide +kernel⟩
def f_X11_shadow (x0 : Nat) (x1 : Int32) (σ : cS) : Option ((Nat ⊕ Unit) × cS) := (rc σ (some x0) 11).bind (fun v1 => (f_X11_elementAt v1 (x1) σ).bind (fun v2 => v2.1.elim (fun k => some (.inl k, v2.2)) (fun w3 => (gI v2.2 w3 3 7).bind (fun v4 => (f_X11_refuseState (v4) v2.2).bind (fun v5 => v5.1.elim (fun k => some (.inl k, v5.2)) (fun w6 => (pZ v5.2 w3 3 7 (1:Int32)).bind (fun v7 => (gR v7 (some x0) 11 0).bind (fun v8 => (rc v7 v8 10).bind (fun v9 => (f_X10_layOut v9  v7).bind (fun v10 => (rc v10 (some x0) 11).bind (fun v11 => (f_X11_markAll v11  v10).bind (fun v12 => some (.inr (), v12)))))))))))))
set_option maxRecDepth 20000 in
set_option maxHeartbeats 4000000 in
theorem K_X11_shadow (l : Launch) (hl9 : l.stackTraces = false) (D : cD) (Φ : cG) (σ : cS) (x0 : Nat) (x1 : Int32) {q : (Nat ⊕ Unit) × cS} (h : f_X11_shadow x0 x1 σ = some q) : vx_Met l yX11_shadow (Cond.code yX11_shadow cX11_shadow 3 none :: BG) (rA 7 2 12 112) (cPc D Φ σ [cv Φ (some x0), .int x1]) (cQt vlU D Φ q) (cXC D Φ q) 2 12 (cReg Φ) := by
  refine vx_ofW (cc := cX11_shadow) (maxL := 3) (ret := none) (by decide) rfl ?_
  intro p e s m args below meth c s₁ B hml hnt hv
  obtain ⟨rfl, hP, hK, hZ⟩ := hv
  have X : cX p s m [cv Φ (some x0), .int x1].toArray meth c cX11_shadow 3 none RX11 D Φ := cX_of B hml hK hZ
  have hx := X.1
  have hb := X.2.1
  have hown := X.2.2.2.1
  have hts := X.2.2.2.2.1
  have hl := lv_entry [cv Φ (some x0), .int x1] (n := 3) (by simp only [lgs_r, lgs_i, lgs_l, lgs_0, List.length]; exact Nat.le_of_ble_eq_true rfl)
  rw [lg_entry_eq]
  generalize (lg_sl [cv Φ (some x0), .int x1] ++ List.replicate (3 - (lg_sl [cv Φ (some x0), .int x1]).length) Slot.unset).toArray = ls at hl ⊢
  simp only [lv_args_r, lv_args_i, lv_args_l, lv_args_0] at hl
  have hl : lv_has ls 3 [(0, cv Φ (some x0)), (1, .int x1)] := hl
  have hS : va_S (cReg Φ) s.heap s.heap [] := va_S.rf
  show cWt p l e 7 2 12 112 s m [cv Φ (some x0), .int x1].toArray below meth c D Φ vlU q s.heap [] 0 0 (F0 m 0 ls [])
  have h : ((rc σ (some x0) 11).bind (fun v1 => (f_X11_elementAt v1 (x1) σ).bind (fun v2 => v2.1.elim (fun k => some (.inl k, v2.2)) (fun w3 => (gI v2.2 w3 3 7).bind (fun v4 => (f_X11_refuseState (v4) v2.2).bind (fun v5 => v5.1.elim (fun k => some (.inl k, v5.2)) (fun w6 => (pZ v5.2 w3 3 7 (1:Int32)).bind (fun v7 => (gR v7 (some x0) 11 0).bind (fun v8 => (rc v7 v8 10).bind (fun v9 => (f_X10_layOut v9  v7).bind (fun v10 => (rc v10 (some x0) 11).bind (fun v11 => (f_X11_markAll v11  v10).bind (fun v12 => some (.inr (), v12)))))))))))))) = some q := h
  refine c_aload_n hx hb dX11_shadow_0 rfl (lv_at hl 0 rfl) ?_
  refine lv_iload_n hx hb dX11_shadow_1 rfl (lv_at hl 1 rfl) ?_
  obtain ⟨v1, hv1, h⟩ := ob h
  obtain ⟨v2, hv2, h⟩ := ob h
  refine c_ct (c_tV X (K_X11_elementAt l hl9 D Φ σ v1 (x1) hv2) hv1 ⟨Nat.le_of_ble_eq_true rfl, by decide⟩ ⟨w_735, ww_X11_elementAt⟩ rfl hy_X11_elementAt rfl ⟨(Nat.le_of_ble_eq_true rfl), (Nat.le_of_ble_eq_true rfl)⟩ hP hS hl.1 (Nat.le_of_ble_eq_true rfl) dX11_shadow_2 rfl ⟨(Nat.le_of_ble_eq_true rfl), (Nat.le_of_ble_eq_true rfl)⟩) X hnt hS ⟨(Nat.le_of_ble_eq_true rfl), (Nat.le_of_ble_eq_true rfl)⟩ (fun k e => by have h9 := el_l e h; exact (sj h9).symm) (fun w3 H locs e hP hS => ?_)
  have h := el_r e h
  refine W.eq (g2 := F0 m 5 ls [cv Φ w3]) rfl ?_
  refine c_astore_n hx hb dX11_shadow_5 rfl hl (Nat.le_of_ble_eq_true rfl) (lvKa rfl (lvKi lvK0)) rfl (fun ls (hl : lv_has ls 3 [(2, cv Φ w3), (0, cv Φ (some x0)), (1, .int x1)]) => ?_)
  refine c_aload_n hx hb dX11_shadow_6 rfl (lv_at hl 0 rfl) ?_
  obtain ⟨v4, hv4, h⟩ := ob h
  refine c_gI X hP hv4 (Nat.le_of_ble_eq_true rfl) (Nat.le_of_ble_eq_true rfl) rfl w_247 dX11_shadow_7 ?_
  obtain ⟨v5, hv5, h⟩ := ob h
  refine c_ct (c_tS X (K_X11_refuseState l hl9 D Φ v2.2 (v4) hv5) ⟨w_704, ww_X11_refuseState⟩ hy_X11_refuseState rfl ⟨(Nat.le_of_ble_eq_true rfl), (Nat.le_of_ble_eq_true rfl)⟩ hP hS hl.1 (Nat.le_of_ble_eq_true rfl) dX11_shadow_10 rfl ⟨(Nat.le_of_ble_eq_true rfl), (Nat.le_of_ble_eq_true rfl)⟩) X hnt hS ⟨(Nat.le_of_ble_eq_true rfl), (Nat.le_of_ble_eq_true rfl)⟩ (fun k e => by have h9 := el_l e h; exact (sj h9).symm) (fun w6 H locs e hP hS => ?_)
  have h := el_r e h
  refine W.eq (g2 := F0 m 13 ls []) rfl ?_
  refine c_aload_n hx hb dX11_shadow_13 rfl (lv_at hl 0 rfl) ?_
  refine lv_iconst (v := (1:Int32)) hx hb dX11_shadow_14 (by decide) ?_
  obtain ⟨v7, hv7, h⟩ := ob h
  refine c_pZ X hP hS hv7 (Nat.le_of_ble_eq_true rfl) (Nat.le_of_ble_eq_true rfl) rfl rfl (Or.inl rfl) w_247 dX11_shadow_15 (fun H locs hP hS => ?_)
  refine c_aload_n hx hb dX11_shadow_18 rfl (lv_at hl 1 rfl) ?_
  obtain ⟨v8, hv8, h⟩ := ob h
  refine c_gR X hP hv8 (Nat.le_of_ble_eq_true rfl) (Nat.le_of_ble_eq_true rfl) rfl w_571 dX11_shadow_19 ?_
  obtain ⟨v9, hv9, h⟩ := ob h
  obtain ⟨v10, hv10, h⟩ := ob h
  refine c_cw (c_runV X (K_X10_layOut l D Φ v7 v9  hv10) hv9 ⟨Nat.le_of_ble_eq_true rfl, by decide⟩ ⟨w_1213, ww_X10_layOut⟩ rfl hy_X10_layOut rfl ⟨(Nat.le_of_ble_eq_true rfl), (Nat.le_of_ble_eq_true rfl)⟩ hP hS hl.1 (Nat.le_of_ble_eq_true rfl) dX11_shadow_22 rfl ⟨(Nat.le_of_ble_eq_true rfl), (Nat.le_of_ble_eq_true rfl)⟩) hS (fun H locs hP hS => ?_)
  refine W.eq (g2 := F0 m 25 ls []) rfl ?_
  refine c_aload_n hx hb dX11_shadow_25 rfl (lv_at hl 1 rfl) ?_
  obtain ⟨v11, hv11, h⟩ := ob h
  obtain ⟨v12, hv12, h⟩ := ob h
  refine c_cw (c_runV X (K_X11_markAll l D Φ v10 v11  hv12) hv11 ⟨Nat.le_of_ble_eq_true rfl, by decide⟩ ⟨w_830, ww_X11_markAll⟩ rfl hy_X11_markAll rfl ⟨(Nat.le_of_ble_eq_true rfl), (Nat.le_of_ble_eq_true rfl)⟩ hP hS hl.1 (Nat.le_of_ble_eq_true rfl) dX11_shadow_26 rfl ⟨(Nat.le_of_ble_eq_true rfl), (Nat.le_of_ble_eq_true rfl)⟩) hS (fun H locs hP hS => ?_)
  refine W.eq (g2 := F0 m 29 ls []) rfl ?_
  exact c_tv X hP hS (sj h).symm (Nat.le_of_ble_eq_true rfl) (Nat.le_of_ble_eq_true rfl) dX11_shadow_29
theorem ww_X11_shadow : Cond.instanceMethod yX11_shadow ∈ BG ∧ Cond.selects (yX11_shadow).cls yX11_shadow yX11_shadow ∈ BG ∧ Cond.initialized (yX11_shadow).cls ∈ BG ∧ Cond.code yX11_shadow cX11_shadow 3 none ∈ BG := ⟨w_1210, w_1211, w_56, w_1212⟩
theorem hy_X11_shadow : (yX11_shadow).cls ≠ "java/lang/invoke/MethodHandle" ∧ (yX11_shadow).cls ≠ "java/lang/invoke/VarHandle" ∧ (parseMethodDescriptor (yX11_shadow).desc).map (fun d => d.parameters.length) = some 1 := ⟨by decide, by decide, by decide +kernel⟩
def f_X11_refuseBounds  (x0 : Int32) (σ : cS) : Option ((Nat ⊕ Unit) × cS) := if x0 = (0:Int32) then (some (.inr (), σ)) else (some (.inl 2, σ))
set_option maxRecDepth 20000 in
set_option maxHeartbeats 4000000 in
theorem K_X11_refuseBounds (l : Launch) (hl9 : l.stackTraces = false) (D : cD) (Φ : cG) (σ : cS)  (x0 : Int32) {q : (Nat ⊕ Unit) × cS} (h : f_X11_refuseBounds  x0 σ = some q) : vx_Met l yX11_refuseBounds (Cond.code yX11_refuseBounds cX11_refuseBounds 1 none :: BG) (rA 6 1 6 90) (cPc D Φ σ [.int x0]) (cQt vlU D Φ q) (cXC D Φ q) 1 6 (cReg Φ) := by
  refine vx_ofW (cc := cX11_refuseBounds) (maxL := 1) (ret := none) (by decide) rfl ?_
  intro p e s m args below meth c s₁ B hml hnt hv
  obtain ⟨rfl, hP, hK, hZ⟩ := hv
  have X : cX p s m [.int x0].toArray meth c cX11_refuseBounds 1 none RX11 D Φ := cX_of B hml hK hZ
  have hx := X.1
  have hb := X.2.1
  have hown := X.2.2.2.1
  have hts := X.2.2.2.2.1
  have hl := lv_entry [.int x0] (n := 1) (by simp only [lgs_r, lgs_i, lgs_l, lgs_0, List.length]; exact Nat.le_of_ble_eq_true rfl)
  rw [lg_entry_eq]
  generalize (lg_sl [.int x0] ++ List.replicate (1 - (lg_sl [.int x0]).length) Slot.unset).toArray = ls at hl ⊢
  simp only [lv_args_r, lv_args_i, lv_args_l, lv_args_0] at hl
  have hl : lv_has ls 1 [(0, .int x0)] := hl
  have hS : va_S (cReg Φ) s.heap s.heap [] := va_S.rf
  show cWt p l e 6 1 6 90 s m [.int x0].toArray below meth c D Φ vlU q s.heap [] 0 0 (F0 m 0 ls [])
  have h : (if x0 = (0:Int32) then (some (.inr (), σ)) else (some (.inl 2, σ))) = some q := h
  refine lv_iload_n hx hb dX11_refuseBounds_0 rfl (lv_at hl 0 rfl) ?_
  refine lv_if_eq (tgt := 12) hx hb dX11_refuseBounds_1 rfl (fun hc => ?_) (fun hc => ?_)
  · have h := ip hc h
    exact c_tv X hP hS (sj h).symm (Nat.le_of_ble_eq_true rfl) (Nat.le_of_ble_eq_true rfl) dX11_refuseBounds_12
  · have h := ine hc h
    exact c_thr2 hl9 X hnt hP hS hl.1 dX11_refuseBounds_4 dX11_refuseBounds_7 dX11_refuseBounds_8 dX11_refuseBounds_11 (sj h).symm (Nat.le_of_ble_eq_true rfl) (Nat.le_of_ble_eq_true rfl) (Nat.le_of_ble_eq_true rfl) (Nat.le_of_ble_eq_true rfl) (Nat.le_of_ble_eq_true rfl)
theorem ww_X11_refuseBounds : Cond.static yX11_refuseBounds ∈ BG ∧ Cond.initialized (yX11_refuseBounds).cls ∈ BG ∧ Cond.code yX11_refuseBounds cX11_refuseBounds 1 none ∈ BG := ⟨w_763, w_56, w_764⟩
theorem hy_X11_refuseBounds : (yX11_refuseBounds).cls ≠ "java/lang/invoke/MethodHandle" ∧ (yX11_refuseBounds).cls ≠ "java/lang/invoke/VarHandle" ∧ (parseMethodDescriptor (yX11_refuseBounds).desc).map (fun d => d.parameters.length) = some 1 := ⟨by decide, by decide, by decide +kernel⟩
def f_X11_put_61  (x0 : Nat) (x3 : Int32) (x4 : Option Nat) (x5 : Option Nat) (y0 : Int32) (σ : cS) : Option ((Nat ⊕ Unit) × cS) := (f_X11_refuseState (y0) σ).bind (fun v1 => v1.1.elim (fun k => some (.inl k, v1.2)) (fun w2 => (gR v1.2 (some x0) 11 0).bind (fun v3 => (rc v1.2 v3 10).bind (fun v4 => (f_X10_insert v4 (x4) (x5) (none) (x3) v1.2).bind (fun v5 => (gR v5 x4 3 12).bind (fun v6 => (gR v5 x4 3 15).bind (fun v7 => (rc v5 (some x0) 11).bind (fun v8 => (f_X11_markMove v8 (x4) (v6) (x5) (v7) v5).bind (fun v9 => some (.inr (), v9))))))))))
def f_X11_put_39  (x0 : Nat) (x3 : Int32) (x4 : Option Nat) (x5 : Option Nat) (y0 : Int32) (σ : cS) : Option ((Nat ⊕ Unit) × cS) := (f_X11_refuseBounds (y0) σ).bind (fun v1 => v1.1.elim (fun k => some (.inl k, v1.2)) (fun w2 => (gR v1.2 (some x0) 11 0).bind (fun v3 => (rc v1.2 v3 10).bind (fun v4 => (f_X10_mayEnter v4 (x4) (x5) v1.2).bind (fun v5 => if v5 = (0:Int32) then (f_X11_put_61 x0 (x3) (x4) (x5) ((1:Int32)) v1.2) else (f_X11_put_61 x0 (x3) (x4) (x5) ((0:Int32)) v1.2))))))
def f_X11_put_34  (x0 : Nat) (x3 : Int32) (x4 : Option Nat) (x5 : Option Nat) (σ : cS) : Option ((Nat ⊕ Unit) × cS) := f_X11_put_39 x0 (x3) (x4) (x5) ((1:Int32)) σ
def f_X11_put (x0 : Nat) (x1 : Int32) (x2 : Int32) (x3 : Int32) (σ : cS) : Option ((Nat ⊕ Unit) × cS) := (rc σ (some x0) 11).bind (fun v1 => (f_X11_elementAt v1 (x1) σ).bind (fun v2 => v2.1.elim (fun k => some (.inl k, v2.2)) (fun w3 => (rc v2.2 (some x0) 11).bind (fun v4 => (f_X11_elementAt v4 (x2) v2.2).bind (fun v5 => v5.1.elim (fun k => some (.inl k, v5.2)) (fun w6 => if x3 < (0:Int32) then (f_X11_put_34 x0 (x3) (w3) (w6) v5.2) else ((gR v5.2 (some x0) 11 0).bind (fun v7 => (gR v5.2 w6 3 10).bind (fun v8 => (rc v5.2 v7 10).bind (fun v9 => (f_X10_countFrom v9 (v8) v5.2).bind (fun v10 => if x3 ≤ v10 then (f_X11_put_39 x0 (x3) (w3) (w6) ((0:Int32)) v5.2) else (f_X11_put_34 x0 (x3) (w3) (w6) v5.2))))))))))))
set_option maxRecDepth 20000 in
set_option maxHeartbeats 4000000 in
theorem N_X11_put_61 {p : Program} {l : Launch} {e : Env} {s : State} {m : MethodId} {args : Array Value} {below : List Frame} {meth : Method} {c : Code} {D : cD} {Φ : cG} {x0 : Nat}   {x3 : Int32} {x4 : Option Nat} {x5 : Option Nat} {y0 : Int32} {σ : cS} {H : Heap} {locs : List Loc} {ls : Array Slot} {q : (Nat ⊕ Unit) × cS} (X : cX p s m args meth c cX11_put 6 none RX11 D Φ) (hl9 : l.stackTraces = false) (hnt : ∀ x ∈ c.exceptionTable.toList, False) (hP : cP D Φ σ H) (hS : va_S (cReg Φ) s.heap H locs)  (hl : lv_has ls 6 [(0, cv Φ (some x0)), (3, .int x3), (4, cv Φ x4), (5, cv Φ x5)]) (h : f_X11_put_61  x0 x3 x4 x5 y0 σ = some q) : cWt p l e 7 4 24 112 s m args below meth c D Φ vlU q H locs 3 18 (F0 m 61 ls [.int y0]) := by
  have hx := X.1
  have hb := X.2.1
  have hown := X.2.2.2.1
  have hts := X.2.2.2.2.1
  have h : ((f_X11_refuseState (y0) σ).bind (fun v1 => v1.1.elim (fun k => some (.inl k, v1.2)) (fun w2 => (gR v1.2 (some x0) 11 0).bind (fun v3 => (rc v1.2 v3 10).bind (fun v4 => (f_X10_insert v4 (x4) (x5) (none) (x3) v1.2).bind (fun v5 => (gR v5 x4 3 12).bind (fun v6 => (gR v5 x4 3 15).bind (fun v7 => (rc v5 (some x0) 11).bind (fun v8 => (f_X11_markMove v8 (x4) (v6) (x5) (v7) v5).bind (fun v9 => some (.inr (), v9))))))))))) = some q := h
  obtain ⟨v1, hv1, h⟩ := ob h
  refine c_ct (c_tS X (K_X11_refuseState l hl9 D Φ σ (y0) hv1) ⟨w_704, ww_X11_refuseState⟩ hy_X11_refuseState rfl ⟨(Nat.le_of_ble_eq_true rfl), (Nat.le_of_ble_eq_true rfl)⟩ hP hS hl.1 (Nat.le_of_ble_eq_true rfl) dX11_put_61 rfl ⟨(Nat.le_of_ble_eq_true rfl), (Nat.le_of_ble_eq_true rfl)⟩) X hnt hS ⟨(Nat.le_of_ble_eq_true rfl), (Nat.le_of_ble_eq_true rfl)⟩ (fun k e => by have h9 := el_l e h; exact (sj h9).symm) (fun w2 H locs e hP hS => ?_)
  have h := el_r e h
  refine W.eq (g2 := F0 m 64 ls []) rfl ?_
  refine c_aload_n hx hb dX11_put_64 rfl (lv_at hl 0 rfl) ?_
  obtain ⟨v3, hv3, h⟩ := ob h
  refine c_gR X hP hv3 (Nat.le_of_ble_eq_true rfl) (Nat.le_of_ble_eq_true rfl) rfl w_571 dX11_put_65 ?_
  refine c_aload hx hb dX11_put_68 (lv_at hl 2 rfl) ?_
  refine c_aload hx hb dX11_put_70 (lv_at hl 3 rfl) ?_
  refine c_null (Φ := Φ) hx hb dX11_put_72 ?_
  refine lv_iload_n hx hb dX11_put_73 rfl (lv_at hl 1 rfl) ?_
  obtain ⟨v4, hv4, h⟩ := ob h
  obtain ⟨v5, hv5, h⟩ := ob h
  refine c_cw (c_runV X (K_X10_insert l D Φ v1.2 v4 (x4) (x5) (none) (x3) hv5) hv4 ⟨Nat.le_of_ble_eq_true rfl, by decide⟩ ⟨w_773, ww_X10_insert⟩ rfl hy_X10_insert rfl ⟨(Nat.le_of_ble_eq_true rfl), (Nat.le_of_ble_eq_true rfl)⟩ hP hS hl.1 (Nat.le_of_ble_eq_true rfl) dX11_put_74 rfl ⟨(Nat.le_of_ble_eq_true rfl), (Nat.le_of_ble_eq_true rfl)⟩) hS (fun H locs hP hS => ?_)
  refine W.eq (g2 := F0 m 77 ls []) rfl ?_
  refine c_aload_n hx hb dX11_put_77 rfl (lv_at hl 0 rfl) ?_
  refine c_aload hx hb dX11_put_78 (lv_at hl 2 rfl) ?_
  refine c_aload hx hb dX11_put_80 (lv_at hl 2 rfl) ?_
  obtain ⟨v6, hv6, h⟩ := ob h
  refine c_gR X hP hv6 (Nat.le_of_ble_eq_true rfl) (Nat.le_of_ble_eq_true rfl) rfl w_262 dX11_put_82 ?_
  refine c_aload hx hb dX11_put_85 (lv_at hl 3 rfl) ?_
  refine c_aload hx hb dX11_put_87 (lv_at hl 2 rfl) ?_
  obtain ⟨v7, hv7, h⟩ := ob h
  refine c_gR X hP hv7 (Nat.le_of_ble_eq_true rfl) (Nat.le_of_ble_eq_true rfl) rfl w_270 dX11_put_89 ?_
  obtain ⟨v8, hv8, h⟩ := ob h
  obtain ⟨v9, hv9, h⟩ := ob h
  refine c_cw (c_runV X (K_X11_markMove l D Φ v5 v8 (x4) (v6) (x5) (v7) hv9) hv8 ⟨Nat.le_of_ble_eq_true rfl, by decide⟩ ⟨w_818, ww_X11_markMove⟩ rfl hy_X11_markMove rfl ⟨(Nat.le_of_ble_eq_true rfl), (Nat.le_of_ble_eq_true rfl)⟩ hP hS hl.1 (Nat.le_of_ble_eq_true rfl) dX11_put_92 rfl ⟨(Nat.le_of_ble_eq_true rfl), (Nat.le_of_ble_eq_true rfl)⟩) hS (fun H locs hP hS => ?_)
  refine W.eq (g2 := F0 m 95 ls []) rfl ?_
  exact c_tv X hP hS (sj h).symm (Nat.le_of_ble_eq_true rfl) (Nat.le_of_ble_eq_true rfl) dX11_put_95
set_option maxRecDepth 20000 in
set_option maxHeartbeats 4000000 in
theorem N_X11_put_39 {p : Program} {l : Launch} {e : Env} {s : State} {m : MethodId} {args : Array Value} {below : List Frame} {meth : Method} {c : Code} {D : cD} {Φ : cG} {x0 : Nat}   {x3 : Int32} {x4 : Option Nat} {x5 : Option Nat} {y0 : Int32} {σ : cS} {H : Heap} {locs : List Loc} {ls : Array Slot} {q : (Nat ⊕ Unit) × cS} (X : cX p s m args meth c cX11_put 6 none RX11 D Φ) (hl9 : l.stackTraces = false) (hnt : ∀ x ∈ c.exceptionTable.toList, False) (hP : cP D Φ σ H) (hS : va_S (cReg Φ) s.heap H locs)  (hl : lv_has ls 6 [(0, cv Φ (some x0)), (3, .int x3), (4, cv Φ x4), (5, cv Φ x5)]) (h : f_X11_put_39  x0 x3 x4 x5 y0 σ = some q) : cWt p l e 7 4 24 112 s m args below meth c D Φ vlU q H locs 2 12 (F0 m 39 ls [.int y0]) := by
  have hx := X.1
  have hb := X.2.1
  have hown := X.2.2.2.1
  have hts := X.2.2.2.2.1
  have h : ((f_X11_refuseBounds (y0) σ).bind (fun v1 => v1.1.elim (fun k => some (.inl k, v1.2)) (fun w2 => (gR v1.2 (some x0) 11 0).bind (fun v3 => (rc v1.2 v3 10).bind (fun v4 => (f_X10_mayEnter v4 (x4) (x5) v1.2).bind (fun v5 => if v5 = (0:Int32) then (f_X11_put_61 x0 (x3) (x4) (x5) ((1:Int32)) v1.2) else (f_X11_put_61 x0 (x3) (x4) (x5) ((0:Int32)) v1.2))))))) = some q := h
  obtain ⟨v1, hv1, h⟩ := ob h
  refine c_ct (c_tS X (K_X11_refuseBounds l hl9 D Φ σ (y0) hv1) ⟨w_762, ww_X11_refuseBounds⟩ hy_X11_refuseBounds rfl ⟨(Nat.le_of_ble_eq_true rfl), (Nat.le_of_ble_eq_true rfl)⟩ hP hS hl.1 (Nat.le_of_ble_eq_true rfl) dX11_put_39 rfl ⟨(Nat.le_of_ble_eq_true rfl), (Nat.le_of_ble_eq_true rfl)⟩) X hnt hS ⟨(Nat.le_of_ble_eq_true rfl), (Nat.le_of_ble_eq_true rfl)⟩ (fun k e => by have h9 := el_l e h; exact (sj h9).symm) (fun w2 H locs e hP hS => ?_)
  have h := el_r e h
  refine W.eq (g2 := F0 m 42 ls []) rfl ?_
  refine c_aload_n hx hb dX11_put_42 rfl (lv_at hl 0 rfl) ?_
  obtain ⟨v3, hv3, h⟩ := ob h
  refine c_gR X hP hv3 (Nat.le_of_ble_eq_true rfl) (Nat.le_of_ble_eq_true rfl) rfl w_571 dX11_put_43 ?_
  refine c_aload hx hb dX11_put_46 (lv_at hl 2 rfl) ?_
  refine c_aload hx hb dX11_put_48 (lv_at hl 3 rfl) ?_
  obtain ⟨v4, hv4, h⟩ := ob h
  obtain ⟨v5, hv5, h⟩ := ob h
  refine c_cr (c_runV X (K_X10_mayEnter l D Φ v1.2 v4 (x4) (x5) hv5) hv4 ⟨Nat.le_of_ble_eq_true rfl, by decide⟩ ⟨w_765, ww_X10_mayEnter⟩ rfl hy_X10_mayEnter rfl ⟨(Nat.le_of_ble_eq_true rfl), (Nat.le_of_ble_eq_true rfl)⟩ hP hS hl.1 (Nat.le_of_ble_eq_true rfl) dX11_put_50 rfl ⟨(Nat.le_of_ble_eq_true rfl), (Nat.le_of_ble_eq_true rfl)⟩) ?_
  refine lv_if_ne (tgt := 60) hx hb dX11_put_53 rfl (fun hc => ?_) (fun hc => ?_)
  · have h := ine hc h
    refine lv_iconst (v := (0:Int32)) hx hb dX11_put_60 (by decide) ?_
    exact N_X11_put_61 X hl9 hnt hP hS (lv_sub hl [0, 1, 2, 3] rfl) h
  · have h := ip hc h
    refine lv_iconst (v := (1:Int32)) hx hb dX11_put_56 (by decide) ?_
    refine lv_goto (tgt := 61) hx hb dX11_put_57 rfl ?_
    exact N_X11_put_61 X hl9 hnt hP hS (lv_sub hl [0, 1, 2, 3] rfl) h
set_option maxRecDepth 20000 in
set_option maxHeartbeats 4000000 in
theorem N_X11_put_34 {p : Program} {l : Launch} {e : Env} {s : State} {m : MethodId} {args : Array Value} {below : List Frame} {meth : Method} {c : Code} {D : cD} {Φ : cG} {x0 : Nat}   {x3 : Int32} {x4 : Option Nat} {x5 : Option Nat} {σ : cS} {H : Heap} {locs : List Loc} {ls : Array Slot} {q : (Nat ⊕ Unit) × cS} (X : cX p s m args meth c cX11_put 6 none RX11 D Φ) (hl9 : l.stackTraces = false) (hnt : ∀ x ∈ c.exceptionTable.toList, False) (hP : cP D Φ σ H) (hS : va_S (cReg Φ) s.heap H locs)  (hl : lv_has ls 6 [(0, cv Φ (some x0)), (3, .int x3), (4, cv Φ x4), (5, cv Φ x5)]) (h : f_X11_put_34  x0 x3 x4 x5 σ = some q) : cWt p l e 7 4 24 112 s m args below meth c D Φ vlU q H locs 2 12 (F0 m 34 ls []) := by
  have hx := X.1
  have hb := X.2.1
  have hown := X.2.2.2.1
  have hts := X.2.2.2.2.1
  have h : (f_X11_put_39 x0 (x3) (x4) (x5) ((1:Int32)) σ) = some q := h
  refine lv_iconst (v := (1:Int32)) hx hb dX11_put_34 (by decide) ?_
  refine lv_goto (tgt := 39) hx hb dX11_put_35 rfl ?_
  exact N_X11_put_39 X hl9 hnt hP hS (lv_sub hl [0, 1, 2, 3] rfl) h
set_option maxRecDepth 20000 in
set_option maxHeartbeats 4000000 in
theorem K_X11_put (l : Launch) (hl9 : l.stackTraces = false) (D : cD) (Φ : cG) (σ : cS) (x0 : Nat) (x1 : Int32) (x2 : Int32) (x3 : Int32) {q : (Nat ⊕ Unit) × cS} (h : f_X11_put x0 x1 x2 x3 σ = some q) : vx_Met l yX11_put (Cond.code yX11_put cX11_put 6 none :: BG) (rA 7 4 24 112) (cPc D Φ σ [cv Φ (some x0), .int x1, .int x2, .int x3]) (cQt vlU D Φ q) (cXC D Φ q) 4 24 (cReg Φ) := by
  refine vx_ofW (cc := cX11_put) (maxL := 6) (ret := none) (by decide) rfl ?_
  intro p e s m args below meth c s₁ B hml hnt hv
  obtain ⟨rfl, hP, hK, hZ⟩ := hv
  have X : cX p s m [cv Φ (some x0), .int x1, .int x2, .int x3].toArray meth c cX11_put 6 none RX11 D Φ := cX_of B hml hK hZ
  have hx := X.1
  have hb := X.2.1
  have hown := X.2.2.2.1
  have hts := X.2.2.2.2.1
  have hl := lv_entry [cv Φ (some x0), .int x1, .int x2, .int x3] (n := 6) (by simp only [lgs_r, lgs_i, lgs_l, lgs_0, List.length]; exact Nat.le_of_ble_eq_true rfl)
  rw [lg_entry_eq]
  generalize (lg_sl [cv Φ (some x0), .int x1, .int x2, .int x3] ++ List.replicate (6 - (lg_sl [cv Φ (some x0), .int x1, .int x2, .int x3]).length) Slot.unset).toArray = ls at hl ⊢
  simp only [lv_args_r, lv_args_i, lv_args_l, lv_args_0] at hl
  have hl : lv_has ls 6 [(0, cv Φ (some x0)), (1, .int x1), (2, .int x2), (3, .int x3)] := hl
  have hS : va_S (cReg Φ) s.heap s.heap [] := va_S.rf
  show cWt p l e 7 4 24 112 s m [cv Φ (some x0), .int x1, .int x2, .int x3].toArray below meth c D Φ vlU q s.heap [] 0 0 (F0 m 0 ls [])
  have h : ((rc σ (some x0) 11).bind (fun v1 => (f_X11_elementAt v1 (x1) σ).bind (fun v2 => v2.1.elim (fun k => some (.inl k, v2.2)) (fun w3 => (rc v2.2 (some x0) 11).bind (fun v4 => (f_X11_elementAt v4 (x2) v2.2).bind (fun v5 => v5.1.elim (fun k => some (.inl k, v5.2)) (fun w6 => if x3 < (0:Int32) then (f_X11_put_34 x0 (x3) (w3) (w6) v5.2) else ((gR v5.2 (some x0) 11 0).bind (fun v7 => (gR v5.2 w6 3 10).bind (fun v8 => (rc v5.2 v7 10).bind (fun v9 => (f_X10_countFrom v9 (v8) v5.2).bind (fun v10 => if x3 ≤ v10 then (f_X11_put_39 x0 (x3) (w3) (w6) ((0:Int32)) v5.2) else (f_X11_put_34 x0 (x3) (w3) (w6) v5.2))))))))))))) = some q := h
  refine c_aload_n hx hb dX11_put_0 rfl (lv_at hl 0 rfl) ?_
  refine lv_iload_n hx hb dX11_put_1 rfl (lv_at hl 1 rfl) ?_
  obtain ⟨v1, hv1, h⟩ := ob h
  obtain ⟨v2, hv2, h⟩ := ob h
  refine c_ct (c_tV X (K_X11_elementAt l hl9 D Φ σ v1 (x1) hv2) hv1 ⟨Nat.le_of_ble_eq_true rfl, by decide⟩ ⟨w_735, ww_X11_elementAt⟩ rfl hy_X11_elementAt rfl ⟨(Nat.le_of_ble_eq_true rfl), (Nat.le_of_ble_eq_true rfl)⟩ hP hS hl.1 (Nat.le_of_ble_eq_true rfl) dX11_put_2 rfl ⟨(Nat.le_of_ble_eq_true rfl), (Nat.le_of_ble_eq_true rfl)⟩) X hnt hS ⟨(Nat.le_of_ble_eq_true rfl), (Nat.le_of_ble_eq_true rfl)⟩ (fun k e => by have h9 := el_l e h; exact (sj h9).symm) (fun w3 H locs e hP hS => ?_)
  have h := el_r e h
  refine W.eq (g2 := F0 m 5 ls [cv Φ w3]) rfl ?_
  refine c_astore hx hb dX11_put_5 hl (Nat.le_of_ble_eq_true rfl) (lvKa rfl (lvKa rfl (lvKa rfl (lvKi lvK0)))) rfl (fun ls (hl : lv_has ls 6 [(4, cv Φ w3), (0, cv Φ (some x0)), (1, .int x1), (2, .int x2), (3, .int x3)]) => ?_)
  refine c_aload_n hx hb dX11_put_7 rfl (lv_at hl 1 rfl) ?_
  refine lv_iload_n hx hb dX11_put_8 rfl (lv_at hl 3 rfl) ?_
  obtain ⟨v4, hv4, h⟩ := ob h
  obtain ⟨v5, hv5, h⟩ := ob h
  refine c_ct (c_tV X (K_X11_elementAt l hl9 D Φ v2.2 v4 (x2) hv5) hv4 ⟨Nat.le_of_ble_eq_true rfl, by decide⟩ ⟨w_735, ww_X11_elementAt⟩ rfl hy_X11_elementAt rfl ⟨(Nat.le_of_ble_eq_true rfl), (Nat.le_of_ble_eq_true rfl)⟩ hP hS hl.1 (Nat.le_of_ble_eq_true rfl) dX11_put_9 rfl ⟨(Nat.le_of_ble_eq_true rfl), (Nat.le_of_ble_eq_true rfl)⟩) X hnt hS ⟨(Nat.le_of_ble_eq_true rfl), (Nat.le_of_ble_eq_true rfl)⟩ (fun k e => by have h9 := el_l e h; exact (sj h9).symm) (fun w6 H locs e hP hS => ?_)
  have h := el_r e h
  refine W.eq (g2 := F0 m 12 ls [cv Φ w6]) rfl ?_
  refine c_astore hx hb dX11_put_12 hl (Nat.le_of_ble_eq_true rfl) (lvKr (lvKa rfl (lvKa rfl (lvKa rfl (lvKa rfl lvK0))))) rfl (fun ls (hl : lv_has ls 6 [(5, cv Φ w6), (4, cv Φ w3), (0, cv Φ (some x0)), (1, .int x1), (2, .int x2), (3, .int x3)]) => ?_)
  refine lv_iload_n hx hb dX11_put_14 rfl (lv_at hl 5 rfl) ?_
  refine lv_if_lt (tgt := 34) hx hb dX11_put_15 rfl (fun hc => ?_) (fun hc => ?_)
  · have h := ip hc h
    exact N_X11_put_34 X hl9 hnt hP hS (lv_sub hl [2, 5, 1, 0] rfl) h
  · have h := ine hc h
    refine lv_iload_n hx hb dX11_put_18 rfl (lv_at hl 5 rfl) ?_
    refine c_aload_n hx hb dX11_put_19 rfl (lv_at hl 2 rfl) ?_
    obtain ⟨v7, hv7, h⟩ := ob h
    refine c_gR X hP hv7 (Nat.le_of_ble_eq_true rfl) (Nat.le_of_ble_eq_true rfl) rfl w_571 dX11_put_20 ?_
    refine c_aload hx hb dX11_put_23 (lv_at hl 0 rfl) ?_
    obtain ⟨v8, hv8, h⟩ := ob h
    refine c_gR X hP hv8 (Nat.le_of_ble_eq_true rfl) (Nat.le_of_ble_eq_true rfl) rfl w_258 dX11_put_25 ?_
    obtain ⟨v9, hv9, h⟩ := ob h
    obtain ⟨v10, hv10, h⟩ := ob h
    refine c_cr (c_runV X (K_X10_countFrom l D Φ v5.2 v9 (v8) hv10) hv9 ⟨Nat.le_of_ble_eq_true rfl, by decide⟩ ⟨w_758, ww_X10_countFrom⟩ rfl hy_X10_countFrom rfl ⟨(Nat.le_of_ble_eq_true rfl), (Nat.le_of_ble_eq_true rfl)⟩ hP hS hl.1 (Nat.le_of_ble_eq_true rfl) dX11_put_28 rfl ⟨(Nat.le_of_ble_eq_true rfl), (Nat.le_of_ble_eq_true rfl)⟩) ?_
    refine lv_icmp_le (tgt := 38) hx hb dX11_put_31 rfl (fun hc => ?_) (fun hc => ?_)
    · have h := ip hc h
      refine lv_iconst (v := (0:Int32)) hx hb dX11_put_38 (by decide) ?_
      exact N_X11_put_39 X hl9 hnt hP hS (lv_sub hl [2, 5, 1, 0] rfl) h
    · have h := ine hc h
      exact N_X11_put_34 X hl9 hnt hP hS (lv_sub hl [2, 5, 1, 0] rfl) h
theorem ww_X11_put : Cond.instanceMethod yX11_put ∈ BG ∧ Cond.selects (yX11_put).cls yX11_put yX11_put ∈ BG ∧ Cond.initialized (yX11_put).cls ∈ BG ∧ Cond.code yX11_put cX11_put 6 none ∈ BG := ⟨w_732, w_733, w_56, w_734⟩
theorem hy_X11_put : (yX11_put).cls ≠ "java/lang/invoke/MethodHandle" ∧ (yX11_put).cls ≠ "java/lang/invoke/VarHandle" ∧ (parseMethodDescriptor (yX11_put).desc).map (fun d => d.parameters.length) = some 3 := ⟨by decide, by decide, by decide +kernel⟩
def f_X11_putTop_69  (x0 : Nat) (x3 : Int32) (x4 : Option Nat) (x5 : Option Nat) (y0 : Int32) (σ : cS) : Option ((Nat ⊕ Unit) × cS) := (f_X11_refuseState (y0) σ).bind (fun v1 => v1.1.elim (fun k => some (.inl k, v1.2)) (fun w2 => (gR v1.2 (some x0) 11 0).bind (fun v3 => (rc v1.2 v3 10).bind (fun v4 => (f_X10_insert v4 (x4) (none) (x5) (x3) v1.2).bind (fun v5 => (gR v5 x4 3 12).bind (fun v6 => (rc v5 (some x0) 11).bind (fun v7 => (f_X11_markMove v7 (x4) (v6) (none) (x5) v5).bind (fun v8 => some (.inr (), v8)))))))))
def f_X11_putTop_47  (x0 : Nat) (x3 : Int32) (x4 : Option Nat) (x5 : Option Nat) (y0 : Int32) (σ : cS) : Option ((Nat ⊕ Unit) × cS) := (f_X11_refuseBounds (y0) σ).bind (fun v1 => v1.1.elim (fun k => some (.inl k, v1.2)) (fun w2 => (gR v1.2 (some x0) 11 0).bind (fun v3 => (rc v1.2 v3 10).bind (fun v4 => (f_X10_mayEnter v4 (x4) (x5) v1.2).bind (fun v5 => if v5 = (0:Int32) then (f_X11_putTop_69 x0 (x3) (x4) (x5) ((1:Int32)) v1.2) else (f_X11_putTop_69 x0 (x3) (x4) (x5) ((0:Int32)) v1.2))))))
def f_X11_putTop_42  (x0 : Nat) (x3 : Int32) (x4 : Option Nat) (x5 : Option Nat) (σ : cS) : Option ((Nat ⊕ Unit) × cS) := f_X11_putTop_47 x0 (x3) (x4) (x5) ((1:Int32)) σ
def f_X11_putTop (x0 : Nat) (x1 : Int32) (x2 : Int32) (x3 : Int32) (σ : cS) : Option ((Nat ⊕ Unit) × cS) := (rc σ (some x0) 11).bind (fun v1 => (f_X11_elementAt v1 (x1) σ).bind (fun v2 => v2.1.elim (fun k => some (.inl k, v2.2)) (fun w3 => (rc v2.2 (some x0) 11).bind (fun v4 => (f_X11_elementAt v4 (x2) v2.2).bind (fun v5 => v5.1.elim (fun k => some (.inl k, v5.2)) (fun w6 => (gI v5.2 w6 3 7).bind (fun v7 => if v7 = (0:Int32) then (f_X11_putTop_42 x0 (x3) (w3) (w6) v5.2) else (if x3 < (0:Int32) then (f_X11_putTop_42 x0 (x3) (w3) (w6) v5.2) else ((gR v5.2 (some x0) 11 0).bind (fun v8 => (gR v5.2 w6 3 11).bind (fun v9 => (rc v5.2 v8 10).bind (fun v10 => (f_X10_countFrom v10 (v9) v5.2).bind (fun v11 => if x3 ≤ v11 then (f_X11_putTop_47 x0 (x3) (w3) (w6) ((0:Int32)) v5.2) else (f_X11_putTop_42 x0 (x3) (w3) (w6) v5.2))))))))))))))
set_option maxRecDepth 20000 in
set_option maxHeartbeats 4000000 in
theorem N_X11_putTop_69 {p : Program} {l : Launch} {e : Env} {s : State} {m : MethodId} {args : Array Value} {below : List Frame} {meth : Method} {c : Code} {D : cD} {Φ : cG} {x0 : Nat}   {x3 : Int32} {x4 : Option Nat} {x5 : Option Nat} {y0 : Int32} {σ : cS} {H : Heap} {locs : List Loc} {ls : Array Slot} {q : (Nat ⊕ Unit) × cS} (X : cX p s m args meth c cX11_putTop 6 none RX11 D Φ) (hl9 : l.stackTraces = false) (hnt : ∀ x ∈ c.exceptionTable.toList, False) (hP : cP D Φ σ H) (hS : va_S (cReg Φ) s.heap H locs)  (hl : lv_has ls 6 [(0, cv Φ (some x0)), (3, .int x3), (4, cv Φ x4), (5, cv Φ x5)]) (h : f_X11_putTop_69  x0 x3 x4 x5 y0 σ = some q) : cWt p l e 7 4 24 112 s m args below meth c D Φ vlU q H locs 3 18 (F0 m 69 ls [.int y0]) := by
  have hx := X.1
  have hb := X.2.1
  have hown := X.2.2.2.1
  have hts := X.2.2.2.2.1
  have h : ((f_X11_refuseState (y0) σ).bind (fun v1 => v1.1.elim (fun k => some (.inl k, v1.2)) (fun w2 => (gR v1.2 (some x0) 11 0).bind (fun v3 => (rc v1.2 v3 10).bind (fun v4 => (f_X10_insert v4 (x4) (none) (x5) (x3) v1.2).bind (fun v5 => (gR v5 x4 3 12).bind (fun v6 => (rc v5 (some x0) 11).bind (fun v7 => (f_X11_markMove v7 (x4) (v6) (none) (x5) v5).bind (fun v8 => some (.inr (), v8)))))))))) = some q := h
  obtain ⟨v1, hv1, h⟩ := ob h
  refine c_ct (c_tS X (K_X11_refuseState l hl9 D Φ σ (y0) hv1) ⟨w_704, ww_X11_refuseState⟩ hy_X11_refuseState rfl ⟨(Nat.le_of_ble_eq_true rfl), (Nat.le_of_ble_eq_true rfl)⟩ hP hS hl.1 (Nat.le_of_ble_eq_true rfl) dX11_putTop_69 rfl ⟨(Nat.le_of_ble_eq_true rfl), (Nat.le_of_ble_eq_true rfl)⟩) X hnt hS ⟨(Nat.le_of_ble_eq_true rfl), (Nat.le_of_ble_eq_true rfl)⟩ (fun k e => by have h9 := el_l e h; exact (sj h9).symm) (fun w2 H locs e hP hS => ?_)
  have h := el_r e h
  refine W.eq (g2 := F0 m 72 ls []) rfl ?_
  refine c_aload_n hx hb dX11_putTop_72 rfl (lv_at hl 0 rfl) ?_
  obtain ⟨v3, hv3, h⟩ := ob h
  refine c_gR X hP hv3 (Nat.le_of_ble_eq_true rfl) (Nat.le_of_ble_eq_true rfl) rfl w_571 dX11_putTop_73 ?_
  refine c_aload hx hb dX11_putTop_76 (lv_at hl 2 rfl) ?_
  refine c_null (Φ := Φ) hx hb dX11_putTop_78 ?_
  refine c_aload hx hb dX11_putTop_79 (lv_at hl 3 rfl) ?_
  refine lv_iload_n hx hb dX11_putTop_81 rfl (lv_at hl 1 rfl) ?_
  obtain ⟨v4, hv4, h⟩ := ob h
  obtain ⟨v5, hv5, h⟩ := ob h
  refine c_cw (c_runV X (K_X10_insert l D Φ v1.2 v4 (x4) (none) (x5) (x3) hv5) hv4 ⟨Nat.le_of_ble_eq_true rfl, by decide⟩ ⟨w_773, ww_X10_insert⟩ rfl hy_X10_insert rfl ⟨(Nat.le_of_ble_eq_true rfl), (Nat.le_of_ble_eq_true rfl)⟩ hP hS hl.1 (Nat.le_of_ble_eq_true rfl) dX11_putTop_82 rfl ⟨(Nat.le_of_ble_eq_true rfl), (Nat.le_of_ble_eq_true rfl)⟩) hS (fun H locs hP hS => ?_)
  refine W.eq (g2 := F0 m 85 ls []) rfl ?_
  refine c_aload_n hx hb dX11_putTop_85 rfl (lv_at hl 0 rfl) ?_
  refine c_aload hx hb dX11_putTop_86 (lv_at hl 2 rfl) ?_
  refine c_aload hx hb dX11_putTop_88 (lv_at hl 2 rfl) ?_
  obtain ⟨v6, hv6, h⟩ := ob h
  refine c_gR X hP hv6 (Nat.le_of_ble_eq_true rfl) (Nat.le_of_ble_eq_true rfl) rfl w_262 dX11_putTop_90 ?_
  refine c_null (Φ := Φ) hx hb dX11_putTop_93 ?_
  refine c_aload hx hb dX11_putTop_94 (lv_at hl 3 rfl) ?_
  obtain ⟨v7, hv7, h⟩ := ob h
  obtain ⟨v8, hv8, h⟩ := ob h
  refine c_cw (c_runV X (K_X11_markMove l D Φ v5 v7 (x4) (v6) (none) (x5) hv8) hv7 ⟨Nat.le_of_ble_eq_true rfl, by decide⟩ ⟨w_818, ww_X11_markMove⟩ rfl hy_X11_markMove rfl ⟨(Nat.le_of_ble_eq_true rfl), (Nat.le_of_ble_eq_true rfl)⟩ hP hS hl.1 (Nat.le_of_ble_eq_true rfl) dX11_putTop_96 rfl ⟨(Nat.le_of_ble_eq_true rfl), (Nat.le_of_ble_eq_true rfl)⟩) hS (fun H locs hP hS => ?_)
  refine W.eq (g2 := F0 m 99 ls []) rfl ?_
  exact c_tv X hP hS (sj h).symm (Nat.le_of_ble_eq_true rfl) (Nat.le_of_ble_eq_true rfl) dX11_putTop_99
set_option maxRecDepth 20000 in
set_option maxHeartbeats 4000000 in
theorem N_X11_putTop_47 {p : Program} {l : Launch} {e : Env} {s : State} {m : MethodId} {args : Array Value} {below : List Frame} {meth : Method} {c : Code} {D : cD} {Φ : cG} {x0 : Nat}   {x3 : Int32} {x4 : Option Nat} {x5 : Option Nat} {y0 : Int32} {σ : cS} {H : Heap} {locs : List Loc} {ls : Array Slot} {q : (Nat ⊕ Unit) × cS} (X : cX p s m args meth c cX11_putTop 6 none RX11 D Φ) (hl9 : l.stackTraces = false) (hnt : ∀ x ∈ c.exceptionTable.toList, False) (hP : cP D Φ σ H) (hS : va_S (cReg Φ) s.heap H locs)  (hl : lv_has ls 6 [(0, cv Φ (some x0)), (3, .int x3), (4, cv Φ x4), (5, cv Φ x5)]) (h : f_X11_putTop_47  x0 x3 x4 x5 y0 σ = some q) : cWt p l e 7 4 24 112 s m args below meth c D Φ vlU q H locs 2 12 (F0 m 47 ls [.int y0]) := by
  have hx := X.1
  have hb := X.2.1
  have hown := X.2.2.2.1
  have hts := X.2.2.2.2.1
  have h : ((f_X11_refuseBounds (y0) σ).bind (fun v1 => v1.1.elim (fun k => some (.inl k, v1.2)) (fun w2 => (gR v1.2 (some x0) 11 0).bind (fun v3 => (rc v1.2 v3 10).bind (fun v4 => (f_X10_mayEnter v4 (x4) (x5) v1.2).bind (fun v5 => if v5 = (0:Int32) then (f_X11_putTop_69 x0 (x3) (x4) (x5) ((1:Int32)) v1.2) else (f_X11_putTop_69 x0 (x3) (x4) (x5) ((0:Int32)) v1.2))))))) = some q := h
  obtain ⟨v1, hv1, h⟩ := ob h
  refine c_ct (c_tS X (K_X11_refuseBounds l hl9 D Φ σ (y0) hv1) ⟨w_762, ww_X11_refuseBounds⟩ hy_X11_refuseBounds rfl ⟨(Nat.le_of_ble_eq_true rfl), (Nat.le_of_ble_eq_true rfl)⟩ hP hS hl.1 (Nat.le_of_ble_eq_true rfl) dX11_putTop_47 rfl ⟨(Nat.le_of_ble_eq_true rfl), (Nat.le_of_ble_eq_true rfl)⟩) X hnt hS ⟨(Nat.le_of_ble_eq_true rfl), (Nat.le_of_ble_eq_true rfl)⟩ (fun k e => by have h9 := el_l e h; exact (sj h9).symm) (fun w2 H locs e hP hS => ?_)
  have h := el_r e h
  refine W.eq (g2 := F0 m 50 ls []) rfl ?_
  refine c_aload_n hx hb dX11_putTop_50 rfl (lv_at hl 0 rfl) ?_
  obtain ⟨v3, hv3, h⟩ := ob h
  refine c_gR X hP hv3 (Nat.le_of_ble_eq_true rfl) (Nat.le_of_ble_eq_true rfl) rfl w_571 dX11_putTop_51 ?_
  refine c_aload hx hb dX11_putTop_54 (lv_at hl 2 rfl) ?_
  refine c_aload hx hb dX11_putTop_56 (lv_at hl 3 rfl) ?_
  obtain ⟨v4, hv4, h⟩ := ob h
  obtain ⟨v5, hv5, h⟩ := ob h
  refine c_cr (c_runV X (K_X10_mayEnter l D Φ v1.2 v4 (x4) (x5) hv5) hv4 ⟨Nat.le_of_ble_eq_true rfl, by decide⟩ ⟨w_765, ww_X10_mayEnter⟩ rfl hy_X10_mayEnter rfl ⟨(Nat.le_of_ble_eq_true rfl), (Nat.le_of_ble_eq_true rfl)⟩ hP hS hl.1 (Nat.le_of_ble_eq_true rfl) dX11_putTop_58 rfl ⟨(Nat.le_of_ble_eq_true rfl), (Nat.le_of_ble_eq_true rfl)⟩) ?_
  refine lv_if_ne (tgt := 68) hx hb dX11_putTop_61 rfl (fun hc => ?_) (fun hc => ?_)
  · have h := ine hc h
    refine lv_iconst (v := (0:Int32)) hx hb dX11_putTop_68 (by decide) ?_
    exact N_X11_putTop_69 X hl9 hnt hP hS (lv_sub hl [0, 1, 2, 3] rfl) h
  · have h := ip hc h
    refine lv_iconst (v := (1:Int32)) hx hb dX11_putTop_64 (by decide) ?_
    refine lv_goto (tgt := 69) hx hb dX11_putTop_65 rfl ?_
    exact N_X11_putTop_69 X hl9 hnt hP hS (lv_sub hl [0, 1, 2, 3] rfl) h
set_option maxRecDepth 20000 in
set_option maxHeartbeats 4000000 in
theorem N_X11_putTop_42 {p : Program} {l : Launch} {e : Env} {s : State} {m : MethodId} {args : Array Value} {below : List Frame} {meth : Method} {c : Code} {D : cD} {Φ : cG} {x0 : Nat}   {x3 : Int32} {x4 : Option Nat} {x5 : Option Nat} {σ : cS} {H : Heap} {locs : List Loc} {ls : Array Slot} {q : (Nat ⊕ Unit) × cS} (X : cX p s m args meth c cX11_putTop 6 none RX11 D Φ) (hl9 : l.stackTraces = false) (hnt : ∀ x ∈ c.exceptionTable.toList, False) (hP : cP D Φ σ H) (hS : va_S (cReg Φ) s.heap H locs)  (hl : lv_has ls 6 [(0, cv Φ (some x0)), (3, .int x3), (4, cv Φ x4), (5, cv Φ x5)]) (h : f_X11_putTop_42  x0 x3 x4 x5 σ = some q) : cWt p l e 7 4 24 112 s m args below meth c D Φ vlU q H locs 2 12 (F0 m 42 ls []) := by
  have hx := X.1
  have hb := X.2.1
  have hown := X.2.2.2.1
  have hts := X.2.2.2.2.1
  have h : (f_X11_putTop_47 x0 (x3) (x4) (x5) ((1:Int32)) σ) = some q := h
  refine lv_iconst (v := (1:Int32)) hx hb dX11_putTop_42 (by decide) ?_
  refine lv_goto (tgt := 47) hx hb dX11_putTop_43 rfl ?_
  exact N_X11_putTop_47 X hl9 hnt hP hS (lv_sub hl [0, 1, 2, 3] rfl) h
set_option maxRecDepth 20000 in
set_option maxHeartbeats 4000000 in
theorem K_X11_putTop (l : Launch) (hl9 : l.stackTraces = false) (D : cD) (Φ : cG) (σ : cS) (x0 : Nat) (x1 : Int32) (x2 : Int32) (x3 : Int32) {q : (Nat ⊕ Unit) × cS} (h : f_X11_putTop x0 x1 x2 x3 σ = some q) : vx_Met l yX11_putTop (Cond.code yX11_putTop cX11_putTop 6 none :: BG) (rA 7 4 24 112) (cPc D Φ σ [cv Φ (some x0), .int x1, .int x2, .int x3]) (cQt vlU D Φ q) (cXC D Φ q) 4 24 (cReg Φ) := by
  refine vx_ofW (cc := cX11_putTop) (maxL := 6) (ret := none) (by decide) rfl ?_
  intro p e s m args below meth c s₁ B hml hnt hv
  obtain ⟨rfl, hP, hK, hZ⟩ := hv
  have X : cX p s m [cv Φ (some x0), .int x1, .int x2, .int x3].toArray meth c cX11_putTop 6 none RX11 D Φ := cX_of B hml hK hZ
  have hx := X.1
  have hb := X.2.1
  have hown := X.2.2.2.1
  have hts := X.2.2.2.2.1
  have hl := lv_entry [cv Φ (some x0), .int x1, .int x2, .int x3] (n := 6) (by simp only [lgs_r, lgs_i, lgs_l, lgs_0, List.length]; exact Nat.le_of_ble_eq_true rfl)
  rw [lg_entry_eq]
  generalize (lg_sl [cv Φ (some x0), .int x1, .int x2, .int x3] ++ List.replicate (6 - (lg_sl [cv Φ (some x0), .int x1, .int x2, .int x3]).length) Slot.unset).toArray = ls at hl ⊢
  simp only [lv_args_r, lv_args_i, lv_args_l, lv_args_0] at hl
  have hl : lv_has ls 6 [(0, cv Φ (some x0)), (1, .int x1), (2, .int x2), (3, .int x3)] := hl
  have hS : va_S (cReg Φ) s.heap s.heap [] := va_S.rf
  show cWt p l e 7 4 24 112 s m [cv Φ (some x0), .int x1, .int x2, .int x3].toArray below meth c D Φ vlU q s.heap [] 0 0 (F0 m 0 ls [])
  have h : ((rc σ (some x0) 11).bind (fun v1 => (f_X11_elementAt v1 (x1) σ).bind (fun v2 => v2.1.elim (fun k => some (.inl k, v2.2)) (fun w3 => (rc v2.2 (some x0) 11).bind (fun v4 => (f_X11_elementAt v4 (x2) v2.2).bind (fun v5 => v5.1.elim (fun k => some (.inl k, v5.2)) (fun w6 => (gI v5.2 w6 3 7).bind (fun v7 => if v7 = (0:Int32) then (f_X11_putTop_42 x0 (x3) (w3) (w6) v5.2) else (if x3 < (0:Int32) then (f_X11_putTop_42 x0 (x3) (w3) (w6) v5.2) else ((gR v5.2 (some x0) 11 0).bind (fun v8 => (gR v5.2 w6 3 11).bind (fun v9 => (rc v5.2 v8 10).bind (fun v10 => (f_X10_countFrom v10 (v9) v5.2).bind (fun v11 => if x3 ≤ v11 then (f_X11_putTop_47 x0 (x3) (w3) (w6) ((0:Int32)) v5.2) else (f_X11_putTop_42 x0 (x3) (w3) (w6) v5.2))))))))))))))) = some q := h
  refine c_aload_n hx hb dX11_putTop_0 rfl (lv_at hl 0 rfl) ?_
  refine lv_iload_n hx hb dX11_putTop_1 rfl (lv_at hl 1 rfl) ?_
  obtain ⟨v1, hv1, h⟩ := ob h
  obtain ⟨v2, hv2, h⟩ := ob h
  refine c_ct (c_tV X (K_X11_elementAt l hl9 D Φ σ v1 (x1) hv2) hv1 ⟨Nat.le_of_ble_eq_true rfl, by decide⟩ ⟨w_735, ww_X11_elementAt⟩ rfl hy_X11_elementAt rfl ⟨(Nat.le_of_ble_eq_true rfl), (Nat.le_of_ble_eq_true rfl)⟩ hP hS hl.1 (Nat.le_of_ble_eq_true rfl) dX11_putTop_2 rfl ⟨(Nat.le_of_ble_eq_true rfl), (Nat.le_of_ble_eq_true rfl)⟩) X hnt hS ⟨(Nat.le_of_ble_eq_true rfl), (Nat.le_of_ble_eq_true rfl)⟩ (fun k e => by have h9 := el_l e h; exact (sj h9).symm) (fun w3 H locs e hP hS => ?_)
  have h := el_r e h
  refine W.eq (g2 := F0 m 5 ls [cv Φ w3]) rfl ?_
  refine c_astore hx hb dX11_putTop_5 hl (Nat.le_of_ble_eq_true rfl) (lvKa rfl (lvKa rfl (lvKa rfl (lvKi lvK0)))) rfl (fun ls (hl : lv_has ls 6 [(4, cv Φ w3), (0, cv Φ (some x0)), (1, .int x1), (2, .int x2), (3, .int x3)]) => ?_)
  refine c_aload_n hx hb dX11_putTop_7 rfl (lv_at hl 1 rfl) ?_
  refine lv_iload_n hx hb dX11_putTop_8 rfl (lv_at hl 3 rfl) ?_
  obtain ⟨v4, hv4, h⟩ := ob h
  obtain ⟨v5, hv5, h⟩ := ob h
  refine c_ct (c_tV X (K_X11_elementAt l hl9 D Φ v2.2 v4 (x2) hv5) hv4 ⟨Nat.le_of_ble_eq_true rfl, by decide⟩ ⟨w_735, ww_X11_elementAt⟩ rfl hy_X11_elementAt rfl ⟨(Nat.le_of_ble_eq_true rfl), (Nat.le_of_ble_eq_true rfl)⟩ hP hS hl.1 (Nat.le_of_ble_eq_true rfl) dX11_putTop_9 rfl ⟨(Nat.le_of_ble_eq_true rfl), (Nat.le_of_ble_eq_true rfl)⟩) X hnt hS ⟨(Nat.le_of_ble_eq_true rfl), (Nat.le_of_ble_eq_true rfl)⟩ (fun k e => by have h9 := el_l e h; exact (sj h9).symm) (fun w6 H locs e hP hS => ?_)
  have h := el_r e h
  refine W.eq (g2 := F0 m 12 ls [cv Φ w6]) rfl ?_
  refine c_astore hx hb dX11_putTop_12 hl (Nat.le_of_ble_eq_true rfl) (lvKr (lvKa rfl (lvKa rfl (lvKa rfl (lvKa rfl lvK0))))) rfl (fun ls (hl : lv_has ls 6 [(5, cv Φ w6), (4, cv Φ w3), (0, cv Φ (some x0)), (1, .int x1), (2, .int x2), (3, .int x3)]) => ?_)
  refine c_aload hx hb dX11_putTop_14 (lv_at hl 0 rfl) ?_
  obtain ⟨v7, hv7, h⟩ := ob h
  refine c_gI X hP hv7 (Nat.le_of_ble_eq_true rfl) (Nat.le_of_ble_eq_true rfl) rfl w_247 dX11_putTop_16 ?_
  refine lv_if_eq (tgt := 42) hx hb dX11_putTop_19 rfl (fun hc => ?_) (fun hc => ?_)
  · have h := ip hc h
    exact N_X11_putTop_42 X hl9 hnt hP hS (lv_sub hl [2, 5, 1, 0] rfl) h
  · have h := ine hc h
    refine lv_iload_n hx hb dX11_putTop_22 rfl (lv_at hl 5 rfl) ?_
    refine lv_if_lt (tgt := 42) hx hb dX11_putTop_23 rfl (fun hc => ?_) (fun hc => ?_)
    · have h := ip hc h
      exact N_X11_putTop_42 X hl9 hnt hP hS (lv_sub hl [2, 5, 1, 0] rfl) h
    · have h := ine hc h
      refine lv_iload_n hx hb dX11_putTop_26 rfl (lv_at hl 5 rfl) ?_
      refine c_aload_n hx hb dX11_putTop_27 rfl (lv_at hl 2 rfl) ?_
      obtain ⟨v8, hv8, h⟩ := ob h
      refine c_gR X hP hv8 (Nat.le_of_ble_eq_true rfl) (Nat.le_of_ble_eq_true rfl) rfl w_571 dX11_putTop_28 ?_
      refine c_aload hx hb dX11_putTop_31 (lv_at hl 0 rfl) ?_
      obtain ⟨v9, hv9, h⟩ := ob h
      refine c_gR X hP hv9 (Nat.le_of_ble_eq_true rfl) (Nat.le_of_ble_eq_true rfl) rfl w_260 dX11_putTop_33 ?_
      obtain ⟨v10, hv10, h⟩ := ob h
      obtain ⟨v11, hv11, h⟩ := ob h
      refine c_cr (c_runV X (K_X10_countFrom l D Φ v5.2 v10 (v9) hv11) hv10 ⟨Nat.le_of_ble_eq_true rfl, by decide⟩ ⟨w_758, ww_X10_countFrom⟩ rfl hy_X10_countFrom rfl ⟨(Nat.le_of_ble_eq_true rfl), (Nat.le_of_ble_eq_true rfl)⟩ hP hS hl.1 (Nat.le_of_ble_eq_true rfl) dX11_putTop_36 rfl ⟨(Nat.le_of_ble_eq_true rfl), (Nat.le_of_ble_eq_true rfl)⟩) ?_
      refine lv_icmp_le (tgt := 46) hx hb dX11_putTop_39 rfl (fun hc => ?_) (fun hc => ?_)
      · have h := ip hc h
        refine lv_iconst (v := (0:Int32)) hx hb dX11_putTop_46 (by decide) ?_
        exact N_X11_putTop_47 X hl9 hnt hP hS (lv_sub hl [2, 5, 1, 0] rfl) h
      · have h := ine hc h
        exact N_X11_putTop_42 X hl9 hnt hP hS (lv_sub hl [2, 5, 1, 0] rfl) h
theorem ww_X11_putTop : Cond.instanceMethod yX11_putTop ∈ BG ∧ Cond.selects (yX11_putTop).cls yX11_putTop yX11_putTop ∈ BG ∧ Cond.initialized (yX11_putTop).cls ∈ BG ∧ Cond.code yX11_putTop cX11_putTop 6 none ∈ BG := ⟨w_1203, w_1204, w_56, w_1205⟩
theorem hy_X11_putTop : (yX11_putTop).cls ≠ "java/lang/invoke/MethodHandle" ∧ (yX11_putTop).cls ≠ "java/lang/invoke/VarHandle" ∧ (parseMethodDescriptor (yX11_putTop).desc).map (fun d => d.parameters.length) = some 3 := ⟨by decide, by decide, by decide +kernel⟩
def f_X11_take_58  (x0 : Nat) (x2 : Option Nat) (x3 : Option Nat) (x5 : Int32) (y0 : Int32) (σ : cS) : Option ((Nat ⊕ Int32) × cS) := (f_X11_refuseState (y0) σ).bind (fun v1 => v1.1.elim (fun k => some (.inl k, v1.2)) (fun w2 => (gR v1.2 x2 3 12).bind (fun v3 => (gR v1.2 x2 3 15).bind (fun v4 => (gR v1.2 (some x0) 11 0).bind (fun v5 => (rc v1.2 v5 10).bind (fun v6 => (f_X10_remove v6 (x2) v1.2).bind (fun v7 => (rc v7 (some x0) 11).bind (fun v8 => (f_X11_markMove v8 (x2) (v3) (x3) (v4) v7).bind (fun v9 => some (.inr x5, v9))))))))))
def f_X11_take_45  (x0 : Nat) (x2 : Option Nat) (x3 : Option Nat) (y0 : Int32) (σ : cS) : Option ((Nat ⊕ Int32) × cS) := if y0 = ((-1):Int32) then (f_X11_take_58 x0 (x2) (x3) (y0) ((1:Int32)) σ) else (f_X11_take_58 x0 (x2) (x3) (y0) ((0:Int32)) σ)
def f_X11_take (x0 : Nat) (x1 : Int32) (σ : cS) : Option ((Nat ⊕ Int32) × cS) := (rc σ (some x0) 11).bind (fun v1 => (f_X11_elementAt v1 (x1) σ).bind (fun v2 => v2.1.elim (fun k => some (.inl k, v2.2)) (fun w3 => (gR v2.2 w3 3 8).bind (fun v4 => (gR v2.2 w3 3 9).bind (fun v5 => if v4 = none then (if v5 = none then (f_X11_take_45 x0 (w3) (v4) (((-1):Int32)) v2.2) else ((gI v2.2 v5 3 0).bind (fun v6 => f_X11_take_45 x0 (w3) (v4) (((100:Int32) + v6)) v2.2))) else ((gI v2.2 v4 3 0).bind (fun v7 => f_X11_take_45 x0 (w3) (v4) (v7) v2.2)))))))
set_option maxRecDepth 20000 in
set_option maxHeartbeats 4000000 in
theorem N_X11_take_58 {p : Program} {l : Launch} {e : Env} {s : State} {m : MethodId} {args : Array Value} {below : List Frame} {meth : Method} {c : Code} {D : cD} {Φ : cG} {x0 : Nat}   {x2 : Option Nat} {x3 : Option Nat} {x5 : Int32} {y0 : Int32} {σ : cS} {H : Heap} {locs : List Loc} {ls : Array Slot} {q : (Nat ⊕ Int32) × cS} (X : cX p s m args meth c cX11_take 8 (some .int) RX11 D Φ) (hl9 : l.stackTraces = false) (hnt : ∀ x ∈ c.exceptionTable.toList, False) (hP : cP D Φ σ H) (hS : va_S (cReg Φ) s.heap H locs)  (hl : lv_has ls 8 [(0, cv Φ (some x0)), (2, cv Φ x2), (3, cv Φ x3), (5, .int x5)]) (h : f_X11_take_58  x0 x2 x3 x5 y0 σ = some q) : cWt p l e 7 2 12 112 s m args below meth c D Φ vlI q H locs 1 6 (F0 m 58 ls [.int y0]) := by
  have hx := X.1
  have hb := X.2.1
  have hown := X.2.2.2.1
  have hts := X.2.2.2.2.1
  have h : ((f_X11_refuseState (y0) σ).bind (fun v1 => v1.1.elim (fun k => some (.inl k, v1.2)) (fun w2 => (gR v1.2 x2 3 12).bind (fun v3 => (gR v1.2 x2 3 15).bind (fun v4 => (gR v1.2 (some x0) 11 0).bind (fun v5 => (rc v1.2 v5 10).bind (fun v6 => (f_X10_remove v6 (x2) v1.2).bind (fun v7 => (rc v7 (some x0) 11).bind (fun v8 => (f_X11_markMove v8 (x2) (v3) (x3) (v4) v7).bind (fun v9 => some (.inr x5, v9))))))))))) = some q := h
  obtain ⟨v1, hv1, h⟩ := ob h
  refine c_ct (c_tS X (K_X11_refuseState l hl9 D Φ σ (y0) hv1) ⟨w_704, ww_X11_refuseState⟩ hy_X11_refuseState rfl ⟨(Nat.le_of_ble_eq_true rfl), (Nat.le_of_ble_eq_true rfl)⟩ hP hS hl.1 (Nat.le_of_ble_eq_true rfl) dX11_take_58 rfl ⟨(Nat.le_of_ble_eq_true rfl), (Nat.le_of_ble_eq_true rfl)⟩) X hnt hS ⟨(Nat.le_of_ble_eq_true rfl), (Nat.le_of_ble_eq_true rfl)⟩ (fun k e => by have h9 := el_l e h; exact (sj h9).symm) (fun w2 H locs e hP hS => ?_)
  have h := el_r e h
  refine W.eq (g2 := F0 m 61 ls []) rfl ?_
  refine c_aload_n hx hb dX11_take_61 rfl (lv_at hl 1 rfl) ?_
  obtain ⟨v3, hv3, h⟩ := ob h
  refine c_gR X hP hv3 (Nat.le_of_ble_eq_true rfl) (Nat.le_of_ble_eq_true rfl) rfl w_262 dX11_take_62 ?_
  refine c_astore hx hb dX11_take_65 hl (Nat.le_of_ble_eq_true rfl) (lvKa rfl (lvKa rfl (lvKa rfl (lvKi lvK0)))) rfl (fun ls (hl : lv_has ls 8 [(6, cv Φ v3), (0, cv Φ (some x0)), (2, cv Φ x2), (3, cv Φ x3), (5, .int x5)]) => ?_)
  refine c_aload_n hx hb dX11_take_67 rfl (lv_at hl 2 rfl) ?_
  obtain ⟨v4, hv4, h⟩ := ob h
  refine c_gR X hP hv4 (Nat.le_of_ble_eq_true rfl) (Nat.le_of_ble_eq_true rfl) rfl w_270 dX11_take_68 ?_
  refine c_astore hx hb dX11_take_71 hl (Nat.le_of_ble_eq_true rfl) (lvKr (lvKa rfl (lvKa rfl (lvKa rfl (lvKa rfl lvK0))))) rfl (fun ls (hl : lv_has ls 8 [(7, cv Φ v4), (6, cv Φ v3), (0, cv Φ (some x0)), (2, cv Φ x2), (3, cv Φ x3), (5, .int x5)]) => ?_)
  refine c_aload_n hx hb dX11_take_73 rfl (lv_at hl 2 rfl) ?_
  obtain ⟨v5, hv5, h⟩ := ob h
  refine c_gR X hP hv5 (Nat.le_of_ble_eq_true rfl) (Nat.le_of_ble_eq_true rfl) rfl w_571 dX11_take_74 ?_
  refine c_aload_n hx hb dX11_take_77 rfl (lv_at hl 3 rfl) ?_
  obtain ⟨v6, hv6, h⟩ := ob h
  obtain ⟨v7, hv7, h⟩ := ob h
  refine c_cw (c_runV X (K_X10_remove l D Φ v1.2 v6 (x2) hv7) hv6 ⟨Nat.le_of_ble_eq_true rfl, by decide⟩ ⟨w_845, ww_X10_remove⟩ rfl hy_X10_remove rfl ⟨(Nat.le_of_ble_eq_true rfl), (Nat.le_of_ble_eq_true rfl)⟩ hP hS hl.1 (Nat.le_of_ble_eq_true rfl) dX11_take_78 rfl ⟨(Nat.le_of_ble_eq_true rfl), (Nat.le_of_ble_eq_true rfl)⟩) hS (fun H locs hP hS => ?_)
  refine W.eq (g2 := F0 m 81 ls []) rfl ?_
  refine c_aload_n hx hb dX11_take_81 rfl (lv_at hl 2 rfl) ?_
  refine c_aload_n hx hb dX11_take_82 rfl (lv_at hl 3 rfl) ?_
  refine c_aload hx hb dX11_take_83 (lv_at hl 1 rfl) ?_
  refine c_aload_n hx hb dX11_take_85 rfl (lv_at hl 4 rfl) ?_
  refine c_aload hx hb dX11_take_86 (lv_at hl 0 rfl) ?_
  obtain ⟨v8, hv8, h⟩ := ob h
  obtain ⟨v9, hv9, h⟩ := ob h
  refine c_cw (c_runV X (K_X11_markMove l D Φ v7 v8 (x2) (v3) (x3) (v4) hv9) hv8 ⟨Nat.le_of_ble_eq_true rfl, by decide⟩ ⟨w_818, ww_X11_markMove⟩ rfl hy_X11_markMove rfl ⟨(Nat.le_of_ble_eq_true rfl), (Nat.le_of_ble_eq_true rfl)⟩ hP hS hl.1 (Nat.le_of_ble_eq_true rfl) dX11_take_88 rfl ⟨(Nat.le_of_ble_eq_true rfl), (Nat.le_of_ble_eq_true rfl)⟩) hS (fun H locs hP hS => ?_)
  refine W.eq (g2 := F0 m 91 ls []) rfl ?_
  refine lv_iload hx hb dX11_take_91 (lv_at hl 5 rfl) ?_
  exact c_ti X hP hS (sj h).symm (Nat.le_of_ble_eq_true rfl) (Nat.le_of_ble_eq_true rfl) dX11_take_93
set_option maxRecDepth 20000 in
set_option maxHeartbeats 4000000 in
theorem N_X11_take_45 {p : Program} {l : Launch} {e : Env} {s : State} {m : MethodId} {args : Array Value} {below : List Frame} {meth : Method} {c : Code} {D : cD} {Φ : cG} {x0 : Nat}   {x2 : Option Nat} {x3 : Option Nat} {y0 : Int32} {σ : cS} {H : Heap} {locs : List Loc} {ls : Array Slot} {q : (Nat ⊕ Int32) × cS} (X : cX p s m args meth c cX11_take 8 (some .int) RX11 D Φ) (hl9 : l.stackTraces = false) (hnt : ∀ x ∈ c.exceptionTable.toList, False) (hP : cP D Φ σ H) (hS : va_S (cReg Φ) s.heap H locs)  (hl : lv_has ls 8 [(0, cv Φ (some x0)), (2, cv Φ x2), (3, cv Φ x3)]) (h : f_X11_take_45  x0 x2 x3 y0 σ = some q) : cWt p l e 7 2 12 112 s m args below meth c D Φ vlI q H locs 1 6 (F0 m 45 ls [.int y0]) := by
  have hx := X.1
  have hb := X.2.1
  have hown := X.2.2.2.1
  have hts := X.2.2.2.2.1
  have h : (if y0 = ((-1):Int32) then (f_X11_take_58 x0 (x2) (x3) (y0) ((1:Int32)) σ) else (f_X11_take_58 x0 (x2) (x3) (y0) ((0:Int32)) σ)) = some q := h
  refine c_istore hx hb dX11_take_45 hl (Nat.le_of_ble_eq_true rfl) (lvKa rfl (lvKa rfl (lvKa rfl lvK0))) rfl (fun ls (hl : lv_has ls 8 [(5, .int y0), (0, cv Φ (some x0)), (2, cv Φ x2), (3, cv Φ x3)]) => ?_)
  refine lv_iload hx hb dX11_take_47 (lv_at hl 0 rfl) ?_
  refine lv_iconst (v := ((-1):Int32)) hx hb dX11_take_49 (by decide) ?_
  refine lv_icmp_ne (tgt := 57) hx hb dX11_take_50 rfl (fun hc => ?_) (fun hc => ?_)
  · have h := ine hc h
    refine lv_iconst (v := (0:Int32)) hx hb dX11_take_57 (by decide) ?_
    exact N_X11_take_58 X hl9 hnt hP hS (lv_sub hl [1, 2, 3, 0] rfl) h
  · have h := ip hc h
    refine lv_iconst (v := (1:Int32)) hx hb dX11_take_53 (by decide) ?_
    refine lv_goto (tgt := 58) hx hb dX11_take_54 rfl ?_
    exact N_X11_take_58 X hl9 hnt hP hS (lv_sub hl [1, 2, 3, 0] rfl) h
set_option maxRecDepth 20000 in
set_option maxHeartbeats 4000000 in
theorem K_X11_take (l : Launch) (hl9 : l.stackTraces = false) (D : cD) (Φ : cG) (σ : cS) (x0 : Nat) (x1 : Int32) {q : (Nat ⊕ Int32) × cS} (h : f_X11_take x0 x1 σ = some q) : vx_Met l yX11_take (Cond.code yX11_take cX11_take 8 (some .int) :: BG) (rA 7 2 12 112) (cPc D Φ σ [cv Φ (some x0), .int x1]) (cQt vlI D Φ q) (cXC D Φ q) 2 12 (cReg Φ) := by
  refine vx_ofW (cc := cX11_take) (maxL := 8) (ret := (some .int)) (by decide) rfl ?_
  intro p e s m args below meth c s₁ B hml hnt hv
  obtain ⟨rfl, hP, hK, hZ⟩ := hv
  have X : cX p s m [cv Φ (some x0), .int x1].toArray meth c cX11_take 8 (some .int) RX11 D Φ := cX_of B hml hK hZ
  have hx := X.1
  have hb := X.2.1
  have hown := X.2.2.2.1
  have hts := X.2.2.2.2.1
  have hl := lv_entry [cv Φ (some x0), .int x1] (n := 8) (by simp only [lgs_r, lgs_i, lgs_l, lgs_0, List.length]; exact Nat.le_of_ble_eq_true rfl)
  rw [lg_entry_eq]
  generalize (lg_sl [cv Φ (some x0), .int x1] ++ List.replicate (8 - (lg_sl [cv Φ (some x0), .int x1]).length) Slot.unset).toArray = ls at hl ⊢
  simp only [lv_args_r, lv_args_i, lv_args_l, lv_args_0] at hl
  have hl : lv_has ls 8 [(0, cv Φ (some x0)), (1, .int x1)] := hl
  have hS : va_S (cReg Φ) s.heap s.heap [] := va_S.rf
  show cWt p l e 7 2 12 112 s m [cv Φ (some x0), .int x1].toArray below meth c D Φ vlI q s.heap [] 0 0 (F0 m 0 ls [])
  have h : ((rc σ (some x0) 11).bind (fun v1 => (f_X11_elementAt v1 (x1) σ).bind (fun v2 => v2.1.elim (fun k => some (.inl k, v2.2)) (fun w3 => (gR v2.2 w3 3 8).bind (fun v4 => (gR v2.2 w3 3 9).bind (fun v5 => if v4 = none then (if v5 = none then (f_X11_take_45 x0 (w3) (v4) (((-1):Int32)) v2.2) else ((gI v2.2 v5 3 0).bind (fun v6 => f_X11_take_45 x0 (w3) (v4) (((100:Int32) + v6)) v2.2))) else ((gI v2.2 v4 3 0).bind (fun v7 => f_X11_take_45 x0 (w3) (v4) (v7) v2.2)))))))) = some q := h
  refine c_aload_n hx hb dX11_take_0 rfl (lv_at hl 0 rfl) ?_
  refine lv_iload_n hx hb dX11_take_1 rfl (lv_at hl 1 rfl) ?_
  obtain ⟨v1, hv1, h⟩ := ob h
  obtain ⟨v2, hv2, h⟩ := ob h
  refine c_ct (c_tV X (K_X11_elementAt l hl9 D Φ σ v1 (x1) hv2) hv1 ⟨Nat.le_of_ble_eq_true rfl, by decide⟩ ⟨w_735, ww_X11_elementAt⟩ rfl hy_X11_elementAt rfl ⟨(Nat.le_of_ble_eq_true rfl), (Nat.le_of_ble_eq_true rfl)⟩ hP hS hl.1 (Nat.le_of_ble_eq_true rfl) dX11_take_2 rfl ⟨(Nat.le_of_ble_eq_true rfl), (Nat.le_of_ble_eq_true rfl)⟩) X hnt hS ⟨(Nat.le_of_ble_eq_true rfl), (Nat.le_of_ble_eq_true rfl)⟩ (fun k e => by have h9 := el_l e h; exact (sj h9).symm) (fun w3 H locs e hP hS => ?_)
  have h := el_r e h
  refine W.eq (g2 := F0 m 5 ls [cv Φ w3]) rfl ?_
  refine c_astore_n hx hb dX11_take_5 rfl hl (Nat.le_of_ble_eq_true rfl) (lvKa rfl (lvKi lvK0)) rfl (fun ls (hl : lv_has ls 8 [(2, cv Φ w3), (0, cv Φ (some x0)), (1, .int x1)]) => ?_)
  refine c_aload_n hx hb dX11_take_6 rfl (lv_at hl 0 rfl) ?_
  obtain ⟨v4, hv4, h⟩ := ob h
  refine c_gR X hP hv4 (Nat.le_of_ble_eq_true rfl) (Nat.le_of_ble_eq_true rfl) rfl w_251 dX11_take_7 ?_
  refine c_astore_n hx hb dX11_take_10 rfl hl (Nat.le_of_ble_eq_true rfl) (lvKr (lvKa rfl (lvKa rfl lvK0))) rfl (fun ls (hl : lv_has ls 8 [(3, cv Φ v4), (2, cv Φ w3), (0, cv Φ (some x0)), (1, .int x1)]) => ?_)
  refine c_aload_n hx hb dX11_take_11 rfl (lv_at hl 1 rfl) ?_
  obtain ⟨v5, hv5, h⟩ := ob h
  refine c_gR X hP hv5 (Nat.le_of_ble_eq_true rfl) (Nat.le_of_ble_eq_true rfl) rfl w_255 dX11_take_12 ?_
  refine c_astore hx hb dX11_take_15 hl (Nat.le_of_ble_eq_true rfl) (lvKr (lvKa rfl (lvKa rfl (lvKa rfl lvK0)))) rfl (fun ls (hl : lv_has ls 8 [(4, cv Φ v5), (3, cv Φ v4), (2, cv Φ w3), (0, cv Φ (some x0)), (1, .int x1)]) => ?_)
  refine c_aload_n hx hb dX11_take_17 rfl (lv_at hl 1 rfl) ?_
  refine c_ifnull (Φ := Φ) (tgt := 28) hx hb dX11_take_18 rfl (fun hc => ?_) (fun hc => ?_)
  · have h := ip hc h
    refine c_aload hx hb dX11_take_28 (lv_at hl 0 rfl) ?_
    refine c_ifnull (Φ := Φ) (tgt := 44) hx hb dX11_take_30 rfl (fun hc => ?_) (fun hc => ?_)
    · have h := ip hc h
      refine lv_iconst (v := ((-1):Int32)) hx hb dX11_take_44 (by decide) ?_
      exact N_X11_take_45 X hl9 hnt hP hS (lv_sub hl [3, 2, 1] rfl) h
    · have h := ine hc h
      refine lv_bipush (v := (100:Int32)) hx hb dX11_take_33 (by decide) ?_
      refine c_aload hx hb dX11_take_35 (lv_at hl 0 rfl) ?_
      obtain ⟨v6, hv6, h⟩ := ob h
      refine c_gI X hP hv6 (Nat.le_of_ble_eq_true rfl) (Nat.le_of_ble_eq_true rfl) rfl w_227 dX11_take_37 ?_
      refine lv_iadd hx hb dX11_take_40 ?_
      refine lv_goto (tgt := 45) hx hb dX11_take_41 rfl ?_
      exact N_X11_take_45 X hl9 hnt hP hS (lv_sub hl [3, 2, 1] rfl) h
  · have h := ine hc h
    refine c_aload_n hx hb dX11_take_21 rfl (lv_at hl 1 rfl) ?_
    obtain ⟨v7, hv7, h⟩ := ob h
    refine c_gI X hP hv7 (Nat.le_of_ble_eq_true rfl) (Nat.le_of_ble_eq_true rfl) rfl w_227 dX11_take_22 ?_
    refine lv_goto (tgt := 45) hx hb dX11_take_25 rfl ?_
    exact N_X11_take_45 X hl9 hnt hP hS (lv_sub hl [3, 2, 1] rfl) h
theorem ww_X11_take : Cond.instanceMethod yX11_take ∈ BG ∧ Cond.selects (yX11_take).cls yX11_take yX11_take ∈ BG ∧ Cond.initialized (yX11_take).cls ∈ BG ∧ Cond.code yX11_take cX11_take 8 (some .int) ∈ BG := ⟨w_842, w_843, w_56, w_844⟩
theorem hy_X11_take : (yX11_take).cls ≠ "java/lang/invoke/MethodHandle" ∧ (yX11_take).cls ≠ "java/lang/invoke/VarHandle" ∧ (parseMethodDescriptor (yX11_take).desc).map (fun d => d.parameters.length) = some 1 := ⟨by decide, by decide, by decide +kernel⟩
def f_X11_setClass_21  (x0 : Nat) (x2 : Int32) (x3 : Int32) (x4 : Option Nat) (y0 : Int32) (σ : cS) : Option ((Nat ⊕ Int32) × cS) := (f_X11_refuseArgument (y0) σ).bind (fun v1 => v1.1.elim (fun k => some (.inl k, v1.2)) (fun w2 => (gI v1.2 x4 3 2).bind (fun v3 => (f_X11_isMember (v3) (x2)).bind (fun v4 => (rc v1.2 (some x0) 11).bind (fun v5 => (f_X11_giveClass v5 (x4) (x2) (x3) v1.2).bind (fun v6 => lrzt v4 v6))))))
def f_X11_setClass (x0 : Nat) (x1 : Int32) (x2 : Int32) (x3 : Int32) (σ : cS) : Option ((Nat ⊕ Int32) × cS) := (rc σ (some x0) 11).bind (fun v1 => (f_X11_elementAt v1 (x1) σ).bind (fun v2 => v2.1.elim (fun k => some (.inl k, v2.2)) (fun w3 => (f_X11_isBelow (x2) ((8:Int32))).bind (fun v4 => if v4 = (0:Int32) then (f_X11_setClass_21 x0 (x2) (x3) (w3) ((1:Int32)) v2.2) else (f_X11_setClass_21 x0 (x2) (x3) (w3) ((0:Int32)) v2.2)))))
set_option maxRecDepth 20000 in
set_option maxHeartbeats 4000000 in
theorem N_X11_setClass_21 {p : Program} {l : Launch} {e : Env} {s : State} {m : MethodId} {args : Array Value} {below : List Frame} {meth : Method} {c : Code} {D : cD} {Φ : cG} {x0 : Nat}   {x2 : Int32} {x3 : Int32} {x4 : Option Nat} {y0 : Int32} {σ : cS} {H : Heap} {locs : List Loc} {ls : Array Slot} {q : (Nat ⊕ Int32) × cS} (X : cX p s m args meth c cX11_setClass 6 (some .boolean) RX11 D Φ) (hl9 : l.stackTraces = false) (hnt : ∀ x ∈ c.exceptionTable.toList, False) (hP : cP D Φ σ H) (hS : va_S (cReg Φ) s.heap H locs)  (hl : lv_has ls 6 [(0, cv Φ (some x0)), (2, .int x2), (3, .int x3), (4, cv Φ x4)]) (h : f_X11_setClass_21  x0 x2 x3 x4 y0 σ = some q) : cWt p l e 7 2 12 112 s m args below meth c D Φ vlI q H locs 1 6 (F0 m 21 ls [.int y0]) := by
  have hx := X.1
  have hb := X.2.1
  have hown := X.2.2.2.1
  have hts := X.2.2.2.2.1
  have h : ((f_X11_refuseArgument (y0) σ).bind (fun v1 => v1.1.elim (fun k => some (.inl k, v1.2)) (fun w2 => (gI v1.2 x4 3 2).bind (fun v3 => (f_X11_isMember (v3) (x2)).bind (fun v4 => (rc v1.2 (some x0) 11).bind (fun v5 => (f_X11_giveClass v5 (x4) (x2) (x3) v1.2).bind (fun v6 => lrzt v4 v6))))))) = some q := h
  obtain ⟨v1, hv1, h⟩ := ob h
  refine c_ct (c_tS X (K_X11_refuseArgument l hl9 D Φ σ (y0) hv1) ⟨w_638, ww_X11_refuseArgument⟩ hy_X11_refuseArgument rfl ⟨(Nat.le_of_ble_eq_true rfl), (Nat.le_of_ble_eq_true rfl)⟩ hP hS hl.1 (Nat.le_of_ble_eq_true rfl) dX11_setClass_21 rfl ⟨(Nat.le_of_ble_eq_true rfl), (Nat.le_of_ble_eq_true rfl)⟩) X hnt hS ⟨(Nat.le_of_ble_eq_true rfl), (Nat.le_of_ble_eq_true rfl)⟩ (fun k e => by have h9 := el_l e h; exact (sj h9).symm) (fun w2 H locs e hP hS => ?_)
  have h := el_r e h
  refine W.eq (g2 := F0 m 24 ls []) rfl ?_
  refine c_aload hx hb dX11_setClass_24 (lv_at hl 3 rfl) ?_
  obtain ⟨v3, hv3, h⟩ := ob h
  refine c_gI X hP hv3 (Nat.le_of_ble_eq_true rfl) (Nat.le_of_ble_eq_true rfl) rfl w_233 dX11_setClass_26 ?_
  refine lv_iload_n hx hb dX11_setClass_29 rfl (lv_at hl 1 rfl) ?_
  obtain ⟨v4, hv4, h⟩ := ob h
  refine c_cr (c_runS X (K_X11_isMember l D Φ v1.2 (v3) (x2) hv4) ⟨w_966, ww_X11_isMember⟩ hy_X11_isMember rfl ⟨(Nat.le_of_ble_eq_true rfl), (Nat.le_of_ble_eq_true rfl)⟩ hP hS hl.1 (Nat.le_of_ble_eq_true rfl) dX11_setClass_30 rfl ⟨(Nat.le_of_ble_eq_true rfl), (Nat.le_of_ble_eq_true rfl)⟩) ?_
  refine c_istore hx hb dX11_setClass_33 hl (Nat.le_of_ble_eq_true rfl) (lvKa rfl (lvKa rfl (lvKa rfl (lvKr lvK0)))) rfl (fun ls (hl : lv_has ls 6 [(5, .int v4), (0, cv Φ (some x0)), (2, .int x2), (3, .int x3), (4, cv Φ x4)]) => ?_)
  refine c_aload_n hx hb dX11_setClass_35 rfl (lv_at hl 1 rfl) ?_
  refine c_aload hx hb dX11_setClass_36 (lv_at hl 4 rfl) ?_
  refine lv_iload_n hx hb dX11_setClass_38 rfl (lv_at hl 2 rfl) ?_
  refine lv_iload_n hx hb dX11_setClass_39 rfl (lv_at hl 3 rfl) ?_
  obtain ⟨v5, hv5, h⟩ := ob h
  obtain ⟨v6, hv6, h⟩ := ob h
  refine c_cw (c_runV X (K_X11_giveClass l D Φ v1.2 v5 (x4) (x2) (x3) hv6) hv5 ⟨Nat.le_of_ble_eq_true rfl, by decide⟩ ⟨w_1093, ww_X11_giveClass⟩ rfl hy_X11_giveClass rfl ⟨(Nat.le_of_ble_eq_true rfl), (Nat.le_of_ble_eq_true rfl)⟩ hP hS hl.1 (Nat.le_of_ble_eq_true rfl) dX11_setClass_40 rfl ⟨(Nat.le_of_ble_eq_true rfl), (Nat.le_of_ble_eq_true rfl)⟩) hS (fun H locs hP hS => ?_)
  refine W.eq (g2 := F0 m 43 ls []) rfl ?_
  refine lv_iload hx hb dX11_setClass_43 (lv_at hl 0 rfl) ?_
  obtain ⟨hz, hq⟩ := lrzt_spec h
  exact c_tz X hz hP hS hq (Nat.le_of_ble_eq_true rfl) (Nat.le_of_ble_eq_true rfl) dX11_setClass_45
set_option maxRecDepth 20000 in
set_option maxHeartbeats 4000000 in
theorem K_X11_setClass (l : Launch) (hl9 : l.stackTraces = false) (D : cD) (Φ : cG) (σ : cS) (x0 : Nat) (x1 : Int32) (x2 : Int32) (x3 : Int32) {q : (Nat ⊕ Int32) × cS} (h : f_X11_setClass x0 x1 x2 x3 σ = some q) : vx_Met l yX11_setClass (Cond.code yX11_setClass cX11_setClass 6 (some .boolean) :: BG) (rA 7 2 12 112) (cPc D Φ σ [cv Φ (some x0), .int x1, .int x2, .int x3]) (cQt vlI D Φ q) (cXC D Φ q) 2 12 (cReg Φ) := by
  refine vx_ofW (cc := cX11_setClass) (maxL := 6) (ret := (some .boolean)) (by decide) rfl ?_
  intro p e s m args below meth c s₁ B hml hnt hv
  obtain ⟨rfl, hP, hK, hZ⟩ := hv
  have X : cX p s m [cv Φ (some x0), .int x1, .int x2, .int x3].toArray meth c cX11_setClass 6 (some .boolean) RX11 D Φ := cX_of B hml hK hZ
  have hx := X.1
  have hb := X.2.1
  have hown := X.2.2.2.1
  have hts := X.2.2.2.2.1
  have hl := lv_entry [cv Φ (some x0), .int x1, .int x2, .int x3] (n := 6) (by simp only [lgs_r, lgs_i, lgs_l, lgs_0, List.length]; exact Nat.le_of_ble_eq_true rfl)
  rw [lg_entry_eq]
  generalize (lg_sl [cv Φ (some x0), .int x1, .int x2, .int x3] ++ List.replicate (6 - (lg_sl [cv Φ (some x0), .int x1, .int x2, .int x3]).length) Slot.unset).toArray = ls at hl ⊢
  simp only [lv_args_r, lv_args_i, lv_args_l, lv_args_0] at hl
  have hl : lv_has ls 6 [(0, cv Φ (some x0)), (1, .int x1), (2, .int x2), (3, .int x3)] := hl
  have hS : va_S (cReg Φ) s.heap s.heap [] := va_S.rf
  show cWt p l e 7 2 12 112 s m [cv Φ (some x0), .int x1, .int x2, .int x3].toArray below meth c D Φ vlI q s.heap [] 0 0 (F0 m 0 ls [])
  have h : ((rc σ (some x0) 11).bind (fun v1 => (f_X11_elementAt v1 (x1) σ).bind (fun v2 => v2.1.elim (fun k => some (.inl k, v2.2)) (fun w3 => (f_X11_isBelow (x2) ((8:Int32))).bind (fun v4 => if v4 = (0:Int32) then (f_X11_setClass_21 x0 (x2) (x3) (w3) ((1:Int32)) v2.2) else (f_X11_setClass_21 x0 (x2) (x3) (w3) ((0:Int32)) v2.2)))))) = some q := h
  refine c_aload_n hx hb dX11_setClass_0 rfl (lv_at hl 0 rfl) ?_
  refine lv_iload_n hx hb dX11_setClass_1 rfl (lv_at hl 1 rfl) ?_
  obtain ⟨v1, hv1, h⟩ := ob h
  obtain ⟨v2, hv2, h⟩ := ob h
  refine c_ct (c_tV X (K_X11_elementAt l hl9 D Φ σ v1 (x1) hv2) hv1 ⟨Nat.le_of_ble_eq_true rfl, by decide⟩ ⟨w_735, ww_X11_elementAt⟩ rfl hy_X11_elementAt rfl ⟨(Nat.le_of_ble_eq_true rfl), (Nat.le_of_ble_eq_true rfl)⟩ hP hS hl.1 (Nat.le_of_ble_eq_true rfl) dX11_setClass_2 rfl ⟨(Nat.le_of_ble_eq_true rfl), (Nat.le_of_ble_eq_true rfl)⟩) X hnt hS ⟨(Nat.le_of_ble_eq_true rfl), (Nat.le_of_ble_eq_true rfl)⟩ (fun k e => by have h9 := el_l e h; exact (sj h9).symm) (fun w3 H locs e hP hS => ?_)
  have h := el_r e h
  refine W.eq (g2 := F0 m 5 ls [cv Φ w3]) rfl ?_
  refine c_astore hx hb dX11_setClass_5 hl (Nat.le_of_ble_eq_true rfl) (lvKa rfl (lvKa rfl (lvKa rfl (lvKi lvK0)))) rfl (fun ls (hl : lv_has ls 6 [(4, cv Φ w3), (0, cv Φ (some x0)), (1, .int x1), (2, .int x2), (3, .int x3)]) => ?_)
  refine lv_iload_n hx hb dX11_setClass_7 rfl (lv_at hl 3 rfl) ?_
  refine lv_bipush (v := (8:Int32)) hx hb dX11_setClass_8 (by decide) ?_
  obtain ⟨v4, hv4, h⟩ := ob h
  refine c_cr (c_runS X (K_X11_isBelow l D Φ v2.2 (x2) ((8:Int32)) hv4) ⟨w_635, ww_X11_isBelow⟩ hy_X11_isBelow rfl ⟨(Nat.le_of_ble_eq_true rfl), (Nat.le_of_ble_eq_true rfl)⟩ hP hS hl.1 (Nat.le_of_ble_eq_true rfl) dX11_setClass_10 rfl ⟨(Nat.le_of_ble_eq_true rfl), (Nat.le_of_ble_eq_true rfl)⟩) ?_
  refine lv_if_ne (tgt := 20) hx hb dX11_setClass_13 rfl (fun hc => ?_) (fun hc => ?_)
  · have h := ine hc h
    refine lv_iconst (v := (0:Int32)) hx hb dX11_setClass_20 (by decide) ?_
    exact N_X11_setClass_21 X hl9 hnt hP hS (lv_sub hl [1, 3, 4, 0] rfl) h
  · have h := ip hc h
    refine lv_iconst (v := (1:Int32)) hx hb dX11_setClass_16 (by decide) ?_
    refine lv_goto (tgt := 21) hx hb dX11_setClass_17 rfl ?_
    exact N_X11_setClass_21 X hl9 hnt hP hS (lv_sub hl [1, 3, 4, 0] rfl) h
theorem ww_X11_setClass : Cond.instanceMethod yX11_setClass ∈ BG ∧ Cond.selects (yX11_setClass).cls yX11_setClass yX11_setClass ∈ BG ∧ Cond.initialized (yX11_setClass).cls ∈ BG ∧ Cond.code yX11_setClass cX11_setClass 6 (some .boolean) ∈ BG := ⟨w_1215, w_1216, w_56, w_1217⟩
theorem hy_X11_setClass : (yX11_setClass).cls ≠ "java/lang/invoke/MethodHandle" ∧ (yX11_setClass).cls ≠ "java/lang/invoke/VarHandle" ∧ (parseMethodDescriptor (yX11_setClass).desc).map (fun d => d.parameters.length) = some 3 := ⟨by decide, by decide, by decide +kernel⟩
def f_X11_setAttribute_109  (x0 : Nat) (x2 : Int32) (x4 : Option Nat) (x5 : Int32) (σ : cS) : Option ((Nat ⊕ Int32) × cS) := (f_X7_feature ((3:Int32)) (x2)).bind (fun v1 => (rc σ (some x0) 11).bind (fun v2 => (f_X11_markFeature v2 (x4) (v1) σ).bind (fun v3 => some (.inr x5, v3))))
def f_X11_setAttribute_54  (x0 : Nat) (x2 : Int32) (x3 : Int32) (x4 : Option Nat) (y0 : Int32) (σ : cS) : Option ((Nat ⊕ Int32) × cS) := if x2 = (0:Int32) then ((pI σ x4 3 4 x3).bind (fun v9 => (gR v9 (some x0) 11 0).bind (fun v10 => (gI v9 v10 10 3).bind (fun v11 => (pI v9 v10 10 3 (v11 + (1:Int32))).bind (fun v12 => f_X11_setAttribute_109 x0 (x2) (x4) (y0) v12))))) else ((pI σ x4 3 5 x3).bind (fun v1 => (gR v1 (some x0) 11 0).bind (fun v2 => (rc v1 v2 10).bind (fun v3 => (f_X10_layOut v3  v1).bind (fun v4 => (gR v4 x4 3 8).bind (fun v5 => (gR v4 x4 3 15).bind (fun v6 => (rc v4 (some x0) 11).bind (fun v7 => (f_X11_markSlotted v7 (v5) (v6) v4).bind (fun v8 => f_X11_setAttribute_109 x0 (x2) (x4) (y0) v8)))))))))
def f_X11_setAttribute_34  (x0 : Nat) (x2 : Int32) (x3 : Int32) (x4 : Option Nat) (y0 : Int32) (σ : cS) : Option ((Nat ⊕ Int32) × cS) := (f_X11_refuseArgument (y0) σ).bind (fun v1 => v1.1.elim (fun k => some (.inl k, v1.2)) (fun w2 => if x2 = (0:Int32) then ((gI v1.2 x4 3 4).bind (fun v4 => f_X11_setAttribute_54 x0 (x2) (x3) (x4) (v4) v1.2)) else ((gI v1.2 x4 3 5).bind (fun v3 => f_X11_setAttribute_54 x0 (x2) (x3) (x4) (v3) v1.2))))
def f_X11_setAttribute_29  (x0 : Nat) (x2 : Int32) (x3 : Int32) (x4 : Option Nat) (σ : cS) : Option ((Nat ⊕ Int32) × cS) := f_X11_setAttribute_34 x0 (x2) (x3) (x4) ((1:Int32)) σ
def f_X11_setAttribute_33  (x0 : Nat) (x2 : Int32) (x3 : Int32) (x4 : Option Nat) (σ : cS) : Option ((Nat ⊕ Int32) × cS) := f_X11_setAttribute_34 x0 (x2) (x3) (x4) ((0:Int32)) σ
def f_X11_setAttribute (x0 : Nat) (x1 : Int32) (x2 : Int32) (x3 : Int32) (σ : cS) : Option ((Nat ⊕ Int32) × cS) := (rc σ (some x0) 11).bind (fun v1 => (f_X11_elementAt v1 (x1) σ).bind (fun v2 => v2.1.elim (fun k => some (.inl k, v2.2)) (fun w3 => (f_X11_isBelow (x2) ((2:Int32))).bind (fun v4 => if v4 = (0:Int32) then (f_X11_setAttribute_29 x0 (x2) (x3) (w3) v2.2) else (if x3 = ((-1):Int32) then (f_X11_setAttribute_33 x0 (x2) (x3) (w3) v2.2) else ((f_X11_isBelow (x3) ((10:Int32))).bind (fun v5 => if v5 = (0:Int32) then (f_X11_setAttribute_29 x0 (x2) (x3) (w3) v2.2) else (f_X11_setAttribute_33 x0 (x2) (x3) (w3) v2.2))))))))
set_option maxRecDepth 20000 in
set_option maxHeartbeats 4000000 in
theorem N_X11_setAttribute_109 {p : Program} {l : Launch} {e : Env} {s : State} {m : MethodId} {args : Array Value} {below : List Frame} {meth : Method} {c : Code} {D : cD} {Φ : cG} {x0 : Nat}   {x2 : Int32} {x4 : Option Nat} {x5 : Int32} {σ : cS} {H : Heap} {locs : List Loc} {ls : Array Slot} {q : (Nat ⊕ Int32) × cS} (X : cX p s m args meth c cX11_setAttribute 6 (some .int) RX11 D Φ) (hl9 : l.stackTraces = false) (hnt : ∀ x ∈ c.exceptionTable.toList, False) (hP : cP D Φ σ H) (hS : va_S (cReg Φ) s.heap H locs)  (hl : lv_has ls 6 [(0, cv Φ (some x0)), (2, .int x2), (4, cv Φ x4), (5, .int x5)]) (h : f_X11_setAttribute_109  x0 x2 x4 x5 σ = some q) : cWt p l e 7 2 12 112 s m args below meth c D Φ vlI q H locs 2 12 (F0 m 109 ls []) := by
  have hx := X.1
  have hb := X.2.1
  have hown := X.2.2.2.1
  have hts := X.2.2.2.2.1
  have h : ((f_X7_feature ((3:Int32)) (x2)).bind (fun v1 => (rc σ (some x0) 11).bind (fun v2 => (f_X11_markFeature v2 (x4) (v1) σ).bind (fun v3 => some (.inr x5, v3))))) = some q := h
  refine c_aload_n hx hb dX11_setAttribute_109 rfl (lv_at hl 0 rfl) ?_
  refine c_aload hx hb dX11_setAttribute_110 (lv_at hl 2 rfl) ?_
  refine lv_iconst (v := (3:Int32)) hx hb dX11_setAttribute_112 (by decide) ?_
  refine lv_iload_n hx hb dX11_setAttribute_113 rfl (lv_at hl 1 rfl) ?_
  obtain ⟨v1, hv1, h⟩ := ob h
  refine c_cr (c_runS X (K_X7_feature l D Φ σ ((3:Int32)) (x2) hv1) ⟨w_1097, ww_X7_feature⟩ hy_X7_feature rfl ⟨(Nat.le_of_ble_eq_true rfl), (Nat.le_of_ble_eq_true rfl)⟩ hP hS hl.1 (Nat.le_of_ble_eq_true rfl) dX11_setAttribute_114 rfl ⟨(Nat.le_of_ble_eq_true rfl), (Nat.le_of_ble_eq_true rfl)⟩) ?_
  obtain ⟨v2, hv2, h⟩ := ob h
  obtain ⟨v3, hv3, h⟩ := ob h
  refine c_cw (c_runV X (K_X11_markFeature l D Φ σ v2 (x4) (v1) hv3) hv2 ⟨Nat.le_of_ble_eq_true rfl, by decide⟩ ⟨w_1098, ww_X11_markFeature⟩ rfl hy_X11_markFeature rfl ⟨(Nat.le_of_ble_eq_true rfl), (Nat.le_of_ble_eq_true rfl)⟩ hP hS hl.1 (Nat.le_of_ble_eq_true rfl) dX11_setAttribute_117 rfl ⟨(Nat.le_of_ble_eq_true rfl), (Nat.le_of_ble_eq_true rfl)⟩) hS (fun H locs hP hS => ?_)
  refine W.eq (g2 := F0 m 120 ls []) rfl ?_
  refine lv_iload hx hb dX11_setAttribute_120 (lv_at hl 3 rfl) ?_
  exact c_ti X hP hS (sj h).symm (Nat.le_of_ble_eq_true rfl) (Nat.le_of_ble_eq_true rfl) dX11_setAttribute_122
set_option maxRecDepth 20000 in
set_option maxHeartbeats 4000000 in
theorem N_X11_setAttribute_54 {p : Program} {l : Launch} {e : Env} {s : State} {m : MethodId} {args : Array Value} {below : List Frame} {meth : Method} {c : Code} {D : cD} {Φ : cG} {x0 : Nat}   {x2 : Int32} {x3 : Int32} {x4 : Option Nat} {y0 : Int32} {σ : cS} {H : Heap} {locs : List Loc} {ls : Array Slot} {q : (Nat ⊕ Int32) × cS} (X : cX p s m args meth c cX11_setAttribute 6 (some .int) RX11 D Φ) (hl9 : l.stackTraces = false) (hnt : ∀ x ∈ c.exceptionTable.toList, False) (hP : cP D Φ σ H) (hS : va_S (cReg Φ) s.heap H locs)  (hl : lv_has ls 6 [(0, cv Φ (some x0)), (2, .int x2), (3, .int x3), (4, cv Φ x4)]) (h : f_X11_setAttribute_54  x0 x2 x3 x4 y0 σ = some q) : cWt p l e 7 2 12 112 s m args below meth c D Φ vlI q H locs 2 12 (F0 m 54 ls [.int y0]) := by
  have hx := X.1
  have hb := X.2.1
  have hown := X.2.2.2.1
  have hts := X.2.2.2.2.1
  have h : (if x2 = (0:Int32) then ((pI σ x4 3 4 x3).bind (fun v9 => (gR v9 (some x0) 11 0).bind (fun v10 => (gI v9 v10 10 3).bind (fun v11 => (pI v9 v10 10 3 (v11 + (1:Int32))).bind (fun v12 => f_X11_setAttribute_109 x0 (x2) (x4) (y0) v12))))) else ((pI σ x4 3 5 x3).bind (fun v1 => (gR v1 (some x0) 11 0).bind (fun v2 => (rc v1 v2 10).bind (fun v3 => (f_X10_layOut v3  v1).bind (fun v4 => (gR v4 x4 3 8).bind (fun v5 => (gR v4 x4 3 15).bind (fun v6 => (rc v4 (some x0) 11).bind (fun v7 => (f_X11_markSlotted v7 (v5) (v6) v4).bind (fun v8 => f_X11_setAttribute_109 x0 (x2) (x4) (y0) v8)))))))))) = some q := h
  refine c_istore hx hb dX11_setAttribute_54 hl (Nat.le_of_ble_eq_true rfl) (lvKa rfl (lvKa rfl (lvKa rfl (lvKr lvK0)))) rfl (fun ls (hl : lv_has ls 6 [(5, .int y0), (0, cv Φ (some x0)), (2, .int x2), (3, .int x3), (4, cv Φ x4)]) => ?_)
  refine lv_iload_n hx hb dX11_setAttribute_56 rfl (lv_at hl 2 rfl) ?_
  refine lv_if_ne (tgt := 82) hx hb dX11_setAttribute_57 rfl (fun hc => ?_) (fun hc => ?_)
  · have h := ine hc h
    refine c_aload hx hb dX11_setAttribute_82 (lv_at hl 4 rfl) ?_
    refine lv_iload_n hx hb dX11_setAttribute_84 rfl (lv_at hl 3 rfl) ?_
    obtain ⟨v1, hv1, h⟩ := ob h
    refine c_pI X hP hS hv1 (Nat.le_of_ble_eq_true rfl) (Nat.le_of_ble_eq_true rfl) rfl rfl (Or.inl rfl) w_242 dX11_setAttribute_85 (fun H locs hP hS => ?_)
    refine c_aload_n hx hb dX11_setAttribute_88 rfl (lv_at hl 1 rfl) ?_
    obtain ⟨v2, hv2, h⟩ := ob h
    refine c_gR X hP hv2 (Nat.le_of_ble_eq_true rfl) (Nat.le_of_ble_eq_true rfl) rfl w_571 dX11_setAttribute_89 ?_
    obtain ⟨v3, hv3, h⟩ := ob h
    obtain ⟨v4, hv4, h⟩ := ob h
    refine c_cw (c_runV X (K_X10_layOut l D Φ v1 v3  hv4) hv3 ⟨Nat.le_of_ble_eq_true rfl, by decide⟩ ⟨w_1213, ww_X10_layOut⟩ rfl hy_X10_layOut rfl ⟨(Nat.le_of_ble_eq_true rfl), (Nat.le_of_ble_eq_true rfl)⟩ hP hS hl.1 (Nat.le_of_ble_eq_true rfl) dX11_setAttribute_92 rfl ⟨(Nat.le_of_ble_eq_true rfl), (Nat.le_of_ble_eq_true rfl)⟩) hS (fun H locs hP hS => ?_)
    refine W.eq (g2 := F0 m 95 ls []) rfl ?_
    refine c_aload_n hx hb dX11_setAttribute_95 rfl (lv_at hl 1 rfl) ?_
    refine c_aload hx hb dX11_setAttribute_96 (lv_at hl 4 rfl) ?_
    obtain ⟨v5, hv5, h⟩ := ob h
    refine c_gR X hP hv5 (Nat.le_of_ble_eq_true rfl) (Nat.le_of_ble_eq_true rfl) rfl w_251 dX11_setAttribute_98 ?_
    refine c_aload hx hb dX11_setAttribute_101 (lv_at hl 4 rfl) ?_
    obtain ⟨v6, hv6, h⟩ := ob h
    refine c_gR X hP hv6 (Nat.le_of_ble_eq_true rfl) (Nat.le_of_ble_eq_true rfl) rfl w_270 dX11_setAttribute_103 ?_
    obtain ⟨v7, hv7, h⟩ := ob h
    obtain ⟨v8, hv8, h⟩ := ob h
    refine c_cw (c_runV X (K_X11_markSlotted l D Φ v4 v7 (v5) (v6) hv8) hv7 ⟨Nat.le_of_ble_eq_true rfl, by decide⟩ ⟨w_834, ww_X11_markSlotted⟩ rfl hy_X11_markSlotted rfl ⟨(Nat.le_of_ble_eq_true rfl), (Nat.le_of_ble_eq_true rfl)⟩ hP hS hl.1 (Nat.le_of_ble_eq_true rfl) dX11_setAttribute_106 rfl ⟨(Nat.le_of_ble_eq_true rfl), (Nat.le_of_ble_eq_true rfl)⟩) hS (fun H locs hP hS => ?_)
    refine W.eq (g2 := F0 m 109 ls []) rfl ?_
    exact N_X11_setAttribute_109 X hl9 hnt hP hS (lv_sub hl [1, 2, 4, 0] rfl) h
  · have h := ip hc h
    refine c_aload hx hb dX11_setAttribute_60 (lv_at hl 4 rfl) ?_
    refine lv_iload_n hx hb dX11_setAttribute_62 rfl (lv_at hl 3 rfl) ?_
    obtain ⟨v9, hv9, h⟩ := ob h
    refine c_pI X hP hS hv9 (Nat.le_of_ble_eq_true rfl) (Nat.le_of_ble_eq_true rfl) rfl rfl (Or.inl rfl) w_239 dX11_setAttribute_63 (fun H locs hP hS => ?_)
    refine c_aload_n hx hb dX11_setAttribute_66 rfl (lv_at hl 1 rfl) ?_
    obtain ⟨v10, hv10, h⟩ := ob h
    refine c_gR X hP hv10 (Nat.le_of_ble_eq_true rfl) (Nat.le_of_ble_eq_true rfl) rfl w_571 dX11_setAttribute_67 ?_
    refine c_dupq hx hb dX11_setAttribute_70 ?_
    obtain ⟨v11, hv11, h⟩ := ob h
    refine c_gI X hP hv11 (Nat.le_of_ble_eq_true rfl) (Nat.le_of_ble_eq_true rfl) rfl w_334 dX11_setAttribute_71 ?_
    refine lv_iconst (v := (1:Int32)) hx hb dX11_setAttribute_74 (by decide) ?_
    refine lv_iadd hx hb dX11_setAttribute_75 ?_
    obtain ⟨v12, hv12, h⟩ := ob h
    refine c_pI X hP hS hv12 (Nat.le_of_ble_eq_true rfl) (Nat.le_of_ble_eq_true rfl) rfl rfl (Or.inl rfl) w_334 dX11_setAttribute_76 (fun H locs hP hS => ?_)
    refine lv_goto (tgt := 109) hx hb dX11_setAttribute_79 rfl ?_
    exact N_X11_setAttribute_109 X hl9 hnt hP hS (lv_sub hl [1, 2, 4, 0] rfl) h
set_option maxRecDepth 20000 in
set_option maxHeartbeats 4000000 in
theorem N_X11_setAttribute_34 {p : Program} {l : Launch} {e : Env} {s : State} {m : MethodId} {args : Array Value} {below : List Frame} {meth : Method} {c : Code} {D : cD} {Φ : cG} {x0 : Nat}   {x2 : Int32} {x3 : Int32} {x4 : Option Nat} {y0 : Int32} {σ : cS} {H : Heap} {locs : List Loc} {ls : Array Slot} {q : (Nat ⊕ Int32) × cS} (X : cX p s m args meth c cX11_setAttribute 6 (some .int) RX11 D Φ) (hl9 : l.stackTraces = false) (hnt : ∀ x ∈ c.exceptionTable.toList, False) (hP : cP D Φ σ H) (hS : va_S (cReg Φ) s.heap H locs)  (hl : lv_has ls 6 [(0, cv Φ (some x0)), (2, .int x2), (3, .int x3), (4, cv Φ x4)]) (h : f_X11_setAttribute_34  x0 x2 x3 x4 y0 σ = some q) : cWt p l e 7 2 12 112 s m args below meth c D Φ vlI q H locs 1 6 (F0 m 34 ls [.int y0]) := by
  have hx := X.1
  have hb := X.2.1
  have hown := X.2.2.2.1
  have hts := X.2.2.2.2.1
  have h : ((f_X11_refuseArgument (y0) σ).bind (fun v1 => v1.1.elim (fun k => some (.inl k, v1.2)) (fun w2 => if x2 = (0:Int32) then ((gI v1.2 x4 3 4).bind (fun v4 => f_X11_setAttribute_54 x0 (x2) (x3) (x4) (v4) v1.2)) else ((gI v1.2 x4 3 5).bind (fun v3 => f_X11_setAttribute_54 x0 (x2) (x3) (x4) (v3) v1.2))))) = some q := h
  obtain ⟨v1, hv1, h⟩ := ob h
  refine c_ct (c_tS X (K_X11_refuseArgument l hl9 D Φ σ (y0) hv1) ⟨w_638, ww_X11_refuseArgument⟩ hy_X11_refuseArgument rfl ⟨(Nat.le_of_ble_eq_true rfl), (Nat.le_of_ble_eq_true rfl)⟩ hP hS hl.1 (Nat.le_of_ble_eq_true rfl) dX11_setAttribute_34 rfl ⟨(Nat.le_of_ble_eq_true rfl), (Nat.le_of_ble_eq_true rfl)⟩) X hnt hS ⟨(Nat.le_of_ble_eq_true rfl), (Nat.le_of_ble_eq_true rfl)⟩ (fun k e => by have h9 := el_l e h; exact (sj h9).symm) (fun w2 H locs e hP hS => ?_)
  have h := el_r e h
  refine W.eq (g2 := F0 m 37 ls []) rfl ?_
  refine lv_iload_n hx hb dX11_setAttribute_37 rfl (lv_at hl 1 rfl) ?_
  refine lv_if_ne (tgt := 49) hx hb dX11_setAttribute_38 rfl (fun hc => ?_) (fun hc => ?_)
  · have h := ine hc h
    refine c_aload hx hb dX11_setAttribute_49 (lv_at hl 3 rfl) ?_
    obtain ⟨v3, hv3, h⟩ := ob h
    refine c_gI X hP hv3 (Nat.le_of_ble_eq_true rfl) (Nat.le_of_ble_eq_true rfl) rfl w_242 dX11_setAttribute_51 ?_
    exact N_X11_setAttribute_54 X hl9 hnt hP hS (lv_sub hl [0, 1, 2, 3] rfl) h
  · have h := ip hc h
    refine c_aload hx hb dX11_setAttribute_41 (lv_at hl 3 rfl) ?_
    obtain ⟨v4, hv4, h⟩ := ob h
    refine c_gI X hP hv4 (Nat.le_of_ble_eq_true rfl) (Nat.le_of_ble_eq_true rfl) rfl w_239 dX11_setAttribute_43 ?_
    refine lv_goto (tgt := 54) hx hb dX11_setAttribute_46 rfl ?_
    exact N_X11_setAttribute_54 X hl9 hnt hP hS (lv_sub hl [0, 1, 2, 3] rfl) h
set_option maxRecDepth 20000 in
set_option maxHeartbeats 4000000 in
theorem N_X11_setAttribute_29 {p : Program} {l : Launch} {e : Env} {s : State} {m : MethodId} {args : Array Value} {below : List Frame} {meth : Method} {c : Code} {D : cD} {Φ : cG} {x0 : Nat}   {x2 : Int32} {x3 : Int32} {x4 : Option Nat} {σ : cS} {H : Heap} {locs : List Loc} {ls : Array Slot} {q : (Nat ⊕ Int32) × cS} (X : cX p s m args meth c cX11_setAttribute 6 (some .int) RX11 D Φ) (hl9 : l.stackTraces = false) (hnt : ∀ x ∈ c.exceptionTable.toList, False) (hP : cP D Φ σ H) (hS : va_S (cReg Φ) s.heap H locs)  (hl : lv_has ls 6 [(0, cv Φ (some x0)), (2, .int x2), (3, .int x3), (4, cv Φ x4)]) (h : f_X11_setAttribute_29  x0 x2 x3 x4 σ = some q) : cWt p l e 7 2 12 112 s m args below meth c D Φ vlI q H locs 1 6 (F0 m 29 ls []) := by
  have hx := X.1
  have hb := X.2.1
  have hown := X.2.2.2.1
  have hts := X.2.2.2.2.1
  have h : (f_X11_setAttribute_34 x0 (x2) (x3) (x4) ((1:Int32)) σ) = some q := h
  refine lv_iconst (v := (1:Int32)) hx hb dX11_setAttribute_29 (by decide) ?_
  refine lv_goto (tgt := 34) hx hb dX11_setAttribute_30 rfl ?_
  exact N_X11_setAttribute_34 X hl9 hnt hP hS (lv_sub hl [0, 1, 2, 3] rfl) h
set_option maxRecDepth 20000 in
set_option maxHeartbeats 4000000 in
theorem N_X11_setAttribute_33 {p : Program} {l : Launch} {e : Env} {s : State} {m : MethodId} {args : Array Value} {below : List Frame} {meth : Method} {c : Code} {D : cD} {Φ : cG} {x0 : Nat}   {x2 : Int32} {x3 : Int32} {x4 : Option Nat} {σ : cS} {H : Heap} {locs : List Loc} {ls : Array Slot} {q : (Nat ⊕ Int32) × cS} (X : cX p s m args meth c cX11_setAttribute 6 (some .int) RX11 D Φ) (hl9 : l.stackTraces = false) (hnt : ∀ x ∈ c.exceptionTable.toList, False) (hP : cP D Φ σ H) (hS : va_S (cReg Φ) s.heap H locs)  (hl : lv_has ls 6 [(0, cv Φ (some x0)), (2, .int x2), (3, .int x3), (4, cv Φ x4)]) (h : f_X11_setAttribute_33  x0 x2 x3 x4 σ = some q) : cWt p l e 7 2 12 112 s m args below meth c D Φ vlI q H locs 1 6 (F0 m 33 ls []) := by
  have hx := X.1
  have hb := X.2.1
  have hown := X.2.2.2.1
  have hts := X.2.2.2.2.1
  have h : (f_X11_setAttribute_34 x0 (x2) (x3) (x4) ((0:Int32)) σ) = some q := h
  refine lv_iconst (v := (0:Int32)) hx hb dX11_setAttribute_33 (by decide) ?_
  exact N_X11_setAttribute_34 X hl9 hnt hP hS (lv_sub hl [0, 1, 2, 3] rfl) h
set_option maxRecDepth 20000 in
set_option maxHeartbeats 4000000 in
theorem K_X11_setAttribute (l : Launch) (hl9 : l.stackTraces = false) (D : cD) (Φ : cG) (σ : cS) (x0 : Nat) (x1 : Int32) (x2 : Int32) (x3 : Int32) {q : (Nat ⊕ Int32) × cS} (h : f_X11_setAttribute x0 x1 x2 x3 σ = some q) : vx_Met l yX11_setAttribute (Cond.code yX11_setAttribute cX11_setAttribute 6 (some .int) :: BG) (rA 7 2 12 112) (cPc D Φ σ [cv Φ (some x0), .int x1, .int x2, .int x3]) (cQt vlI D Φ q) (cXC D Φ q) 2 12 (cReg Φ) := by
  refine vx_ofW (cc := cX11_setAttribute) (maxL := 6) (ret := (some .int)) (by decide) rfl ?_
  intro p e s m args below meth c s₁ B hml hnt hv
  obtain ⟨rfl, hP, hK, hZ⟩ := hv
  have X : cX p s m [cv Φ (some x0), .int x1, .int x2, .int x3].toArray meth c cX11_setAttribute 6 (some .int) RX11 D Φ := cX_of B hml hK hZ
  have hx := X.1
  have hb := X.2.1
  have hown := X.2.2.2.1
  have hts := X.2.2.2.2.1
  have hl := lv_entry [cv Φ (some x0), .int x1, .int x2, .int x3] (n := 6) (by simp only [lgs_r, lgs_i, lgs_l, lgs_0, List.length]; exact Nat.le_of_ble_eq_true rfl)
  rw [lg_entry_eq]
  generalize (lg_sl [cv Φ (some x0), .int x1, .int x2, .int x3] ++ List.replicate (6 - (lg_sl [cv Φ (some x0), .int x1, .int x2, .int x3]).length) Slot.unset).toArray = ls at hl ⊢
  simp only [lv_args_r, lv_args_i, lv_args_l, lv_args_0] at hl
  have hl : lv_has ls 6 [(0, cv Φ (some x0)), (1, .int x1), (2, .int x2), (3, .int x3)] := hl
  have hS : va_S (cReg Φ) s.heap s.heap [] := va_S.rf
  show cWt p l e 7 2 12 112 s m [cv Φ (some x0), .int x1, .int x2, .int x3].toArray below meth c D Φ vlI q s.heap [] 0 0 (F0 m 0 ls [])
  have h : ((rc σ (some x0) 11).bind (fun v1 => (f_X11_elementAt v1 (x1) σ).bind (fun v2 => v2.1.elim (fun k => some (.inl k, v2.2)) (fun w3 => (f_X11_isBelow (x2) ((2:Int32))).bind (fun v4 => if v4 = (0:Int32) then (f_X11_setAttribute_29 x0 (x2) (x3) (w3) v2.2) else (if x3 = ((-1):Int32) then (f_X11_setAttribute_33 x0 (x2) (x3) (w3) v2.2) else ((f_X11_isBelow (x3) ((10:Int32))).bind (fun v5 => if v5 = (0:Int32) then (f_X11_setAttribute_29 x0 (x2) (x3) (w3) v2.2) else (f_X11_setAttribute_33 x0 (x2) (x3) (w3) v2.2))))))))) = some q := h
  refine c_aload_n hx hb dX11_setAttribute_0 rfl (lv_at hl 0 rfl) ?_
  refine lv_iload_n hx hb dX11_setAttribute_1 rfl (lv_at hl 1 rfl) ?_
  obtain ⟨v1, hv1, h⟩ := ob h
  obtain ⟨v2, hv2, h⟩ := ob h
  refine c_ct (c_tV X (K_X11_elementAt l hl9 D Φ σ v1 (x1) hv2) hv1 ⟨Nat.le_of_ble_eq_true rfl, by decide⟩ ⟨w_735, ww_X11_elementAt⟩ rfl hy_X11_elementAt rfl ⟨(Nat.le_of_ble_eq_true rfl), (Nat.le_of_ble_eq_true rfl)⟩ hP hS hl.1 (Nat.le_of_ble_eq_true rfl) dX11_setAttribute_2 rfl ⟨(Nat.le_of_ble_eq_true rfl), (Nat.le_of_ble_eq_true rfl)⟩) X hnt hS ⟨(Nat.le_of_ble_eq_true rfl), (Nat.le_of_ble_eq_true rfl)⟩ (fun k e => by have h9 := el_l e h; exact (sj h9).symm) (fun w3 H locs e hP hS => ?_)
  have h := el_r e h
  refine W.eq (g2 := F0 m 5 ls [cv Φ w3]) rfl ?_
  refine c_astore hx hb dX11_setAttribute_5 hl (Nat.le_of_ble_eq_true rfl) (lvKa rfl (lvKa rfl (lvKa rfl (lvKi lvK0)))) rfl (fun ls (hl : lv_has ls 6 [(4, cv Φ w3), (0, cv Φ (some x0)), (1, .int x1), (2, .int x2), (3, .int x3)]) => ?_)
  refine lv_iload_n hx hb dX11_setAttribute_7 rfl (lv_at hl 3 rfl) ?_
  refine lv_iconst (v := (2:Int32)) hx hb dX11_setAttribute_8 (by decide) ?_
  obtain ⟨v4, hv4, h⟩ := ob h
  refine c_cr (c_runS X (K_X11_isBelow l D Φ v2.2 (x2) ((2:Int32)) hv4) ⟨w_635, ww_X11_isBelow⟩ hy_X11_isBelow rfl ⟨(Nat.le_of_ble_eq_true rfl), (Nat.le_of_ble_eq_true rfl)⟩ hP hS hl.1 (Nat.le_of_ble_eq_true rfl) dX11_setAttribute_9 rfl ⟨(Nat.le_of_ble_eq_true rfl), (Nat.le_of_ble_eq_true rfl)⟩) ?_
  refine lv_if_eq (tgt := 29) hx hb dX11_setAttribute_12 rfl (fun hc => ?_) (fun hc => ?_)
  · have h := ip hc h
    exact N_X11_setAttribute_29 X hl9 hnt hP hS (lv_sub hl [1, 3, 4, 0] rfl) h
  · have h := ine hc h
    refine lv_iload_n hx hb dX11_setAttribute_15 rfl (lv_at hl 4 rfl) ?_
    refine lv_iconst (v := ((-1):Int32)) hx hb dX11_setAttribute_16 (by decide) ?_
    refine lv_icmp_eq (tgt := 33) hx hb dX11_setAttribute_17 rfl (fun hc => ?_) (fun hc => ?_)
    · have h := ip hc h
      exact N_X11_setAttribute_33 X hl9 hnt hP hS (lv_sub hl [1, 3, 4, 0] rfl) h
    · have h := ine hc h
      refine lv_iload_n hx hb dX11_setAttribute_20 rfl (lv_at hl 4 rfl) ?_
      refine lv_bipush (v := (10:Int32)) hx hb dX11_setAttribute_21 (by decide) ?_
      obtain ⟨v5, hv5, h⟩ := ob h
      refine c_cr (c_runS X (K_X11_isBelow l D Φ v2.2 (x3) ((10:Int32)) hv5) ⟨w_635, ww_X11_isBelow⟩ hy_X11_isBelow rfl ⟨(Nat.le_of_ble_eq_true rfl), (Nat.le_of_ble_eq_true rfl)⟩ hP hS hl.1 (Nat.le_of_ble_eq_true rfl) dX11_setAttribute_23 rfl ⟨(Nat.le_of_ble_eq_true rfl), (Nat.le_of_ble_eq_true rfl)⟩) ?_
      refine lv_if_ne (tgt := 33) hx hb dX11_setAttribute_26 rfl (fun hc => ?_) (fun hc => ?_)
      · have h := ine hc h
        exact N_X11_setAttribute_33 X hl9 hnt hP hS (lv_sub hl [1, 3, 4, 0] rfl) h
      · have h := ip hc h
        exact N_X11_setAttribute_29 X hl9 hnt hP hS (lv_sub hl [1, 3, 4, 0] rfl) h
theorem ww_X11_setAttribute : Cond.instanceMethod yX11_setAttribute ∈ BG ∧ Cond.selects (yX11_setAttribute).cls yX11_setAttribute yX11_setAttribute ∈ BG ∧ Cond.initialized (yX11_setAttribute).cls ∈ BG ∧ Cond.code yX11_setAttribute cX11_setAttribute 6 (some .int) ∈ BG := ⟨w_1219, w_1220, w_56, w_1221⟩
theorem hy_X11_setAttribute : (yX11_setAttribute).cls ≠ "java/lang/invoke/MethodHandle" ∧ (yX11_setAttribute).cls ≠ "java/lang/invoke/VarHandle" ∧ (parseMethodDescriptor (yX11_setAttribute).desc).map (fun d => d.parameters.length) = some 3 := ⟨by decide, by decide, by decide +kernel⟩
def f_X11_setPart_24  (x0 : Nat) (x2 : Int32) (x3 : Option Nat) (y0 : Int32) (σ : cS) : Option ((Nat ⊕ Int32) × cS) := (f_X11_refuseArgument (y0) σ).bind (fun v1 => v1.1.elim (fun k => some (.inl k, v1.2)) (fun w2 => (gI v1.2 x3 3 6).bind (fun v3 => (pI v1.2 x3 3 6 x2).bind (fun v4 => (gR v4 (some x0) 11 0).bind (fun v5 => (gI v4 v5 10 3).bind (fun v6 => (pI v4 v5 10 3 (v6 + (1:Int32))).bind (fun v7 => (gI v7 x3 3 0).bind (fun v8 => (rc v7 (some x0) 11).bind (fun v9 => (f_X11_mark v9 (((1:Int32) <<< (v8 &&& 31))) v7).bind (fun v10 => some (.inr v3, v10)))))))))))
def f_X11_setPart_23  (x0 : Nat) (x2 : Int32) (x3 : Option Nat) (σ : cS) : Option ((Nat ⊕ Int32) × cS) := f_X11_setPart_24 x0 (x2) (x3) ((0:Int32)) σ
def f_X11_setPart (x0 : Nat) (x1 : Int32) (x2 : Int32) (σ : cS) : Option ((Nat ⊕ Int32) × cS) := (rc σ (some x0) 11).bind (fun v1 => (f_X11_elementAt v1 (x1) σ).bind (fun v2 => v2.1.elim (fun k => some (.inl k, v2.2)) (fun w3 => if x2 = ((-1):Int32) then (f_X11_setPart_23 x0 (x2) (w3) v2.2) else ((f_X11_isBelow (x2) ((4:Int32))).bind (fun v4 => if v4 = (0:Int32) then (f_X11_setPart_24 x0 (x2) (w3) ((1:Int32)) v2.2) else (f_X11_setPart_23 x0 (x2) (w3) v2.2))))))
set_option maxRecDepth 20000 in
set_option maxHeartbeats 4000000 in
theorem N_X11_setPart_24 {p : Program} {l : Launch} {e : Env} {s : State} {m : MethodId} {args : Array Value} {below : List Frame} {meth : Method} {c : Code} {D : cD} {Φ : cG} {x0 : Nat}   {x2 : Int32} {x3 : Option Nat} {y0 : Int32} {σ : cS} {H : Heap} {locs : List Loc} {ls : Array Slot} {q : (Nat ⊕ Int32) × cS} (X : cX p s m args meth c cX11_setPart 5 (some .int) RX11 D Φ) (hl9 : l.stackTraces = false) (hnt : ∀ x ∈ c.exceptionTable.toList, False) (hP : cP D Φ σ H) (hS : va_S (cReg Φ) s.heap H locs)  (hl : lv_has ls 5 [(0, cv Φ (some x0)), (2, .int x2), (3, cv Φ x3)]) (h : f_X11_setPart_24  x0 x2 x3 y0 σ = some q) : cWt p l e 7 2 12 112 s m args below meth c D Φ vlI q H locs 1 6 (F0 m 24 ls [.int y0]) := by
  have hx := X.1
  have hb := X.2.1
  have hown := X.2.2.2.1
  have hts := X.2.2.2.2.1
  have h : ((f_X11_refuseArgument (y0) σ).bind (fun v1 => v1.1.elim (fun k => some (.inl k, v1.2)) (fun w2 => (gI v1.2 x3 3 6).bind (fun v3 => (pI v1.2 x3 3 6 x2).bind (fun v4 => (gR v4 (some x0) 11 0).bind (fun v5 => (gI v4 v5 10 3).bind (fun v6 => (pI v4 v5 10 3 (v6 + (1:Int32))).bind (fun v7 => (gI v7 x3 3 0).bind (fun v8 => (rc v7 (some x0) 11).bind (fun v9 => (f_X11_mark v9 (((1:Int32) <<< (v8 &&& 31))) v7).bind (fun v10 => some (.inr v3, v10)))))))))))) = some q := h
  obtain ⟨v1, hv1, h⟩ := ob h
  refine c_ct (c_tS X (K_X11_refuseArgument l hl9 D Φ σ (y0) hv1) ⟨w_638, ww_X11_refuseArgument⟩ hy_X11_refuseArgument rfl ⟨(Nat.le_of_ble_eq_true rfl), (Nat.le_of_ble_eq_true rfl)⟩ hP hS hl.1 (Nat.le_of_ble_eq_true rfl) dX11_setPart_24 rfl ⟨(Nat.le_of_ble_eq_true rfl), (Nat.le_of_ble_eq_true rfl)⟩) X hnt hS ⟨(Nat.le_of_ble_eq_true rfl), (Nat.le_of_ble_eq_true rfl)⟩ (fun k e => by have h9 := el_l e h; exact (sj h9).symm) (fun w2 H locs e hP hS => ?_)
  have h := el_r e h
  refine W.eq (g2 := F0 m 27 ls []) rfl ?_
  refine c_aload_n hx hb dX11_setPart_27 rfl (lv_at hl 2 rfl) ?_
  obtain ⟨v3, hv3, h⟩ := ob h
  refine c_gI X hP hv3 (Nat.le_of_ble_eq_true rfl) (Nat.le_of_ble_eq_true rfl) rfl w_245 dX11_setPart_28 ?_
  refine c_istore hx hb dX11_setPart_31 hl (Nat.le_of_ble_eq_true rfl) (lvKa rfl (lvKa rfl (lvKr lvK0))) rfl (fun ls (hl : lv_has ls 5 [(4, .int v3), (0, cv Φ (some x0)), (2, .int x2), (3, cv Φ x3)]) => ?_)
  refine c_aload_n hx hb dX11_setPart_33 rfl (lv_at hl 3 rfl) ?_
  refine lv_iload_n hx hb dX11_setPart_34 rfl (lv_at hl 2 rfl) ?_
  obtain ⟨v4, hv4, h⟩ := ob h
  refine c_pI X hP hS hv4 (Nat.le_of_ble_eq_true rfl) (Nat.le_of_ble_eq_true rfl) rfl rfl (Or.inl rfl) w_245 dX11_setPart_35 (fun H locs hP hS => ?_)
  refine c_aload_n hx hb dX11_setPart_38 rfl (lv_at hl 1 rfl) ?_
  obtain ⟨v5, hv5, h⟩ := ob h
  refine c_gR X hP hv5 (Nat.le_of_ble_eq_true rfl) (Nat.le_of_ble_eq_true rfl) rfl w_571 dX11_setPart_39 ?_
  refine c_dupq hx hb dX11_setPart_42 ?_
  obtain ⟨v6, hv6, h⟩ := ob h
  refine c_gI X hP hv6 (Nat.le_of_ble_eq_true rfl) (Nat.le_of_ble_eq_true rfl) rfl w_334 dX11_setPart_43 ?_
  refine lv_iconst (v := (1:Int32)) hx hb dX11_setPart_46 (by decide) ?_
  refine lv_iadd hx hb dX11_setPart_47 ?_
  obtain ⟨v7, hv7, h⟩ := ob h
  refine c_pI X hP hS hv7 (Nat.le_of_ble_eq_true rfl) (Nat.le_of_ble_eq_true rfl) rfl rfl (Or.inl rfl) w_334 dX11_setPart_48 (fun H locs hP hS => ?_)
  refine c_aload_n hx hb dX11_setPart_51 rfl (lv_at hl 1 rfl) ?_
  refine lv_iconst (v := (1:Int32)) hx hb dX11_setPart_52 (by decide) ?_
  refine c_aload_n hx hb dX11_setPart_53 rfl (lv_at hl 3 rfl) ?_
  obtain ⟨v8, hv8, h⟩ := ob h
  refine c_gI X hP hv8 (Nat.le_of_ble_eq_true rfl) (Nat.le_of_ble_eq_true rfl) rfl w_227 dX11_setPart_54 ?_
  refine lv_ishl hx hb dX11_setPart_57 ?_
  obtain ⟨v9, hv9, h⟩ := ob h
  obtain ⟨v10, hv10, h⟩ := ob h
  refine c_cw (c_runV X (K_X11_mark l D Φ v7 v9 (((1:Int32) <<< (v8 &&& 31))) hv10) hv9 ⟨Nat.le_of_ble_eq_true rfl, by decide⟩ ⟨w_826, ww_X11_mark⟩ rfl hy_X11_mark rfl ⟨(Nat.le_of_ble_eq_true rfl), (Nat.le_of_ble_eq_true rfl)⟩ hP hS hl.1 (Nat.le_of_ble_eq_true rfl) dX11_setPart_58 rfl ⟨(Nat.le_of_ble_eq_true rfl), (Nat.le_of_ble_eq_true rfl)⟩) hS (fun H locs hP hS => ?_)
  refine W.eq (g2 := F0 m 61 ls []) rfl ?_
  refine lv_iload hx hb dX11_setPart_61 (lv_at hl 0 rfl) ?_
  exact c_ti X hP hS (sj h).symm (Nat.le_of_ble_eq_true rfl) (Nat.le_of_ble_eq_true rfl) dX11_setPart_63
set_option maxRecDepth 20000 in
set_option maxHeartbeats 4000000 in
theorem N_X11_setPart_23 {p : Program} {l : Launch} {e : Env} {s : State} {m : MethodId} {args : Array Value} {below : List Frame} {meth : Method} {c : Code} {D : cD} {Φ : cG} {x0 : Nat}   {x2 : Int32} {x3 : Option Nat} {σ : cS} {H : Heap} {locs : List Loc} {ls : Array Slot} {q : (Nat ⊕ Int32) × cS} (X : cX p s m args meth c cX11_setPart 5 (some .int) RX11 D Φ) (hl9 : l.stackTraces = false) (hnt : ∀ x ∈ c.exceptionTable.toList, False) (hP : cP D Φ σ H) (hS : va_S (cReg Φ) s.heap H locs)  (hl : lv_has ls 5 [(0, cv Φ (some x0)), (2, .int x2), (3, cv Φ x3)]) (h : f_X11_setPart_23  x0 x2 x3 σ = some q) : cWt p l e 7 2 12 112 s m args below meth c D Φ vlI q H locs 1 6 (F0 m 23 ls []) := by
  have hx := X.1
  have hb := X.2.1
  have hown := X.2.2.2.1
  have hts := X.2.2.2.2.1
  have h : (f_X11_setPart_24 x0 (x2) (x3) ((0:Int32)) σ) = some q := h
  refine lv_iconst (v := (0:Int32)) hx hb dX11_setPart_23 (by decide) ?_
  exact N_X11_setPart_24 X hl9 hnt hP hS (lv_sub hl [0, 1, 2] rfl) h
set_option maxRecDepth 20000 in
set_option maxHeartbeats 4000000 in
theorem K_X11_setPart (l : Launch) (hl9 : l.stackTraces = false) (D : cD) (Φ : cG) (σ : cS) (x0 : Nat) (x1 : Int32) (x2 : Int32) {q : (Nat ⊕ Int32) × cS} (h : f_X11_setPart x0 x1 x2 σ = some q) : vx_Met l yX11_setPart (Cond.code yX11_setPart cX11_setPart 5 (some .int) :: BG) (rA 7 2 12 112) (cPc D Φ σ [cv Φ (some x0), .int x1, .int x2]) (cQt vlI D Φ q) (cXC D Φ q) 2 12 (cReg Φ) := by
  refine vx_ofW (cc := cX11_setPart) (maxL := 5) (ret := (some .int)) (by decide) rfl ?_
  intro p e s m args below meth c s₁ B hml hnt hv
  obtain ⟨rfl, hP, hK, hZ⟩ := hv
  have X : cX p s m [cv Φ (some x0), .int x1, .int x2].toArray meth c cX11_setPart 5 (some .int) RX11 D Φ := cX_of B hml hK hZ
  have hx := X.1
  have hb := X.2.1
  have hown := X.2.2.2.1
  have hts := X.2.2.2.2.1
  have hl := lv_entry [cv Φ (some x0), .int x1, .int x2] (n := 5) (by simp only [lgs_r, lgs_i, lgs_l, lgs_0, List.length]; exact Nat.le_of_ble_eq_true rfl)
  rw [lg_entry_eq]
  generalize (lg_sl [cv Φ (some x0), .int x1, .int x2] ++ List.replicate (5 - (lg_sl [cv Φ (some x0), .int x1, .int x2]).length) Slot.unset).toArray = ls at hl ⊢
  simp only [lv_args_r, lv_args_i, lv_args_l, lv_args_0] at hl
  have hl : lv_has ls 5 [(0, cv Φ (some x0)), (1, .int x1), (2, .int x2)] := hl
  have hS : va_S (cReg Φ) s.heap s.heap [] := va_S.rf
  show cWt p l e 7 2 12 112 s m [cv Φ (some x0), .int x1, .int x2].toArray below meth c D Φ vlI q s.heap [] 0 0 (F0 m 0 ls [])
  have h : ((rc σ (some x0) 11).bind (fun v1 => (f_X11_elementAt v1 (x1) σ).bind (fun v2 => v2.1.elim (fun k => some (.inl k, v2.2)) (fun w3 => if x2 = ((-1):Int32) then (f_X11_setPart_23 x0 (x2) (w3) v2.2) else ((f_X11_isBelow (x2) ((4:Int32))).bind (fun v4 => if v4 = (0:Int32) then (f_X11_setPart_24 x0 (x2) (w3) ((1:Int32)) v2.2) else (f_X11_setPart_23 x0 (x2) (w3) v2.2))))))) = some q := h
  refine c_aload_n hx hb dX11_setPart_0 rfl (lv_at hl 0 rfl) ?_
  refine lv_iload_n hx hb dX11_setPart_1 rfl (lv_at hl 1 rfl) ?_
  obtain ⟨v1, hv1, h⟩ := ob h
  obtain ⟨v2, hv2, h⟩ := ob h
  refine c_ct (c_tV X (K_X11_elementAt l hl9 D Φ σ v1 (x1) hv2) hv1 ⟨Nat.le_of_ble_eq_true rfl, by decide⟩ ⟨w_735, ww_X11_elementAt⟩ rfl hy_X11_elementAt rfl ⟨(Nat.le_of_ble_eq_true rfl), (Nat.le_of_ble_eq_true rfl)⟩ hP hS hl.1 (Nat.le_of_ble_eq_true rfl) dX11_setPart_2 rfl ⟨(Nat.le_of_ble_eq_true rfl), (Nat.le_of_ble_eq_true rfl)⟩) X hnt hS ⟨(Nat.le_of_ble_eq_true rfl), (Nat.le_of_ble_eq_true rfl)⟩ (fun k e => by have h9 := el_l e h; exact (sj h9).symm) (fun w3 H locs e hP hS => ?_)
  have h := el_r e h
  refine W.eq (g2 := F0 m 5 ls [cv Φ w3]) rfl ?_
  refine c_astore_n hx hb dX11_setPart_5 rfl hl (Nat.le_of_ble_eq_true rfl) (lvKa rfl (lvKa rfl (lvKi lvK0))) rfl (fun ls (hl : lv_has ls 5 [(3, cv Φ w3), (0, cv Φ (some x0)), (1, .int x1), (2, .int x2)]) => ?_)
  refine lv_iload_n hx hb dX11_setPart_6 rfl (lv_at hl 3 rfl) ?_
  refine lv_iconst (v := ((-1):Int32)) hx hb dX11_setPart_7 (by decide) ?_
  refine lv_icmp_eq (tgt := 23) hx hb dX11_setPart_8 rfl (fun hc => ?_) (fun hc => ?_)
  · have h := ip hc h
    exact N_X11_setPart_23 X hl9 hnt hP hS (lv_sub hl [1, 3, 0] rfl) h
  · have h := ine hc h
    refine lv_iload_n hx hb dX11_setPart_11 rfl (lv_at hl 3 rfl) ?_
    refine lv_iconst (v := (4:Int32)) hx hb dX11_setPart_12 (by decide) ?_
    obtain ⟨v4, hv4, h⟩ := ob h
    refine c_cr (c_runS X (K_X11_isBelow l D Φ v2.2 (x2) ((4:Int32)) hv4) ⟨w_635, ww_X11_isBelow⟩ hy_X11_isBelow rfl ⟨(Nat.le_of_ble_eq_true rfl), (Nat.le_of_ble_eq_true rfl)⟩ hP hS hl.1 (Nat.le_of_ble_eq_true rfl) dX11_setPart_13 rfl ⟨(Nat.le_of_ble_eq_true rfl), (Nat.le_of_ble_eq_true rfl)⟩) ?_
    refine lv_if_ne (tgt := 23) hx hb dX11_setPart_16 rfl (fun hc => ?_) (fun hc => ?_)
    · have h := ine hc h
      exact N_X11_setPart_23 X hl9 hnt hP hS (lv_sub hl [1, 3, 0] rfl) h
    · have h := ip hc h
      refine lv_iconst (v := (1:Int32)) hx hb dX11_setPart_19 (by decide) ?_
      refine lv_goto (tgt := 24) hx hb dX11_setPart_20 rfl ?_
      exact N_X11_setPart_24 X hl9 hnt hP hS (lv_sub hl [1, 3, 0] rfl) h
theorem ww_X11_setPart : Cond.instanceMethod yX11_setPart ∈ BG ∧ Cond.selects (yX11_setPart).cls yX11_setPart yX11_setPart ∈ BG ∧ Cond.initialized (yX11_setPart).cls ∈ BG ∧ Cond.code yX11_setPart cX11_setPart 5 (some .int) ∈ BG := ⟨w_1223, w_1224, w_56, w_1225⟩
theorem hy_X11_setPart : (yX11_setPart).cls ≠ "java/lang/invoke/MethodHandle" ∧ (yX11_setPart).cls ≠ "java/lang/invoke/VarHandle" ∧ (parseMethodDescriptor (yX11_setPart).desc).map (fun d => d.parameters.length) = some 2 := ⟨by decide, by decide, by decide +kernel⟩
