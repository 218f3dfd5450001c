set_option maxRecDepth 100000 in
theorem w_382 : Cond.fieldLink "Cascadery$Selector" 73 "Cascadery$Compound" "hasHost" "Z" ∈ BG := bg_in 382 (by decide +kernel) (by decide +kernel)
set_option maxRecDepth 100000 in
theorem w_876 : Cond.methodLink "Cascadery$Selector" 66 yX7_feature ∈ BG := bg_in 876 (by decide +kernel) (by decide +kernel)
set_option maxRecDepth 100000 in
theorem w_378 : Cond.fieldLink "Cascadery$Selector" 43 "Cascadery$Compound" "count" "I" ∈ BG := bg_in 378 (by decide +kernel) (by decide +kernel)
set_option maxRecDepth 100000 in
theorem w_370 : Cond.fieldLink "Cascadery$Selector" 46 "Cascadery$Compound" "kinds" "[I" ∈ BG := bg_in 370 (by decide +kernel) (by decide +kernel)
set_option maxRecDepth 100000 in
theorem w_373 : Cond.fieldLink "Cascadery$Selector" 50 "Cascadery$Compound" "ones" "[I" ∈ BG := bg_in 373 (by decide +kernel) (by decide +kernel)
set_option maxRecDepth 100000 in
theorem w_376 : Cond.fieldLink "Cascadery$Selector" 53 "Cascadery$Compound" "twos" "[I" ∈ BG := bg_in 376 (by decide +kernel) (by decide +kernel)
set_option maxRecDepth 100000 in
theorem w_872 : Cond.methodLink "Cascadery$Selector" 56 yX7_addInner ∈ BG := bg_in 872 (by decide +kernel) (by decide +kernel)
set_option maxRecDepth 100000 in
theorem w_871 : Cond.code yX7_addTest cX7_addTest 5 none ∈ BG := bg_in 871 (by rfl) (by decide +kernel)
set_option maxRecDepth 100000 in
theorem w_869 : Cond.instanceMethod yX7_addTest ∈ BG := bg_in 869 (by decide +kernel) (by decide +kernel)
set_option maxRecDepth 100000 in
theorem w_870 : Cond.selects "Cascadery$Selector" yX7_addTest yX7_addTest ∈ BG := bg_in 870 (by decide +kernel) (by decide +kernel)
set_option maxRecDepth 100000 in
theorem w_95 : Cond.fieldLink "Cascadery$Style" 24 "Cascadery$Style" "isKnown" "Z" ∈ BG := bg_in 95 (by decide +kernel) (by decide +kernel)
set_option maxRecDepth 100000 in
theorem w_101 : Cond.fieldLink "Cascadery$Style" 28 "Cascadery$Style" "changes" "I" ∈ BG := bg_in 101 (by decide +kernel) (by decide +kernel)
set_option maxRecDepth 100000 in
theorem w_801 : Cond.code yX9_forget cX9_forget 2 none ∈ BG := bg_in 801 (by rfl) (by decide +kernel)
set_option maxRecDepth 100000 in
theorem w_799 : Cond.instanceMethod yX9_forget ∈ BG := bg_in 799 (by decide +kernel) (by decide +kernel)
set_option maxRecDepth 100000 in
theorem w_800 : Cond.selects "Cascadery$Style" yX9_forget yX9_forget ∈ BG := bg_in 800 (by decide +kernel) (by decide +kernel)
set_option maxRecDepth 100000 in
theorem w_179 : Cond.fieldLink "Cascadery$Style" 74 "Cascadery$Rule" "units" "[I" ∈ BG := bg_in 179 (by decide +kernel) (by decide +kernel)
set_option maxRecDepth 100000 in
theorem w_184 : Cond.fieldLink "Cascadery$Style" 77 "Cascadery$Rule" "variables" "[I" ∈ BG := bg_in 184 (by decide +kernel) (by decide +kernel)
set_option maxRecDepth 100000 in
theorem w_1020 : Cond.code yX9_isCircular cX9_isCircular 6 (some .boolean) ∈ BG := bg_in 1020 (by rfl) (by decide +kernel)
set_option maxRecDepth 100000 in
theorem w_1019 : Cond.instanceMethod yX9_isCircular ∈ BG := bg_in 1019 (by decide +kernel) (by decide +kernel)
set_option maxRecDepth 100000 in
theorem w_35 : Cond.selects "Cascadery$Style" yX9_isCircular yX9_isCircular ∈ BG := bg_in 35 (by decide +kernel) (by decide +kernel)
set_option maxRecDepth 100000 in
theorem w_107 : Cond.fieldLink "Cascadery$Style" 32 "Cascadery$Style" "above" "LCascadery$Style;" ∈ BG := bg_in 107 (by decide +kernel) (by decide +kernel)
set_option maxRecDepth 100000 in
theorem w_1021 : Cond.constant "Cascadery$Style" 69 (-1000001) ∈ BG := bg_in 1021 (by decide +kernel) (by decide +kernel)
set_option maxRecDepth 100000 in
theorem w_1027 : Cond.constant "Cascadery$Style" 83 100000 ∈ BG := bg_in 1027 (by decide +kernel) (by decide +kernel)
set_option maxRecDepth 100000 in
theorem w_182 : Cond.fieldLink "Cascadery$Style" 84 "Cascadery$Rule" "numbers" "[I" ∈ BG := bg_in 182 (by decide +kernel) (by decide +kernel)
set_option maxRecDepth 100000 in
theorem w_186 : Cond.fieldLink "Cascadery$Style" 80 "Cascadery$Rule" "secondUnits" "[I" ∈ BG := bg_in 186 (by decide +kernel) (by decide +kernel)
set_option maxRecDepth 100000 in
theorem w_1026 : Cond.code yX9_findVariable cX9_findVariable 6 (some .int) ∈ BG := bg_in 1026 (by rfl) (by decide +kernel)
set_option maxRecDepth 100000 in
theorem w_1025 : Cond.instanceMethod yX9_findVariable ∈ BG := bg_in 1025 (by decide +kernel) (by decide +kernel)
set_option maxRecDepth 100000 in
theorem w_36 : Cond.selects "Cascadery$Style" yX9_findVariable yX9_findVariable ∈ BG := bg_in 36 (by decide +kernel) (by decide +kernel)
set_option maxRecDepth 100000 in
theorem w_1022 : Cond.constant "Cascadery$Style" 70 (-1000002) ∈ BG := bg_in 1022 (by decide +kernel) (by decide +kernel)
set_option maxRecDepth 100000 in
theorem w_1023 : Cond.methodLink "Cascadery$Style" 71 yX9_findVariable ∈ BG := bg_in 1023 (by decide +kernel) (by decide +kernel)
set_option maxRecDepth 100000 in
theorem w_1017 : Cond.methodLink "Cascadery$Style" 65 yX9_isCircular ∈ BG := bg_in 1017 (by decide +kernel) (by decide +kernel)
set_option maxRecDepth 100000 in
theorem w_1016 : Cond.code yX9_findVariables cX9_findVariables 4 none ∈ BG := bg_in 1016 (by rfl) (by decide +kernel)
set_option maxRecDepth 100000 in
theorem w_1015 : Cond.instanceMethod yX9_findVariables ∈ BG := bg_in 1015 (by decide +kernel) (by decide +kernel)
set_option maxRecDepth 100000 in
theorem w_34 : Cond.selects "Cascadery$Style" yX9_findVariables yX9_findVariables ∈ BG := bg_in 34 (by decide +kernel) (by decide +kernel)
theorem cn_5 : Cond.fieldLinkNest "Cascadery$Style" 97 "Cascadery" "INITIALS" "[I" "Cascadery" ∈ cNest := List.mem_of_getElem? (i := 5) rfl
set_option maxRecDepth 100000 in
theorem w_1039 : Cond.constantLong "Cascadery$Style" 100 100 ∈ BG := bg_in 1039 (by decide +kernel) (by decide +kernel)
set_option maxRecDepth 100000 in
theorem w_1040 : Cond.constantLong "Cascadery$Style" 102 (-100000) ∈ BG := bg_in 1040 (by decide +kernel) (by decide +kernel)
set_option maxRecDepth 100000 in
theorem w_1042 : Cond.constantLong "Cascadery$Style" 105 100000 ∈ BG := bg_in 1042 (by decide +kernel) (by decide +kernel)
set_option maxRecDepth 100000 in
theorem w_1041 : Cond.constant "Cascadery$Style" 104 (-100000) ∈ BG := bg_in 1041 (by decide +kernel) (by decide +kernel)
set_option maxRecDepth 100000 in
theorem w_108 : Cond.fieldLink "Cascadery$Style" 36 "Cascadery$Style" "sizeAbove" "I" ∈ BG := bg_in 108 (by decide +kernel) (by decide +kernel)
set_option maxRecDepth 100000 in
theorem w_109 : Cond.fieldLink "Cascadery$Style" 39 "Cascadery$Style" "spanAbove" "I" ∈ BG := bg_in 109 (by decide +kernel) (by decide +kernel)
set_option maxRecDepth 100000 in
theorem w_110 : Cond.fieldLink "Cascadery$Style" 42 "Cascadery$Style" "topSize" "I" ∈ BG := bg_in 110 (by decide +kernel) (by decide +kernel)
set_option maxRecDepth 100000 in
theorem w_1036 : Cond.constant "Cascadery$Style" 96 (-1000000) ∈ BG := bg_in 1036 (by decide +kernel) (by decide +kernel)
set_option maxRecDepth 100000 in
theorem w_111 : Cond.fieldLink "Cascadery$Style" 48 "Cascadery$Style" "heldSize" "I" ∈ BG := bg_in 111 (by decide +kernel) (by decide +kernel)
set_option maxRecDepth 100000 in
theorem w_1035 : Cond.code yX9_evaluated cX9_evaluated 8 (some .int) ∈ BG := bg_in 1035 (by rfl) (by decide +kernel)
set_option maxRecDepth 100000 in
theorem w_1034 : Cond.instanceMethod yX9_evaluated ∈ BG := bg_in 1034 (by decide +kernel) (by decide +kernel)
set_option maxRecDepth 100000 in
theorem w_38 : Cond.selects "Cascadery$Style" yX9_evaluated yX9_evaluated ∈ BG := bg_in 38 (by decide +kernel) (by decide +kernel)
set_option maxRecDepth 100000 in
theorem w_1046 : Cond.code yX11_suits cX11_suits 3 (some .boolean) ∈ BG := bg_in 1046 (by rfl) (by decide +kernel)
set_option maxRecDepth 100000 in
theorem w_1045 : Cond.static yX11_suits ∈ BG := bg_in 1045 (by decide +kernel) (by decide +kernel)
set_option maxRecDepth 100000 in
theorem w_1032 : Cond.methodLink "Cascadery$Style" 87 yX9_evaluated ∈ BG := bg_in 1032 (by decide +kernel) (by decide +kernel)
theorem cn_6 : Cond.methodLinkNest "Cascadery$Style" 92 yX11_suits "Cascadery" ∈ cNest := List.mem_of_getElem? (i := 6) rfl
set_option maxRecDepth 100000 in
theorem w_1043 : Cond.constant "Cascadery$Style" 91 50000 ∈ BG := bg_in 1043 (by decide +kernel) (by decide +kernel)
set_option maxRecDepth 100000 in
theorem w_1031 : Cond.code yX9_findValue cX9_findValue 7 (some .int) ∈ BG := bg_in 1031 (by rfl) (by decide +kernel)
set_option maxRecDepth 100000 in
theorem w_1030 : Cond.instanceMethod yX9_findValue ∈ BG := bg_in 1030 (by decide +kernel) (by decide +kernel)
set_option maxRecDepth 100000 in
theorem w_37 : Cond.selects "Cascadery$Style" yX9_findValue yX9_findValue ∈ BG := bg_in 37 (by decide +kernel) (by decide +kernel)
set_option maxRecDepth 100000 in
theorem w_100 : Cond.fieldLink "Cascadery$Style" 51 "Cascadery$Style" "important" "I" ∈ BG := bg_in 100 (by decide +kernel) (by decide +kernel)
set_option maxRecDepth 100000 in
theorem w_176 : Cond.fieldLink "Cascadery$Style" 62 "Cascadery$Rule" "important" "I" ∈ BG := bg_in 176 (by decide +kernel) (by decide +kernel)
set_option maxRecDepth 100000 in
theorem w_1028 : Cond.methodLink "Cascadery$Style" 58 yX9_findValue ∈ BG := bg_in 1028 (by decide +kernel) (by decide +kernel)
set_option maxRecDepth 100000 in
theorem w_1013 : Cond.methodLink "Cascadery$Style" 54 yX9_findVariables ∈ BG := bg_in 1013 (by decide +kernel) (by decide +kernel)
set_option maxRecDepth 100000 in
theorem w_97 : Cond.fieldLink "Cascadery$Style" 45 "Cascadery$Style" "size" "I" ∈ BG := bg_in 97 (by decide +kernel) (by decide +kernel)
set_option maxRecDepth 100000 in
theorem w_1012 : Cond.code yX9_findFrom cX9_findFrom 8 none ∈ BG := bg_in 1012 (by rfl) (by decide +kernel)
set_option maxRecDepth 100000 in
theorem w_1010 : Cond.instanceMethod yX9_findFrom ∈ BG := bg_in 1010 (by decide +kernel) (by decide +kernel)
set_option maxRecDepth 100000 in
theorem w_1011 : Cond.selects "Cascadery$Style" yX9_findFrom yX9_findFrom ∈ BG := bg_in 1011 (by decide +kernel) (by decide +kernel)
set_option maxRecDepth 100000 in
theorem w_106 : Cond.fieldLink "Cascadery$Style" 111 "Cascadery$Style" "playStart" "I" ∈ BG := bg_in 106 (by decide +kernel) (by decide +kernel)
set_option maxRecDepth 100000 in
theorem w_1067 : Cond.methodLink "Cascadery$Style" 118 yX0_shownAt ∈ BG := bg_in 1067 (by decide +kernel) (by decide +kernel)
set_option maxRecDepth 100000 in
theorem w_1066 : Cond.code yX9_seenAt cX9_seenAt 5 (some .int) ∈ BG := bg_in 1066 (by rfl) (by decide +kernel)
set_option maxRecDepth 100000 in
theorem w_1064 : Cond.instanceMethod yX9_seenAt ∈ BG := bg_in 1064 (by decide +kernel) (by decide +kernel)
set_option maxRecDepth 100000 in
theorem w_1065 : Cond.selects "Cascadery$Style" yX9_seenAt yX9_seenAt ∈ BG := bg_in 1065 (by decide +kernel) (by decide +kernel)
set_option maxRecDepth 100000 in
theorem w_1063 : Cond.methodLink "Cascadery$Style" 114 yX9_seenAt ∈ BG := bg_in 1063 (by decide +kernel) (by decide +kernel)
set_option maxRecDepth 100000 in
theorem w_1062 : Cond.code yX9_turnTo cX9_turnTo 10 none ∈ BG := bg_in 1062 (by rfl) (by decide +kernel)
set_option maxRecDepth 100000 in
theorem w_1061 : Cond.instanceMethod yX9_turnTo ∈ BG := bg_in 1061 (by decide +kernel) (by decide +kernel)
set_option maxRecDepth 100000 in
theorem w_41 : Cond.selects "Cascadery$Style" yX9_turnTo yX9_turnTo ∈ BG := bg_in 41 (by decide +kernel) (by decide +kernel)
set_option maxRecDepth 100000 in
theorem w_1059 : Cond.methodLink "Cascadery$Style" 107 yX9_turnTo ∈ BG := bg_in 1059 (by decide +kernel) (by decide +kernel)
set_option maxRecDepth 100000 in
theorem w_1058 : Cond.code yX9_adopt cX9_adopt 5 none ∈ BG := bg_in 1058 (by rfl) (by decide +kernel)
set_option maxRecDepth 100000 in
theorem w_1056 : Cond.instanceMethod yX9_adopt ∈ BG := bg_in 1056 (by decide +kernel) (by decide +kernel)
set_option maxRecDepth 100000 in
theorem w_1057 : Cond.selects "Cascadery$Style" yX9_adopt yX9_adopt ∈ BG := bg_in 1057 (by decide +kernel) (by decide +kernel)
set_option maxRecDepth 100000 in
theorem w_147 : Cond.methodLink "Cascadery$Trees" 3 ⟨"java/lang/Object", "<init>", "()V"⟩ ∈ BG := bg_in 147 (by decide +kernel) (by decide +kernel)
set_option maxRecDepth 100000 in
theorem w_148 : Cond.classLink "Cascadery$Trees" 9 "Cascadery$Element" ∈ BG := bg_in 148 (by decide +kernel) (by decide +kernel)
set_option maxRecDepth 100000 in
theorem w_149 : Cond.instantiable "Cascadery$Element" 20 ∈ BG := bg_in 149 (by decide +kernel) (by decide +kernel)
set_option maxRecDepth 100000 in
theorem w_150 : Cond.methodLink "Cascadery$Trees" 11 yX3_init ∈ BG := bg_in 150 (by decide +kernel) (by decide +kernel)
set_option maxRecDepth 100000 in
theorem w_326 : Cond.fieldLink "Cascadery$Trees" 14 "Cascadery$Trees" "top" "LCascadery$Element;" ∈ BG := bg_in 326 (by decide +kernel) (by decide +kernel)
set_option maxRecDepth 100000 in
theorem w_146 : Cond.code yX10_init cX10_init 1 none ∈ BG := bg_in 146 (by rfl) (by decide +kernel)
set_option maxRecDepth 100000 in
theorem w_145 : Cond.instanceMethod yX10_init ∈ BG := bg_in 145 (by decide +kernel) (by decide +kernel)
set_option maxRecDepth 100000 in
theorem w_249 : Cond.fieldLink "Cascadery$Trees" 38 "Cascadery$Element" "isHost" "Z" ∈ BG := bg_in 249 (by decide +kernel) (by decide +kernel)
set_option maxRecDepth 100000 in
theorem w_1139 : Cond.code yX10_hasTree cX10_hasTree 3 (some .boolean) ∈ BG := bg_in 1139 (by rfl) (by decide +kernel)
set_option maxRecDepth 100000 in
theorem w_1137 : Cond.instanceMethod yX10_hasTree ∈ BG := bg_in 1137 (by decide +kernel) (by decide +kernel)
set_option maxRecDepth 100000 in
theorem w_1138 : Cond.selects "Cascadery$Trees" yX10_hasTree yX10_hasTree ∈ BG := bg_in 1138 (by decide +kernel) (by decide +kernel)
set_option maxRecDepth 100000 in
theorem w_725 : Cond.code yX10_addElement cX10_addElement 2 (some .int) ∈ BG := bg_in 725 (by rfl) (by decide +kernel)
set_option maxRecDepth 100000 in
theorem w_723 : Cond.instanceMethod yX10_addElement ∈ BG := bg_in 723 (by decide +kernel) (by decide +kernel)
set_option maxRecDepth 100000 in
theorem w_724 : Cond.selects "Cascadery$Trees" yX10_addElement yX10_addElement ∈ BG := bg_in 724 (by decide +kernel) (by decide +kernel)
set_option maxRecDepth 100000 in
theorem w_263 : Cond.fieldLink "Cascadery$Trees" 42 "Cascadery$Element" "next" "LCascadery$Element;" ∈ BG := bg_in 263 (by decide +kernel) (by decide +kernel)
set_option maxRecDepth 100000 in
theorem w_761 : Cond.code yX10_countFrom cX10_countFrom 4 (some .int) ∈ BG := bg_in 761 (by rfl) (by decide +kernel)
set_option maxRecDepth 100000 in
theorem w_759 : Cond.instanceMethod yX10_countFrom ∈ BG := bg_in 759 (by decide +kernel) (by decide +kernel)
set_option maxRecDepth 100000 in
theorem w_760 : Cond.selects "Cascadery$Trees" yX10_countFrom yX10_countFrom ∈ BG := bg_in 760 (by decide +kernel) (by decide +kernel)
set_option maxRecDepth 100000 in
theorem w_769 : Cond.methodLink "Cascadery$Trees" 45 yX3_above ∈ BG := bg_in 769 (by decide +kernel) (by decide +kernel)
set_option maxRecDepth 100000 in
theorem w_768 : Cond.code yX10_mayEnter cX10_mayEnter 4 (some .boolean) ∈ BG := bg_in 768 (by rfl) (by decide +kernel)
set_option maxRecDepth 100000 in
theorem w_766 : Cond.instanceMethod yX10_mayEnter ∈ BG := bg_in 766 (by decide +kernel) (by decide +kernel)
set_option maxRecDepth 100000 in
theorem w_767 : Cond.selects "Cascadery$Trees" yX10_mayEnter yX10_mayEnter ∈ BG := bg_in 767 (by decide +kernel) (by decide +kernel)
set_option maxRecDepth 100000 in
theorem w_252 : Cond.fieldLink "Cascadery$Trees" 55 "Cascadery$Element" "parent" "LCascadery$Element;" ∈ BG := bg_in 252 (by decide +kernel) (by decide +kernel)
set_option maxRecDepth 100000 in
theorem w_256 : Cond.fieldLink "Cascadery$Trees" 58 "Cascadery$Element" "host" "LCascadery$Element;" ∈ BG := bg_in 256 (by decide +kernel) (by decide +kernel)
set_option maxRecDepth 100000 in
theorem w_261 : Cond.fieldLink "Cascadery$Trees" 52 "Cascadery$Element" "firstTop" "LCascadery$Element;" ∈ BG := bg_in 261 (by decide +kernel) (by decide +kernel)
set_option maxRecDepth 100000 in
theorem w_259 : Cond.fieldLink "Cascadery$Trees" 49 "Cascadery$Element" "firstChild" "LCascadery$Element;" ∈ BG := bg_in 259 (by decide +kernel) (by decide +kernel)
set_option maxRecDepth 100000 in
theorem w_264 : Cond.fieldLink "Cascadery$Trees" 68 "Cascadery$Element" "previous" "LCascadery$Element;" ∈ BG := bg_in 264 (by decide +kernel) (by decide +kernel)
set_option maxRecDepth 100000 in
theorem w_780 : Cond.code yX10_link cX10_link 4 none ∈ BG := bg_in 780 (by rfl) (by decide +kernel)
set_option maxRecDepth 100000 in
theorem w_779 : Cond.instanceMethod yX10_link ∈ BG := bg_in 779 (by decide +kernel) (by decide +kernel)
set_option maxRecDepth 100000 in
theorem w_2 : Cond.selects "Cascadery$Trees" yX10_link yX10_link ∈ BG := bg_in 2 (by decide +kernel) (by decide +kernel)
set_option maxRecDepth 100000 in
theorem w_793 : Cond.code yX10_placeBehind cX10_placeBehind 4 (some .int) ∈ BG := bg_in 793 (by rfl) (by decide +kernel)
set_option maxRecDepth 100000 in
theorem w_792 : Cond.instanceMethod yX10_placeBehind ∈ BG := bg_in 792 (by decide +kernel) (by decide +kernel)
set_option maxRecDepth 100000 in
theorem w_4 : Cond.selects "Cascadery$Trees" yX10_placeBehind yX10_placeBehind ∈ BG := bg_in 4 (by decide +kernel) (by decide +kernel)
set_option maxRecDepth 100000 in
theorem w_797 : Cond.code yX10_topOf cX10_topOf 4 (some (.object "Cascadery$Element")) ∈ BG := bg_in 797 (by rfl) (by decide +kernel)
set_option maxRecDepth 100000 in
theorem w_796 : Cond.instanceMethod yX10_topOf ∈ BG := bg_in 796 (by decide +kernel) (by decide +kernel)
set_option maxRecDepth 100000 in
theorem w_5 : Cond.selects "Cascadery$Trees" yX10_topOf yX10_topOf ∈ BG := bg_in 5 (by decide +kernel) (by decide +kernel)
set_option maxRecDepth 100000 in
theorem w_279 : Cond.fieldLink "Cascadery$Trees" 104 "Cascadery$Element" "own" "LCascadery$Rule;" ∈ BG := bg_in 279 (by decide +kernel) (by decide +kernel)
set_option maxRecDepth 100000 in
theorem w_188 : Cond.fieldLink "Cascadery$Trees" 108 "Cascadery$Rule" "depth" "I" ∈ BG := bg_in 188 (by decide +kernel) (by decide +kernel)
set_option maxRecDepth 100000 in
theorem w_282 : Cond.fieldLink "Cascadery$Trees" 113 "Cascadery$Element" "kept" "LCascadery$Style;" ∈ BG := bg_in 282 (by decide +kernel) (by decide +kernel)
set_option maxRecDepth 100000 in
theorem w_798 : Cond.methodLink "Cascadery$Trees" 117 yX9_forget ∈ BG := bg_in 798 (by decide +kernel) (by decide +kernel)
set_option maxRecDepth 100000 in
theorem w_794 : Cond.methodLink "Cascadery$Trees" 98 yX10_topOf ∈ BG := bg_in 794 (by decide +kernel) (by decide +kernel)
set_option maxRecDepth 100000 in
theorem w_269 : Cond.fieldLink "Cascadery$Trees" 95 "Cascadery$Element" "place" "I" ∈ BG := bg_in 269 (by decide +kernel) (by decide +kernel)
set_option maxRecDepth 100000 in
theorem w_790 : Cond.methodLink "Cascadery$Trees" 91 yX10_placeBehind ∈ BG := bg_in 790 (by decide +kernel) (by decide +kernel)
set_option maxRecDepth 100000 in
theorem w_789 : Cond.code yX10_settle cX10_settle 5 none ∈ BG := bg_in 789 (by rfl) (by decide +kernel)
set_option maxRecDepth 100000 in
theorem w_788 : Cond.instanceMethod yX10_settle ∈ BG := bg_in 788 (by decide +kernel) (by decide +kernel)
set_option maxRecDepth 100000 in
theorem w_3 : Cond.selects "Cascadery$Trees" yX10_settle yX10_settle ∈ BG := bg_in 3 (by decide +kernel) (by decide +kernel)
set_option maxRecDepth 100000 in
theorem w_809 : Cond.code yX10_nextInTree cX10_nextInTree 3 (some (.object "Cascadery$Element")) ∈ BG := bg_in 809 (by rfl) (by decide +kernel)
set_option maxRecDepth 100000 in
theorem w_808 : Cond.instanceMethod yX10_nextInTree ∈ BG := bg_in 808 (by decide +kernel) (by decide +kernel)
set_option maxRecDepth 100000 in
theorem w_7 : Cond.selects "Cascadery$Trees" yX10_nextInTree yX10_nextInTree ∈ BG := bg_in 7 (by decide +kernel) (by decide +kernel)
set_option maxRecDepth 100000 in
theorem w_806 : Cond.methodLink "Cascadery$Trees" 128 yX10_nextInTree ∈ BG := bg_in 806 (by decide +kernel) (by decide +kernel)
set_option maxRecDepth 100000 in
theorem w_231 : Cond.fieldLink "Cascadery$Trees" 122 "Cascadery$Element" "kind" "I" ∈ BG := bg_in 231 (by decide +kernel) (by decide +kernel)
set_option maxRecDepth 100000 in
theorem w_243 : Cond.fieldLink "Cascadery$Trees" 125 "Cascadery$Element" "attribute1" "I" ∈ BG := bg_in 243 (by decide +kernel) (by decide +kernel)
set_option maxRecDepth 100000 in
theorem w_805 : Cond.code yX10_findShownParent cX10_findShownParent 3 (some (.object "Cascadery$Element")) ∈ BG := bg_in 805 (by rfl) (by decide +kernel)
set_option maxRecDepth 100000 in
theorem w_804 : Cond.instanceMethod yX10_findShownParent ∈ BG := bg_in 804 (by decide +kernel) (by decide +kernel)
set_option maxRecDepth 100000 in
theorem w_6 : Cond.selects "Cascadery$Trees" yX10_findShownParent yX10_findShownParent ∈ BG := bg_in 6 (by decide +kernel) (by decide +kernel)
set_option maxRecDepth 100000 in
theorem w_274 : Cond.fieldLink "Cascadery$Trees" 82 "Cascadery$Element" "shownParent" "LCascadery$Element;" ∈ BG := bg_in 274 (by decide +kernel) (by decide +kernel)
set_option maxRecDepth 100000 in
theorem w_275 : Cond.fieldLink "Cascadery$Trees" 85 "Cascadery$Element" "after" "LCascadery$Element;" ∈ BG := bg_in 275 (by decide +kernel) (by decide +kernel)
set_option maxRecDepth 100000 in
theorem w_817 : Cond.code yX10_lineUpShown cX10_lineUpShown 6 (some (.object "Cascadery$Element")) ∈ BG := bg_in 817 (by rfl) (by decide +kernel)
set_option maxRecDepth 100000 in
theorem w_816 : Cond.instanceMethod yX10_lineUpShown ∈ BG := bg_in 816 (by decide +kernel) (by decide +kernel)
set_option maxRecDepth 100000 in
theorem w_9 : Cond.selects "Cascadery$Trees" yX10_lineUpShown yX10_lineUpShown ∈ BG := bg_in 9 (by decide +kernel) (by decide +kernel)
set_option maxRecDepth 100000 in
theorem w_814 : Cond.methodLink "Cascadery$Trees" 131 yX10_lineUpShown ∈ BG := bg_in 814 (by decide +kernel) (by decide +kernel)
set_option maxRecDepth 100000 in
theorem w_813 : Cond.code yX10_lineUp cX10_lineUp 3 none ∈ BG := bg_in 813 (by rfl) (by decide +kernel)
set_option maxRecDepth 100000 in
theorem w_812 : Cond.instanceMethod yX10_lineUp ∈ BG := bg_in 812 (by decide +kernel) (by decide +kernel)
set_option maxRecDepth 100000 in
theorem w_8 : Cond.selects "Cascadery$Trees" yX10_lineUp yX10_lineUp ∈ BG := bg_in 8 (by decide +kernel) (by decide +kernel)
set_option maxRecDepth 100000 in
theorem w_810 : Cond.methodLink "Cascadery$Trees" 88 yX10_lineUp ∈ BG := bg_in 810 (by decide +kernel) (by decide +kernel)
set_option maxRecDepth 100000 in
theorem w_802 : Cond.methodLink "Cascadery$Trees" 78 yX10_findShownParent ∈ BG := bg_in 802 (by decide +kernel) (by decide +kernel)
set_option maxRecDepth 100000 in
theorem w_786 : Cond.methodLink "Cascadery$Trees" 74 yX10_settle ∈ BG := bg_in 786 (by decide +kernel) (by decide +kernel)
set_option maxRecDepth 100000 in
theorem w_335 : Cond.fieldLink "Cascadery$Trees" 71 "Cascadery$Trees" "version" "I" ∈ BG := bg_in 335 (by decide +kernel) (by decide +kernel)
set_option maxRecDepth 100000 in
theorem w_784 : Cond.code yX10_layOut cX10_layOut 3 none ∈ BG := bg_in 784 (by rfl) (by decide +kernel)
set_option maxRecDepth 100000 in
theorem w_782 : Cond.instanceMethod yX10_layOut ∈ BG := bg_in 782 (by decide +kernel) (by decide +kernel)
set_option maxRecDepth 100000 in
theorem w_783 : Cond.selects "Cascadery$Trees" yX10_layOut yX10_layOut ∈ BG := bg_in 783 (by decide +kernel) (by decide +kernel)
set_option maxRecDepth 100000 in
theorem w_777 : Cond.methodLink "Cascadery$Trees" 61 yX10_link ∈ BG := bg_in 777 (by decide +kernel) (by decide +kernel)
set_option maxRecDepth 100000 in
theorem w_781 : Cond.methodLink "Cascadery$Trees" 65 yX10_layOut ∈ BG := bg_in 781 (by decide +kernel) (by decide +kernel)
set_option maxRecDepth 100000 in
theorem w_776 : Cond.code yX10_insert cX10_insert 8 none ∈ BG := bg_in 776 (by rfl) (by decide +kernel)
set_option maxRecDepth 100000 in
theorem w_774 : Cond.instanceMethod yX10_insert ∈ BG := bg_in 774 (by decide +kernel) (by decide +kernel)
set_option maxRecDepth 100000 in
theorem w_775 : Cond.selects "Cascadery$Trees" yX10_insert yX10_insert ∈ BG := bg_in 775 (by decide +kernel) (by decide +kernel)
set_option maxRecDepth 100000 in
theorem w_848 : Cond.code yX10_remove cX10_remove 2 none ∈ BG := bg_in 848 (by rfl) (by decide +kernel)
set_option maxRecDepth 100000 in
theorem w_846 : Cond.instanceMethod yX10_remove ∈ BG := bg_in 846 (by decide +kernel) (by decide +kernel)
set_option maxRecDepth 100000 in
theorem w_847 : Cond.selects "Cascadery$Trees" yX10_remove yX10_remove ∈ BG := bg_in 847 (by decide +kernel) (by decide +kernel)
set_option maxRecDepth 100000 in
theorem w_825 : Cond.code yX10_below cX10_below 5 (some .int) ∈ BG := bg_in 825 (by rfl) (by decide +kernel)
set_option maxRecDepth 100000 in
theorem w_823 : Cond.instanceMethod yX10_below ∈ BG := bg_in 823 (by decide +kernel) (by decide +kernel)
set_option maxRecDepth 100000 in
theorem w_824 : Cond.selects "Cascadery$Trees" yX10_below yX10_below ∈ BG := bg_in 824 (by decide +kernel) (by decide +kernel)
set_option maxRecDepth 100000 in
theorem w_1105 : Cond.code yX10_around cX10_around 5 (some .int) ∈ BG := bg_in 1105 (by rfl) (by decide +kernel)
set_option maxRecDepth 100000 in
theorem w_1103 : Cond.instanceMethod yX10_around ∈ BG := bg_in 1103 (by decide +kernel) (by decide +kernel)
set_option maxRecDepth 100000 in
theorem w_1104 : Cond.selects "Cascadery$Trees" yX10_around yX10_around ∈ BG := bg_in 1104 (by decide +kernel) (by decide +kernel)
set_option maxRecDepth 100000 in
theorem w_581 : Cond.fieldLink "Cascadery" 365 "Cascadery" "marks" "I" ∈ BG := bg_in 581 (by decide +kernel) (by decide +kernel)
set_option maxRecDepth 100000 in
theorem w_571 : Cond.fieldLink "Cascadery" 48 "Cascadery" "trees" "LCascadery$Trees;" ∈ BG := bg_in 571 (by decide +kernel) (by decide +kernel)
set_option maxRecDepth 100000 in
theorem w_332 : Cond.fieldLink "Cascadery" 368 "Cascadery$Trees" "inDocument" "I" ∈ BG := bg_in 332 (by decide +kernel) (by decide +kernel)
set_option maxRecDepth 100000 in
theorem w_829 : Cond.code yX11_mark cX11_mark 2 none ∈ BG := bg_in 829 (by rfl) (by decide +kernel)
set_option maxRecDepth 100000 in
theorem w_828 : Cond.instanceMethod yX11_mark ∈ BG := bg_in 828 (by decide +kernel) (by decide +kernel)
set_option maxRecDepth 100000 in
theorem w_11 : Cond.selects "Cascadery" yX11_mark yX11_mark ∈ BG := bg_in 11 (by decide +kernel) (by decide +kernel)
set_option maxRecDepth 100000 in
theorem w_826 : Cond.methodLink "Cascadery" 180 yX11_mark ∈ BG := bg_in 826 (by decide +kernel) (by decide +kernel)
set_option maxRecDepth 100000 in
theorem w_833 : Cond.code yX11_markAll cX11_markAll 1 none ∈ BG := bg_in 833 (by rfl) (by decide +kernel)
set_option maxRecDepth 100000 in
theorem w_832 : Cond.instanceMethod yX11_markAll ∈ BG := bg_in 832 (by decide +kernel) (by decide +kernel)
set_option maxRecDepth 100000 in
theorem w_12 : Cond.selects "Cascadery" yX11_markAll yX11_markAll ∈ BG := bg_in 12 (by decide +kernel) (by decide +kernel)
theorem dX7_addTest_0 : decode cX7_addTest 0 = .ok (.aload_n 0, 1) := by decide +kernel
theorem dX7_addTest_1 : decode cX7_addTest 1 = .ok (.getfield 20, 3) := by decide +kernel
theorem dX7_addTest_4 : decode cX7_addTest 4 = .ok (.getfield 43, 3) := by decide +kernel
theorem dX7_addTest_7 : decode cX7_addTest 7 = .ok (.iconst 4, 1) := by decide +kernel
theorem dX7_addTest_8 : decode cX7_addTest 8 = .ok (.if_icmp .lt 4, 3) := by decide +kernel
theorem dX7_addTest_11 : decode cX7_addTest 11 = .ok (.return_, 1) := by decide +kernel
theorem dX7_addTest_12 : decode cX7_addTest 12 = .ok (.aload_n 0, 1) := by decide +kernel
theorem dX7_addTest_13 : decode cX7_addTest 13 = .ok (.getfield 20, 3) := by decide +kernel
theorem dX7_addTest_16 : decode cX7_addTest 16 = .ok (.getfield 46, 3) := by decide +kernel
theorem dX7_addTest_19 : decode cX7_addTest 19 = .ok (.aload_n 0, 1) := by decide +kernel
theorem dX7_addTest_20 : decode cX7_addTest 20 = .ok (.getfield 20, 3) := by decide +kernel
theorem dX7_addTest_23 : decode cX7_addTest 23 = .ok (.getfield 43, 3) := by decide +kernel
theorem dX7_addTest_26 : decode cX7_addTest 26 = .ok (.iload_n 1, 1) := by decide +kernel
theorem dX7_addTest_27 : decode cX7_addTest 27 = .ok (.iastore, 1) := by decide +kernel
theorem dX7_addTest_28 : decode cX7_addTest 28 = .ok (.aload_n 0, 1) := by decide +kernel
theorem dX7_addTest_29 : decode cX7_addTest 29 = .ok (.getfield 20, 3) := by decide +kernel
theorem dX7_addTest_32 : decode cX7_addTest 32 = .ok (.getfield 50, 3) := by decide +kernel
theorem dX7_addTest_35 : decode cX7_addTest 35 = .ok (.aload_n 0, 1) := by decide +kernel
theorem dX7_addTest_36 : decode cX7_addTest 36 = .ok (.getfield 20, 3) := by decide +kernel
theorem dX7_addTest_39 : decode cX7_addTest 39 = .ok (.getfield 43, 3) := by decide +kernel
theorem dX7_addTest_42 : decode cX7_addTest 42 = .ok (.iload_n 2, 1) := by decide +kernel
theorem dX7_addTest_43 : decode cX7_addTest 43 = .ok (.iastore, 1) := by decide +kernel
theorem dX7_addTest_44 : decode cX7_addTest 44 = .ok (.aload_n 0, 1) := by decide +kernel
theorem dX7_addTest_45 : decode cX7_addTest 45 = .ok (.getfield 20, 3) := by decide +kernel
theorem dX7_addTest_48 : decode cX7_addTest 48 = .ok (.getfield 53, 3) := by decide +kernel
theorem dX7_addTest_51 : decode cX7_addTest 51 = .ok (.aload_n 0, 1) := by decide +kernel
theorem dX7_addTest_52 : decode cX7_addTest 52 = .ok (.getfield 20, 3) := by decide +kernel
theorem dX7_addTest_55 : decode cX7_addTest 55 = .ok (.getfield 43, 3) := by decide +kernel
theorem dX7_addTest_58 : decode cX7_addTest 58 = .ok (.iload_n 3, 1) := by decide +kernel
theorem dX7_addTest_59 : decode cX7_addTest 59 = .ok (.iastore, 1) := by decide +kernel
theorem dX7_addTest_60 : decode cX7_addTest 60 = .ok (.aload_n 0, 1) := by decide +kernel
theorem dX7_addTest_61 : decode cX7_addTest 61 = .ok (.getfield 20, 3) := by decide +kernel
theorem dX7_addTest_64 : decode cX7_addTest 64 = .ok (.dup, 1) := by decide +kernel
theorem dX7_addTest_65 : decode cX7_addTest 65 = .ok (.getfield 43, 3) := by decide +kernel
theorem dX7_addTest_68 : decode cX7_addTest 68 = .ok (.iconst 1, 1) := by decide +kernel
theorem dX7_addTest_69 : decode cX7_addTest 69 = .ok (.iadd, 1) := by decide +kernel
theorem dX7_addTest_70 : decode cX7_addTest 70 = .ok (.putfield 43, 3) := by decide +kernel
theorem dX7_addTest_73 : decode cX7_addTest 73 = .ok (.aload 4, 2) := by decide +kernel
theorem dX7_addTest_75 : decode cX7_addTest 75 = .ok (.ifnull 11, 3) := by decide +kernel
theorem dX7_addTest_78 : decode cX7_addTest 78 = .ok (.aload_n 0, 1) := by decide +kernel
theorem dX7_addTest_79 : decode cX7_addTest 79 = .ok (.iload_n 1, 1) := by decide +kernel
theorem dX7_addTest_80 : decode cX7_addTest 80 = .ok (.aload 4, 2) := by decide +kernel
theorem dX7_addTest_82 : decode cX7_addTest 82 = .ok (.invokevirtual 56, 3) := by decide +kernel
theorem dX7_addTest_85 : decode cX7_addTest 85 = .ok (.return_, 1) := by decide +kernel
theorem dX7_addTest_86 : decode cX7_addTest 86 = .ok (.aload_n 0, 1) := by decide +kernel
theorem dX7_addTest_87 : decode cX7_addTest 87 = .ok (.dup, 1) := by decide +kernel
theorem dX7_addTest_88 : decode cX7_addTest 88 = .ok (.getfield 60, 3) := by decide +kernel
theorem dX7_addTest_91 : decode cX7_addTest 91 = .ok (.iload_n 1, 1) := by decide +kernel
theorem dX7_addTest_92 : decode cX7_addTest 92 = .ok (.ifCond .eq 9, 3) := by decide +kernel
theorem dX7_addTest_95 : decode cX7_addTest 95 = .ok (.iload_n 1, 1) := by decide +kernel
theorem dX7_addTest_96 : decode cX7_addTest 96 = .ok (.bipush 9, 2) := by decide +kernel
theorem dX7_addTest_98 : decode cX7_addTest 98 = .ok (.if_icmp .ne 7, 3) := by decide +kernel
theorem dX7_addTest_101 : decode cX7_addTest 101 = .ok (.iconst 1, 1) := by decide +kernel
theorem dX7_addTest_102 : decode cX7_addTest 102 = .ok (.goto 5, 3) := by decide +kernel
theorem dX7_addTest_105 : decode cX7_addTest 105 = .ok (.bipush 100, 2) := by decide +kernel
theorem dX7_addTest_107 : decode cX7_addTest 107 = .ok (.iadd, 1) := by decide +kernel
theorem dX7_addTest_108 : decode cX7_addTest 108 = .ok (.putfield 60, 3) := by decide +kernel
theorem dX7_addTest_111 : decode cX7_addTest 111 = .ok (.aload_n 0, 1) := by decide +kernel
theorem dX7_addTest_112 : decode cX7_addTest 112 = .ok (.getfield 20, 3) := by decide +kernel
theorem dX7_addTest_115 : decode cX7_addTest 115 = .ok (.dup, 1) := by decide +kernel
theorem dX7_addTest_116 : decode cX7_addTest 116 = .ok (.getfield 63, 3) := by decide +kernel
theorem dX7_addTest_119 : decode cX7_addTest 119 = .ok (.iload_n 1, 1) := by decide +kernel
theorem dX7_addTest_120 : decode cX7_addTest 120 = .ok (.iload_n 2, 1) := by decide +kernel
theorem dX7_addTest_121 : decode cX7_addTest 121 = .ok (.invokestatic 66, 3) := by decide +kernel
theorem dX7_addTest_124 : decode cX7_addTest 124 = .ok (.ior, 1) := by decide +kernel
theorem dX7_addTest_125 : decode cX7_addTest 125 = .ok (.putfield 63, 3) := by decide +kernel
theorem dX7_addTest_128 : decode cX7_addTest 128 = .ok (.aload_n 0, 1) := by decide +kernel
theorem dX7_addTest_129 : decode cX7_addTest 129 = .ok (.getfield 20, 3) := by decide +kernel
theorem dX7_addTest_132 : decode cX7_addTest 132 = .ok (.dup, 1) := by decide +kernel
theorem dX7_addTest_133 : decode cX7_addTest 133 = .ok (.getfield 70, 3) := by decide +kernel
theorem dX7_addTest_136 : decode cX7_addTest 136 = .ok (.iload_n 1, 1) := by decide +kernel
theorem dX7_addTest_137 : decode cX7_addTest 137 = .ok (.iload_n 2, 1) := by decide +kernel
theorem dX7_addTest_138 : decode cX7_addTest 138 = .ok (.invokestatic 66, 3) := by decide +kernel
theorem dX7_addTest_141 : decode cX7_addTest 141 = .ok (.ior, 1) := by decide +kernel
theorem dX7_addTest_142 : decode cX7_addTest 142 = .ok (.putfield 70, 3) := by decide +kernel
theorem dX7_addTest_145 : decode cX7_addTest 145 = .ok (.aload_n 0, 1) := by decide +kernel
theorem dX7_addTest_146 : decode cX7_addTest 146 = .ok (.dup, 1) := by decide +kernel
theorem dX7_addTest_147 : decode cX7_addTest 147 = .ok (.getfield 40, 3) := by decide +kernel
theorem dX7_addTest_150 : decode cX7_addTest 150 = .ok (.iload_n 1, 1) := by decide +kernel
theorem dX7_addTest_151 : decode cX7_addTest 151 = .ok (.iconst 4, 1) := by decide +kernel
theorem dX7_addTest_152 : decode cX7_addTest 152 = .ok (.if_icmp .ne 7, 3) := by decide +kernel
theorem dX7_addTest_155 : decode cX7_addTest 155 = .ok (.iconst 1, 1) := by decide +kernel
theorem dX7_addTest_156 : decode cX7_addTest 156 = .ok (.goto 4, 3) := by decide +kernel
theorem dX7_addTest_159 : decode cX7_addTest 159 = .ok (.iconst 0, 1) := by decide +kernel
theorem dX7_addTest_160 : decode cX7_addTest 160 = .ok (.ior, 1) := by decide +kernel
theorem dX7_addTest_161 : decode cX7_addTest 161 = .ok (.putfield 40, 3) := by decide +kernel
theorem dX7_addTest_164 : decode cX7_addTest 164 = .ok (.iload_n 1, 1) := by decide +kernel
theorem dX7_addTest_165 : decode cX7_addTest 165 = .ok (.bipush 8, 2) := by decide +kernel
theorem dX7_addTest_167 : decode cX7_addTest 167 = .ok (.if_icmp .ne 16, 3) := by decide +kernel
theorem dX7_addTest_170 : decode cX7_addTest 170 = .ok (.aload_n 0, 1) := by decide +kernel
theorem dX7_addTest_171 : decode cX7_addTest 171 = .ok (.getfield 20, 3) := by decide +kernel
theorem dX7_addTest_174 : decode cX7_addTest 174 = .ok (.iconst 1, 1) := by decide +kernel
theorem dX7_addTest_175 : decode cX7_addTest 175 = .ok (.putfield 73, 3) := by decide +kernel
theorem dX7_addTest_178 : decode cX7_addTest 178 = .ok (.aload_n 0, 1) := by decide +kernel
theorem dX7_addTest_179 : decode cX7_addTest 179 = .ok (.iconst 1, 1) := by decide +kernel
theorem dX7_addTest_180 : decode cX7_addTest 180 = .ok (.putfield 33, 3) := by decide +kernel
theorem dX7_addTest_183 : decode cX7_addTest 183 = .ok (.iload_n 1, 1) := by decide +kernel
theorem dX7_addTest_184 : decode cX7_addTest 184 = .ok (.bipush 9, 2) := by decide +kernel
theorem dX7_addTest_186 : decode cX7_addTest 186 = .ok (.if_icmp .ne 8, 3) := by decide +kernel
theorem dX7_addTest_189 : decode cX7_addTest 189 = .ok (.aload_n 0, 1) := by decide +kernel
theorem dX7_addTest_190 : decode cX7_addTest 190 = .ok (.iload_n 2, 1) := by decide +kernel
theorem dX7_addTest_191 : decode cX7_addTest 191 = .ok (.putfield 30, 3) := by decide +kernel
theorem dX7_addTest_194 : decode cX7_addTest 194 = .ok (.return_, 1) := by decide +kernel
theorem dX9_forget_0 : decode cX9_forget 0 = .ok (.aload_n 0, 1) := by decide +kernel
theorem dX9_forget_1 : decode cX9_forget 1 = .ok (.iconst 0, 1) := by decide +kernel
theorem dX9_forget_2 : decode cX9_forget 2 = .ok (.putfield 24, 3) := by decide +kernel
theorem dX9_forget_5 : decode cX9_forget 5 = .ok (.aload_n 0, 1) := by decide +kernel
theorem dX9_forget_6 : decode cX9_forget 6 = .ok (.iconst 0, 1) := by decide +kernel
theorem dX9_forget_7 : decode cX9_forget 7 = .ok (.putfield 28, 3) := by decide +kernel
theorem dX9_forget_10 : decode cX9_forget 10 = .ok (.iconst 0, 1) := by decide +kernel
theorem dX9_forget_11 : decode cX9_forget 11 = .ok (.istore_n 1, 1) := by decide +kernel
theorem dX9_forget_12 : decode cX9_forget 12 = .ok (.iload_n 1, 1) := by decide +kernel
theorem dX9_forget_13 : decode cX9_forget 13 = .ok (.iconst 5, 1) := by decide +kernel
theorem dX9_forget_14 : decode cX9_forget 14 = .ok (.if_icmp .ge 16, 3) := by decide +kernel
theorem dX9_forget_17 : decode cX9_forget 17 = .ok (.aload_n 0, 1) := by decide +kernel
theorem dX9_forget_18 : decode cX9_forget 18 = .ok (.getfield 21, 3) := by decide +kernel
theorem dX9_forget_21 : decode cX9_forget 21 = .ok (.iload_n 1, 1) := by decide +kernel
theorem dX9_forget_22 : decode cX9_forget 22 = .ok (.iconst 0, 1) := by decide +kernel
theorem dX9_forget_23 : decode cX9_forget 23 = .ok (.iastore, 1) := by decide +kernel
theorem dX9_forget_24 : decode cX9_forget 24 = .ok (.iinc 1 1, 3) := by decide +kernel
theorem dX9_forget_27 : decode cX9_forget 27 = .ok (.goto (-15), 3) := by decide +kernel
theorem dX9_forget_30 : decode cX9_forget 30 = .ok (.return_, 1) := by decide +kernel
theorem dX9_isCircular_0 : decode cX9_isCircular 0 = .ok (.iload_n 1, 1) := by decide +kernel
theorem dX9_isCircular_1 : decode cX9_isCircular 1 = .ok (.istore_n 3, 1) := by decide +kernel
theorem dX9_isCircular_2 : decode cX9_isCircular 2 = .ok (.bipush 12, 2) := by decide +kernel
theorem dX9_isCircular_4 : decode cX9_isCircular 4 = .ok (.istore 4, 2) := by decide +kernel
theorem dX9_isCircular_6 : decode cX9_isCircular 6 = .ok (.iload 4, 2) := by decide +kernel
theorem dX9_isCircular_8 : decode cX9_isCircular 8 = .ok (.bipush 15, 2) := by decide +kernel
theorem dX9_isCircular_10 : decode cX9_isCircular 10 = .ok (.if_icmp .ge 62, 3) := by decide +kernel
theorem dX9_isCircular_13 : decode cX9_isCircular 13 = .ok (.aload_n 2, 1) := by decide +kernel
theorem dX9_isCircular_14 : decode cX9_isCircular 14 = .ok (.iload_n 3, 1) := by decide +kernel
theorem dX9_isCircular_15 : decode cX9_isCircular 15 = .ok (.aaload, 1) := by decide +kernel
theorem dX9_isCircular_16 : decode cX9_isCircular 16 = .ok (.astore 5, 2) := by decide +kernel
theorem dX9_isCircular_18 : decode cX9_isCircular 18 = .ok (.aload 5, 2) := by decide +kernel
theorem dX9_isCircular_20 : decode cX9_isCircular 20 = .ok (.ifnull 15, 3) := by decide +kernel
theorem dX9_isCircular_23 : decode cX9_isCircular 23 = .ok (.aload 5, 2) := by decide +kernel
theorem dX9_isCircular_25 : decode cX9_isCircular 25 = .ok (.getfield 74, 3) := by decide +kernel
theorem dX9_isCircular_28 : decode cX9_isCircular 28 = .ok (.iload_n 3, 1) := by decide +kernel
theorem dX9_isCircular_29 : decode cX9_isCircular 29 = .ok (.iaload, 1) := by decide +kernel
theorem dX9_isCircular_30 : decode cX9_isCircular 30 = .ok (.bipush 11, 2) := by decide +kernel
theorem dX9_isCircular_32 : decode cX9_isCircular 32 = .ok (.if_icmp .eq 5, 3) := by decide +kernel
theorem dX9_isCircular_35 : decode cX9_isCircular 35 = .ok (.iconst 0, 1) := by decide +kernel
theorem dX9_isCircular_36 : decode cX9_isCircular 36 = .ok (.ireturn, 1) := by decide +kernel
theorem dX9_isCircular_37 : decode cX9_isCircular 37 = .ok (.aload 5, 2) := by decide +kernel
theorem dX9_isCircular_39 : decode cX9_isCircular 39 = .ok (.getfield 77, 3) := by decide +kernel
theorem dX9_isCircular_42 : decode cX9_isCircular 42 = .ok (.iload_n 3, 1) := by decide +kernel
theorem dX9_isCircular_43 : decode cX9_isCircular 43 = .ok (.iaload, 1) := by decide +kernel
theorem dX9_isCircular_44 : decode cX9_isCircular 44 = .ok (.istore_n 3, 1) := by decide +kernel
theorem dX9_isCircular_45 : decode cX9_isCircular 45 = .ok (.iload_n 3, 1) := by decide +kernel
theorem dX9_isCircular_46 : decode cX9_isCircular 46 = .ok (.iload_n 1, 1) := by decide +kernel
theorem dX9_isCircular_47 : decode cX9_isCircular 47 = .ok (.if_icmp .ne 5, 3) := by decide +kernel
theorem dX9_isCircular_50 : decode cX9_isCircular 50 = .ok (.iconst 1, 1) := by decide +kernel
theorem dX9_isCircular_51 : decode cX9_isCircular 51 = .ok (.ireturn, 1) := by decide +kernel
theorem dX9_isCircular_52 : decode cX9_isCircular 52 = .ok (.iload_n 3, 1) := by decide +kernel
theorem dX9_isCircular_53 : decode cX9_isCircular 53 = .ok (.bipush 12, 2) := by decide +kernel
theorem dX9_isCircular_55 : decode cX9_isCircular 55 = .ok (.if_icmp .lt 9, 3) := by decide +kernel
theorem dX9_isCircular_58 : decode cX9_isCircular 58 = .ok (.iload_n 3, 1) := by decide +kernel
theorem dX9_isCircular_59 : decode cX9_isCircular 59 = .ok (.bipush 15, 2) := by decide +kernel
theorem dX9_isCircular_61 : decode cX9_isCircular 61 = .ok (.if_icmp .lt 5, 3) := by decide +kernel
theorem dX9_isCircular_64 : decode cX9_isCircular 64 = .ok (.iconst 0, 1) := by decide +kernel
theorem dX9_isCircular_65 : decode cX9_isCircular 65 = .ok (.ireturn, 1) := by decide +kernel
theorem dX9_isCircular_66 : decode cX9_isCircular 66 = .ok (.iinc 4 1, 3) := by decide +kernel
theorem dX9_isCircular_69 : decode cX9_isCircular 69 = .ok (.goto (-63), 3) := by decide +kernel
theorem dX9_isCircular_72 : decode cX9_isCircular 72 = .ok (.iconst 0, 1) := by decide +kernel
theorem dX9_isCircular_73 : decode cX9_isCircular 73 = .ok (.ireturn, 1) := by decide +kernel
theorem dX9_findVariable_0 : decode cX9_findVariable 0 = .ok (.aload_n 2, 1) := by decide +kernel
theorem dX9_findVariable_1 : decode cX9_findVariable 1 = .ok (.ifnonnull 8, 3) := by decide +kernel
theorem dX9_findVariable_4 : decode cX9_findVariable 4 = .ok (.bipush 9, 2) := by decide +kernel
theorem dX9_findVariable_6 : decode cX9_findVariable 6 = .ok (.goto 9, 3) := by decide +kernel
theorem dX9_findVariable_9 : decode cX9_findVariable 9 = .ok (.aload_n 2, 1) := by decide +kernel
theorem dX9_findVariable_10 : decode cX9_findVariable 10 = .ok (.getfield 74, 3) := by decide +kernel
theorem dX9_findVariable_13 : decode cX9_findVariable 13 = .ok (.iload_n 1, 1) := by decide +kernel
theorem dX9_findVariable_14 : decode cX9_findVariable 14 = .ok (.iaload, 1) := by decide +kernel
theorem dX9_findVariable_15 : decode cX9_findVariable 15 = .ok (.istore_n 3, 1) := by decide +kernel
theorem dX9_findVariable_16 : decode cX9_findVariable 16 = .ok (.iload_n 3, 1) := by decide +kernel
theorem dX9_findVariable_17 : decode cX9_findVariable 17 = .ok (.bipush 7, 2) := by decide +kernel
theorem dX9_findVariable_19 : decode cX9_findVariable 19 = .ok (.if_icmp .ne 6, 3) := by decide +kernel
theorem dX9_findVariable_22 : decode cX9_findVariable 22 = .ok (.ldc 69, 2) := by decide +kernel
theorem dX9_findVariable_24 : decode cX9_findVariable 24 = .ok (.ireturn, 1) := by decide +kernel
theorem dX9_findVariable_25 : decode cX9_findVariable 25 = .ok (.aload_n 2, 1) := by decide +kernel
theorem dX9_findVariable_26 : decode cX9_findVariable 26 = .ok (.ifnull 15, 3) := by decide +kernel
theorem dX9_findVariable_29 : decode cX9_findVariable 29 = .ok (.iload_n 3, 1) := by decide +kernel
theorem dX9_findVariable_30 : decode cX9_findVariable 30 = .ok (.bipush 8, 2) := by decide +kernel
theorem dX9_findVariable_32 : decode cX9_findVariable 32 = .ok (.if_icmp .eq 9, 3) := by decide +kernel
theorem dX9_findVariable_35 : decode cX9_findVariable 35 = .ok (.iload_n 3, 1) := by decide +kernel
theorem dX9_findVariable_36 : decode cX9_findVariable 36 = .ok (.bipush 9, 2) := by decide +kernel
theorem dX9_findVariable_38 : decode cX9_findVariable 38 = .ok (.if_icmp .ne 25, 3) := by decide +kernel
theorem dX9_findVariable_41 : decode cX9_findVariable 41 = .ok (.aload_n 0, 1) := by decide +kernel
theorem dX9_findVariable_42 : decode cX9_findVariable 42 = .ok (.getfield 32, 3) := by decide +kernel
theorem dX9_findVariable_45 : decode cX9_findVariable 45 = .ok (.ifnonnull 8, 3) := by decide +kernel
theorem dX9_findVariable_48 : decode cX9_findVariable 48 = .ok (.ldc 69, 2) := by decide +kernel
theorem dX9_findVariable_50 : decode cX9_findVariable 50 = .ok (.goto 12, 3) := by decide +kernel
theorem dX9_findVariable_53 : decode cX9_findVariable 53 = .ok (.aload_n 0, 1) := by decide +kernel
theorem dX9_findVariable_54 : decode cX9_findVariable 54 = .ok (.getfield 32, 3) := by decide +kernel
theorem dX9_findVariable_57 : decode cX9_findVariable 57 = .ok (.getfield 9, 3) := by decide +kernel
theorem dX9_findVariable_60 : decode cX9_findVariable 60 = .ok (.iload_n 1, 1) := by decide +kernel
theorem dX9_findVariable_61 : decode cX9_findVariable 61 = .ok (.iaload, 1) := by decide +kernel
theorem dX9_findVariable_62 : decode cX9_findVariable 62 = .ok (.ireturn, 1) := by decide +kernel
theorem dX9_findVariable_63 : decode cX9_findVariable 63 = .ok (.iload_n 3, 1) := by decide +kernel
theorem dX9_findVariable_64 : decode cX9_findVariable 64 = .ok (.bipush 11, 2) := by decide +kernel
theorem dX9_findVariable_66 : decode cX9_findVariable 66 = .ok (.if_icmp .ne 61, 3) := by decide +kernel
theorem dX9_findVariable_69 : decode cX9_findVariable 69 = .ok (.aload_n 2, 1) := by decide +kernel
theorem dX9_findVariable_70 : decode cX9_findVariable 70 = .ok (.getfield 77, 3) := by decide +kernel
theorem dX9_findVariable_73 : decode cX9_findVariable 73 = .ok (.iload_n 1, 1) := by decide +kernel
theorem dX9_findVariable_74 : decode cX9_findVariable 74 = .ok (.iaload, 1) := by decide +kernel
theorem dX9_findVariable_75 : decode cX9_findVariable 75 = .ok (.istore 4, 2) := by decide +kernel
theorem dX9_findVariable_77 : decode cX9_findVariable 77 = .ok (.iload 4, 2) := by decide +kernel
theorem dX9_findVariable_79 : decode cX9_findVariable 79 = .ok (.bipush 12, 2) := by decide +kernel
theorem dX9_findVariable_81 : decode cX9_findVariable 81 = .ok (.if_icmp .lt 10, 3) := by decide +kernel
theorem dX9_findVariable_84 : decode cX9_findVariable 84 = .ok (.iload 4, 2) := by decide +kernel
theorem dX9_findVariable_86 : decode cX9_findVariable 86 = .ok (.bipush 15, 2) := by decide +kernel
theorem dX9_findVariable_88 : decode cX9_findVariable 88 = .ok (.if_icmp .lt 8, 3) := by decide +kernel
theorem dX9_findVariable_91 : decode cX9_findVariable 91 = .ok (.ldc 69, 2) := by decide +kernel
theorem dX9_findVariable_93 : decode cX9_findVariable 93 = .ok (.goto 10, 3) := by decide +kernel
theorem dX9_findVariable_96 : decode cX9_findVariable 96 = .ok (.aload_n 0, 1) := by decide +kernel
theorem dX9_findVariable_97 : decode cX9_findVariable 97 = .ok (.getfield 9, 3) := by decide +kernel
theorem dX9_findVariable_100 : decode cX9_findVariable 100 = .ok (.iload 4, 2) := by decide +kernel
theorem dX9_findVariable_102 : decode cX9_findVariable 102 = .ok (.iaload, 1) := by decide +kernel
theorem dX9_findVariable_103 : decode cX9_findVariable 103 = .ok (.istore 5, 2) := by decide +kernel
theorem dX9_findVariable_105 : decode cX9_findVariable 105 = .ok (.aload_n 2, 1) := by decide +kernel
theorem dX9_findVariable_106 : decode cX9_findVariable 106 = .ok (.getfield 80, 3) := by decide +kernel
theorem dX9_findVariable_109 : decode cX9_findVariable 109 = .ok (.iload_n 1, 1) := by decide +kernel
theorem dX9_findVariable_110 : decode cX9_findVariable 110 = .ok (.iaload, 1) := by decide +kernel
theorem dX9_findVariable_111 : decode cX9_findVariable 111 = .ok (.istore_n 3, 1) := by decide +kernel
theorem dX9_findVariable_112 : decode cX9_findVariable 112 = .ok (.iload 5, 2) := by decide +kernel
theorem dX9_findVariable_114 : decode cX9_findVariable 114 = .ok (.ldc 69, 2) := by decide +kernel
theorem dX9_findVariable_116 : decode cX9_findVariable 116 = .ok (.if_icmp .ne 8, 3) := by decide +kernel
theorem dX9_findVariable_119 : decode cX9_findVariable 119 = .ok (.iload_n 3, 1) := by decide +kernel
theorem dX9_findVariable_120 : decode cX9_findVariable 120 = .ok (.iconst (-1), 1) := by decide +kernel
theorem dX9_findVariable_121 : decode cX9_findVariable 121 = .ok (.if_icmp .ne 6, 3) := by decide +kernel
theorem dX9_findVariable_124 : decode cX9_findVariable 124 = .ok (.iload 5, 2) := by decide +kernel
theorem dX9_findVariable_126 : decode cX9_findVariable 126 = .ok (.ireturn, 1) := by decide +kernel
theorem dX9_findVariable_127 : decode cX9_findVariable 127 = .ok (.ldc 83, 2) := by decide +kernel
theorem dX9_findVariable_129 : decode cX9_findVariable 129 = .ok (.iload_n 3, 1) := by decide +kernel
theorem dX9_findVariable_130 : decode cX9_findVariable 130 = .ok (.imul, 1) := by decide +kernel
theorem dX9_findVariable_131 : decode cX9_findVariable 131 = .ok (.aload_n 2, 1) := by decide +kernel
theorem dX9_findVariable_132 : decode cX9_findVariable 132 = .ok (.getfield 84, 3) := by decide +kernel
theorem dX9_findVariable_135 : decode cX9_findVariable 135 = .ok (.iload_n 1, 1) := by decide +kernel
theorem dX9_findVariable_136 : decode cX9_findVariable 136 = .ok (.iaload, 1) := by decide +kernel
theorem dX9_findVariable_137 : decode cX9_findVariable 137 = .ok (.iadd, 1) := by decide +kernel
theorem dX9_findVariable_138 : decode cX9_findVariable 138 = .ok (.ireturn, 1) := by decide +kernel
theorem dX9_findVariables_0 : decode cX9_findVariables 0 = .ok (.bipush 12, 2) := by decide +kernel
theorem dX9_findVariables_2 : decode cX9_findVariables 2 = .ok (.istore_n 2, 1) := by decide +kernel
theorem dX9_findVariables_3 : decode cX9_findVariables 3 = .ok (.iload_n 2, 1) := by decide +kernel
theorem dX9_findVariables_4 : decode cX9_findVariables 4 = .ok (.bipush 15, 2) := by decide +kernel
theorem dX9_findVariables_6 : decode cX9_findVariables 6 = .ok (.if_icmp .ge 31, 3) := by decide +kernel
theorem dX9_findVariables_9 : decode cX9_findVariables 9 = .ok (.aload_n 0, 1) := by decide +kernel
theorem dX9_findVariables_10 : decode cX9_findVariables 10 = .ok (.getfield 9, 3) := by decide +kernel
theorem dX9_findVariables_13 : decode cX9_findVariables 13 = .ok (.iload_n 2, 1) := by decide +kernel
theorem dX9_findVariables_14 : decode cX9_findVariables 14 = .ok (.aload_n 0, 1) := by decide +kernel
theorem dX9_findVariables_15 : decode cX9_findVariables 15 = .ok (.iload_n 2, 1) := by decide +kernel
theorem dX9_findVariables_16 : decode cX9_findVariables 16 = .ok (.aload_n 1, 1) := by decide +kernel
theorem dX9_findVariables_17 : decode cX9_findVariables 17 = .ok (.invokevirtual 65, 3) := by decide +kernel
theorem dX9_findVariables_20 : decode cX9_findVariables 20 = .ok (.ifCond .eq 8, 3) := by decide +kernel
theorem dX9_findVariables_23 : decode cX9_findVariables 23 = .ok (.ldc 69, 2) := by decide +kernel
theorem dX9_findVariables_25 : decode cX9_findVariables 25 = .ok (.goto 5, 3) := by decide +kernel
theorem dX9_findVariables_28 : decode cX9_findVariables 28 = .ok (.ldc 70, 2) := by decide +kernel
theorem dX9_findVariables_30 : decode cX9_findVariables 30 = .ok (.iastore, 1) := by decide +kernel
theorem dX9_findVariables_31 : decode cX9_findVariables 31 = .ok (.iinc 2 1, 3) := by decide +kernel
theorem dX9_findVariables_34 : decode cX9_findVariables 34 = .ok (.goto (-31), 3) := by decide +kernel
theorem dX9_findVariables_37 : decode cX9_findVariables 37 = .ok (.bipush 12, 2) := by decide +kernel
theorem dX9_findVariables_39 : decode cX9_findVariables 39 = .ok (.istore_n 2, 1) := by decide +kernel
theorem dX9_findVariables_40 : decode cX9_findVariables 40 = .ok (.iload_n 2, 1) := by decide +kernel
theorem dX9_findVariables_41 : decode cX9_findVariables 41 = .ok (.bipush 15, 2) := by decide +kernel
theorem dX9_findVariables_43 : decode cX9_findVariables 43 = .ok (.if_icmp .ge 49, 3) := by decide +kernel
theorem dX9_findVariables_46 : decode cX9_findVariables 46 = .ok (.bipush 12, 2) := by decide +kernel
theorem dX9_findVariables_48 : decode cX9_findVariables 48 = .ok (.istore_n 3, 1) := by decide +kernel
theorem dX9_findVariables_49 : decode cX9_findVariables 49 = .ok (.iload_n 3, 1) := by decide +kernel
theorem dX9_findVariables_50 : decode cX9_findVariables 50 = .ok (.bipush 15, 2) := by decide +kernel
theorem dX9_findVariables_52 : decode cX9_findVariables 52 = .ok (.if_icmp .ge 34, 3) := by decide +kernel
theorem dX9_findVariables_55 : decode cX9_findVariables 55 = .ok (.aload_n 0, 1) := by decide +kernel
theorem dX9_findVariables_56 : decode cX9_findVariables 56 = .ok (.getfield 9, 3) := by decide +kernel
theorem dX9_findVariables_59 : decode cX9_findVariables 59 = .ok (.iload_n 3, 1) := by decide +kernel
theorem dX9_findVariables_60 : decode cX9_findVariables 60 = .ok (.iaload, 1) := by decide +kernel
theorem dX9_findVariables_61 : decode cX9_findVariables 61 = .ok (.ldc 70, 2) := by decide +kernel
theorem dX9_findVariables_63 : decode cX9_findVariables 63 = .ok (.if_icmp .ne 17, 3) := by decide +kernel
theorem dX9_findVariables_66 : decode cX9_findVariables 66 = .ok (.aload_n 0, 1) := by decide +kernel
theorem dX9_findVariables_67 : decode cX9_findVariables 67 = .ok (.getfield 9, 3) := by decide +kernel
theorem dX9_findVariables_70 : decode cX9_findVariables 70 = .ok (.iload_n 3, 1) := by decide +kernel
theorem dX9_findVariables_71 : decode cX9_findVariables 71 = .ok (.aload_n 0, 1) := by decide +kernel
theorem dX9_findVariables_72 : decode cX9_findVariables 72 = .ok (.iload_n 3, 1) := by decide +kernel
theorem dX9_findVariables_73 : decode cX9_findVariables 73 = .ok (.aload_n 1, 1) := by decide +kernel
theorem dX9_findVariables_74 : decode cX9_findVariables 74 = .ok (.iload_n 3, 1) := by decide +kernel
theorem dX9_findVariables_75 : decode cX9_findVariables 75 = .ok (.aaload, 1) := by decide +kernel
theorem dX9_findVariables_76 : decode cX9_findVariables 76 = .ok (.invokevirtual 71, 3) := by decide +kernel
theorem dX9_findVariables_79 : decode cX9_findVariables 79 = .ok (.iastore, 1) := by decide +kernel
theorem dX9_findVariables_80 : decode cX9_findVariables 80 = .ok (.iinc 3 1, 3) := by decide +kernel
theorem dX9_findVariables_83 : decode cX9_findVariables 83 = .ok (.goto (-34), 3) := by decide +kernel
theorem dX9_findVariables_86 : decode cX9_findVariables 86 = .ok (.iinc 2 1, 3) := by decide +kernel
theorem dX9_findVariables_89 : decode cX9_findVariables 89 = .ok (.goto (-49), 3) := by decide +kernel
theorem dX9_findVariables_92 : decode cX9_findVariables 92 = .ok (.return_, 1) := by decide +kernel
theorem dX9_evaluated_0 : decode cX9_evaluated 0 = .ok (.iload_n 2, 1) := by decide +kernel
theorem dX9_evaluated_1 : decode cX9_evaluated 1 = .ok (.bipush 8, 2) := by decide +kernel
theorem dX9_evaluated_3 : decode cX9_evaluated 3 = .ok (.if_icmp .eq 18, 3) := by decide +kernel
theorem dX9_evaluated_6 : decode cX9_evaluated 6 = .ok (.iload_n 2, 1) := by decide +kernel
theorem dX9_evaluated_7 : decode cX9_evaluated 7 = .ok (.bipush 9, 2) := by decide +kernel
theorem dX9_evaluated_9 : decode cX9_evaluated 9 = .ok (.if_icmp .ne 16, 3) := by decide +kernel
theorem dX9_evaluated_12 : decode cX9_evaluated 12 = .ok (.iload_n 1, 1) := by decide +kernel
theorem dX9_evaluated_13 : decode cX9_evaluated 13 = .ok (.ifCond .eq 8, 3) := by decide +kernel
theorem dX9_evaluated_16 : decode cX9_evaluated 16 = .ok (.iload_n 1, 1) := by decide +kernel
theorem dX9_evaluated_17 : decode cX9_evaluated 17 = .ok (.iconst 1, 1) := by decide +kernel
theorem dX9_evaluated_18 : decode cX9_evaluated 18 = .ok (.if_icmp .ne 7, 3) := by decide +kernel
theorem dX9_evaluated_21 : decode cX9_evaluated 21 = .ok (.iconst 1, 1) := by decide +kernel
theorem dX9_evaluated_22 : decode cX9_evaluated 22 = .ok (.goto 4, 3) := by decide +kernel
theorem dX9_evaluated_25 : decode cX9_evaluated 25 = .ok (.iconst 0, 1) := by decide +kernel
theorem dX9_evaluated_26 : decode cX9_evaluated 26 = .ok (.istore 4, 2) := by decide +kernel
theorem dX9_evaluated_28 : decode cX9_evaluated 28 = .ok (.iconst 0, 1) := by decide +kernel
theorem dX9_evaluated_29 : decode cX9_evaluated 29 = .ok (.istore 5, 2) := by decide +kernel
theorem dX9_evaluated_31 : decode cX9_evaluated 31 = .ok (.iload_n 2, 1) := by decide +kernel
theorem dX9_evaluated_32 : decode cX9_evaluated 32 = .ok (.tableswitch 128 0 6 #[44, 44, 46, 69, 78, 116, 125], 44) := by decide +kernel
theorem dX9_evaluated_76 : decode cX9_evaluated 76 = .ok (.iload_n 3, 1) := by decide +kernel
theorem dX9_evaluated_77 : decode cX9_evaluated 77 = .ok (.ireturn, 1) := by decide +kernel
theorem dX9_evaluated_78 : decode cX9_evaluated 78 = .ok (.iload_n 1, 1) := by decide +kernel
theorem dX9_evaluated_79 : decode cX9_evaluated 79 = .ok (.iconst 1, 1) := by decide +kernel
theorem dX9_evaluated_80 : decode cX9_evaluated 80 = .ok (.if_icmp .ne 10, 3) := by decide +kernel
theorem dX9_evaluated_83 : decode cX9_evaluated 83 = .ok (.aload_n 0, 1) := by decide +kernel
theorem dX9_evaluated_84 : decode cX9_evaluated 84 = .ok (.getfield 36, 3) := by decide +kernel
theorem dX9_evaluated_87 : decode cX9_evaluated 87 = .ok (.goto 9, 3) := by decide +kernel
theorem dX9_evaluated_90 : decode cX9_evaluated 90 = .ok (.aload_n 0, 1) := by decide +kernel
theorem dX9_evaluated_91 : decode cX9_evaluated 91 = .ok (.getfield 9, 3) := by decide +kernel
theorem dX9_evaluated_94 : decode cX9_evaluated 94 = .ok (.iconst 1, 1) := by decide +kernel
theorem dX9_evaluated_95 : decode cX9_evaluated 95 = .ok (.iaload, 1) := by decide +kernel
theorem dX9_evaluated_96 : decode cX9_evaluated 96 = .ok (.istore 5, 2) := by decide +kernel
theorem dX9_evaluated_98 : decode cX9_evaluated 98 = .ok (.goto 92, 3) := by decide +kernel
theorem dX9_evaluated_101 : decode cX9_evaluated 101 = .ok (.aload_n 0, 1) := by decide +kernel
theorem dX9_evaluated_102 : decode cX9_evaluated 102 = .ok (.getfield 42, 3) := by decide +kernel
theorem dX9_evaluated_105 : decode cX9_evaluated 105 = .ok (.istore 5, 2) := by decide +kernel
theorem dX9_evaluated_107 : decode cX9_evaluated 107 = .ok (.goto 83, 3) := by decide +kernel
theorem dX9_evaluated_110 : decode cX9_evaluated 110 = .ok (.iload_n 1, 1) := by decide +kernel
theorem dX9_evaluated_111 : decode cX9_evaluated 111 = .ok (.iconst 2, 1) := by decide +kernel
theorem dX9_evaluated_112 : decode cX9_evaluated 112 = .ok (.if_icmp .ne 15, 3) := by decide +kernel
theorem dX9_evaluated_115 : decode cX9_evaluated 115 = .ok (.aload_n 0, 1) := by decide +kernel
theorem dX9_evaluated_116 : decode cX9_evaluated 116 = .ok (.getfield 39, 3) := by decide +kernel
theorem dX9_evaluated_119 : decode cX9_evaluated 119 = .ok (.ldc 96, 2) := by decide +kernel
theorem dX9_evaluated_121 : decode cX9_evaluated 121 = .ok (.if_icmp .ne 6, 3) := by decide +kernel
theorem dX9_evaluated_124 : decode cX9_evaluated 124 = .ok (.ldc 96, 2) := by decide +kernel
theorem dX9_evaluated_126 : decode cX9_evaluated 126 = .ok (.ireturn, 1) := by decide +kernel
theorem dX9_evaluated_127 : decode cX9_evaluated 127 = .ok (.iload_n 1, 1) := by decide +kernel
theorem dX9_evaluated_128 : decode cX9_evaluated 128 = .ok (.iconst 2, 1) := by decide +kernel
theorem dX9_evaluated_129 : decode cX9_evaluated 129 = .ok (.if_icmp .ne 10, 3) := by decide +kernel
theorem dX9_evaluated_132 : decode cX9_evaluated 132 = .ok (.aload_n 0, 1) := by decide +kernel
theorem dX9_evaluated_133 : decode cX9_evaluated 133 = .ok (.getfield 39, 3) := by decide +kernel
theorem dX9_evaluated_136 : decode cX9_evaluated 136 = .ok (.goto 7, 3) := by decide +kernel
theorem dX9_evaluated_139 : decode cX9_evaluated 139 = .ok (.aload_n 0, 1) := by decide +kernel
theorem dX9_evaluated_140 : decode cX9_evaluated 140 = .ok (.getfield 36, 3) := by decide +kernel
theorem dX9_evaluated_143 : decode cX9_evaluated 143 = .ok (.istore 5, 2) := by decide +kernel
theorem dX9_evaluated_145 : decode cX9_evaluated 145 = .ok (.goto 45, 3) := by decide +kernel
theorem dX9_evaluated_148 : decode cX9_evaluated 148 = .ok (.aload_n 0, 1) := by decide +kernel
theorem dX9_evaluated_149 : decode cX9_evaluated 149 = .ok (.getfield 48, 3) := by decide +kernel
theorem dX9_evaluated_152 : decode cX9_evaluated 152 = .ok (.istore 5, 2) := by decide +kernel
theorem dX9_evaluated_154 : decode cX9_evaluated 154 = .ok (.goto 36, 3) := by decide +kernel
theorem dX9_evaluated_157 : decode cX9_evaluated 157 = .ok (.ldc 96, 2) := by decide +kernel
theorem dX9_evaluated_159 : decode cX9_evaluated 159 = .ok (.ireturn, 1) := by decide +kernel
theorem dX9_evaluated_160 : decode cX9_evaluated 160 = .ok (.iload 4, 2) := by decide +kernel
theorem dX9_evaluated_162 : decode cX9_evaluated 162 = .ok (.ifCond .eq 22, 3) := by decide +kernel
theorem dX9_evaluated_165 : decode cX9_evaluated 165 = .ok (.aload_n 0, 1) := by decide +kernel
theorem dX9_evaluated_166 : decode cX9_evaluated 166 = .ok (.getfield 32, 3) := by decide +kernel
theorem dX9_evaluated_169 : decode cX9_evaluated 169 = .ok (.ifnull 15, 3) := by decide +kernel
theorem dX9_evaluated_172 : decode cX9_evaluated 172 = .ok (.aload_n 0, 1) := by decide +kernel
theorem dX9_evaluated_173 : decode cX9_evaluated 173 = .ok (.getfield 32, 3) := by decide +kernel
theorem dX9_evaluated_176 : decode cX9_evaluated 176 = .ok (.getfield 9, 3) := by decide +kernel
theorem dX9_evaluated_179 : decode cX9_evaluated 179 = .ok (.iload_n 1, 1) := by decide +kernel
theorem dX9_evaluated_180 : decode cX9_evaluated 180 = .ok (.iaload, 1) := by decide +kernel
theorem dX9_evaluated_181 : decode cX9_evaluated 181 = .ok (.goto 8, 3) := by decide +kernel
theorem dX9_evaluated_184 : decode cX9_evaluated 184 = .ok (.getstatic 97, 3) := by decide +kernel
theorem dX9_evaluated_187 : decode cX9_evaluated 187 = .ok (.iload_n 1, 1) := by decide +kernel
theorem dX9_evaluated_188 : decode cX9_evaluated 188 = .ok (.iaload, 1) := by decide +kernel
theorem dX9_evaluated_189 : decode cX9_evaluated 189 = .ok (.ireturn, 1) := by decide +kernel
theorem dX9_evaluated_190 : decode cX9_evaluated 190 = .ok (.iload_n 3, 1) := by decide +kernel
theorem dX9_evaluated_191 : decode cX9_evaluated 191 = .ok (.i2l, 1) := by decide +kernel
theorem dX9_evaluated_192 : decode cX9_evaluated 192 = .ok (.iload 5, 2) := by decide +kernel
theorem dX9_evaluated_194 : decode cX9_evaluated 194 = .ok (.i2l, 1) := by decide +kernel
theorem dX9_evaluated_195 : decode cX9_evaluated 195 = .ok (.lmul, 1) := by decide +kernel
theorem dX9_evaluated_196 : decode cX9_evaluated 196 = .ok (.ldc2_w 100, 3) := by decide +kernel
theorem dX9_evaluated_199 : decode cX9_evaluated 199 = .ok (.ldiv, 1) := by decide +kernel
theorem dX9_evaluated_200 : decode cX9_evaluated 200 = .ok (.lstore 6, 2) := by decide +kernel
theorem dX9_evaluated_202 : decode cX9_evaluated 202 = .ok (.lload 6, 2) := by decide +kernel
theorem dX9_evaluated_204 : decode cX9_evaluated 204 = .ok (.ldc2_w 102, 3) := by decide +kernel
theorem dX9_evaluated_207 : decode cX9_evaluated 207 = .ok (.lcmp, 1) := by decide +kernel
theorem dX9_evaluated_208 : decode cX9_evaluated 208 = .ok (.ifCond .ge 8, 3) := by decide +kernel
theorem dX9_evaluated_211 : decode cX9_evaluated 211 = .ok (.ldc 104, 2) := by decide +kernel
theorem dX9_evaluated_213 : decode cX9_evaluated 213 = .ok (.goto 20, 3) := by decide +kernel
theorem dX9_evaluated_216 : decode cX9_evaluated 216 = .ok (.lload 6, 2) := by decide +kernel
theorem dX9_evaluated_218 : decode cX9_evaluated 218 = .ok (.ldc2_w 105, 3) := by decide +kernel
theorem dX9_evaluated_221 : decode cX9_evaluated 221 = .ok (.lcmp, 1) := by decide +kernel
theorem dX9_evaluated_222 : decode cX9_evaluated 222 = .ok (.ifCond .le 8, 3) := by decide +kernel
theorem dX9_evaluated_225 : decode cX9_evaluated 225 = .ok (.ldc 83, 2) := by decide +kernel
theorem dX9_evaluated_227 : decode cX9_evaluated 227 = .ok (.goto 6, 3) := by decide +kernel
theorem dX9_evaluated_230 : decode cX9_evaluated 230 = .ok (.lload 6, 2) := by decide +kernel
theorem dX9_evaluated_232 : decode cX9_evaluated 232 = .ok (.l2i, 1) := by decide +kernel
theorem dX9_evaluated_233 : decode cX9_evaluated 233 = .ok (.ireturn, 1) := by decide +kernel
theorem dX11_suits_0 : decode cX11_suits 0 = .ok (.iload_n 0, 1) := by decide +kernel
theorem dX11_suits_1 : decode cX11_suits 1 = .ok (.bipush 12, 2) := by decide +kernel
theorem dX11_suits_3 : decode cX11_suits 3 = .ok (.if_icmp .ge 9, 3) := by decide +kernel
theorem dX11_suits_6 : decode cX11_suits 6 = .ok (.iload_n 1, 1) := by decide +kernel
theorem dX11_suits_7 : decode cX11_suits 7 = .ok (.bipush 7, 2) := by decide +kernel
theorem dX11_suits_9 : decode cX11_suits 9 = .ok (.if_icmp .lt 5, 3) := by decide +kernel
theorem dX11_suits_12 : decode cX11_suits 12 = .ok (.iconst 1, 1) := by decide +kernel
theorem dX11_suits_13 : decode cX11_suits 13 = .ok (.ireturn, 1) := by decide +kernel
theorem dX11_suits_14 : decode cX11_suits 14 = .ok (.iload_n 0, 1) := by decide +kernel
theorem dX11_suits_15 : decode cX11_suits 15 = .ok (.iconst 1, 1) := by decide +kernel
theorem dX11_suits_16 : decode cX11_suits 16 = .ok (.if_icmp .lt 12, 3) := by decide +kernel
theorem dX11_suits_19 : decode cX11_suits 19 = .ok (.iload_n 0, 1) := by decide +kernel
theorem dX11_suits_20 : decode cX11_suits 20 = .ok (.iconst 4, 1) := by decide +kernel
theorem dX11_suits_21 : decode cX11_suits 21 = .ok (.if_icmp .gt 7, 3) := by decide +kernel
theorem dX11_suits_24 : decode cX11_suits 24 = .ok (.iconst 1, 1) := by decide +kernel
theorem dX11_suits_25 : decode cX11_suits 25 = .ok (.goto 4, 3) := by decide +kernel
theorem dX11_suits_28 : decode cX11_suits 28 = .ok (.iconst 0, 1) := by decide +kernel
theorem dX11_suits_29 : decode cX11_suits 29 = .ok (.istore_n 2, 1) := by decide +kernel
theorem dX11_suits_30 : decode cX11_suits 30 = .ok (.iload_n 1, 1) := by decide +kernel
theorem dX11_suits_31 : decode cX11_suits 31 = .ok (.lookupswitch 70 #[(0, 33), (4, 43), (6, 59)], 33) := by decide +kernel
theorem dX11_suits_64 : decode cX11_suits 64 = .ok (.iload_n 2, 1) := by decide +kernel
theorem dX11_suits_65 : decode cX11_suits 65 = .ok (.ifCond .ne 7, 3) := by decide +kernel
theorem dX11_suits_68 : decode cX11_suits 68 = .ok (.iconst 1, 1) := by decide +kernel
theorem dX11_suits_69 : decode cX11_suits 69 = .ok (.goto 4, 3) := by decide +kernel
theorem dX11_suits_72 : decode cX11_suits 72 = .ok (.iconst 0, 1) := by decide +kernel
theorem dX11_suits_73 : decode cX11_suits 73 = .ok (.ireturn, 1) := by decide +kernel
theorem dX11_suits_74 : decode cX11_suits 74 = .ok (.iload_n 0, 1) := by decide +kernel
theorem dX11_suits_75 : decode cX11_suits 75 = .ok (.iconst 1, 1) := by decide +kernel
theorem dX11_suits_76 : decode cX11_suits 76 = .ok (.if_icmp .eq 8, 3) := by decide +kernel
theorem dX11_suits_79 : decode cX11_suits 79 = .ok (.iload_n 0, 1) := by decide +kernel
theorem dX11_suits_80 : decode cX11_suits 80 = .ok (.iconst 2, 1) := by decide +kernel
theorem dX11_suits_81 : decode cX11_suits 81 = .ok (.if_icmp .ne 7, 3) := by decide +kernel
theorem dX11_suits_84 : decode cX11_suits 84 = .ok (.iconst 1, 1) := by decide +kernel
theorem dX11_suits_85 : decode cX11_suits 85 = .ok (.goto 4, 3) := by decide +kernel
theorem dX11_suits_88 : decode cX11_suits 88 = .ok (.iconst 0, 1) := by decide +kernel
theorem dX11_suits_89 : decode cX11_suits 89 = .ok (.ireturn, 1) := by decide +kernel
theorem dX11_suits_90 : decode cX11_suits 90 = .ok (.iload_n 0, 1) := by decide +kernel
theorem dX11_suits_91 : decode cX11_suits 91 = .ok (.iconst 2, 1) := by decide +kernel
theorem dX11_suits_92 : decode cX11_suits 92 = .ok (.if_icmp .ne 7, 3) := by decide +kernel
theorem dX11_suits_95 : decode cX11_suits 95 = .ok (.iconst 1, 1) := by decide +kernel
theorem dX11_suits_96 : decode cX11_suits 96 = .ok (.goto 4, 3) := by decide +kernel
theorem dX11_suits_99 : decode cX11_suits 99 = .ok (.iconst 0, 1) := by decide +kernel
theorem dX11_suits_100 : decode cX11_suits 100 = .ok (.ireturn, 1) := by decide +kernel
theorem dX11_suits_101 : decode cX11_suits 101 = .ok (.iload_n 2, 1) := by decide +kernel
theorem dX11_suits_102 : decode cX11_suits 102 = .ok (.ireturn, 1) := by decide +kernel
theorem dX9_findValue_0 : decode cX9_findValue 0 = .ok (.aload_n 2, 1) := by decide +kernel
theorem dX9_findValue_1 : decode cX9_findValue 1 = .ok (.ifnonnull 12, 3) := by decide +kernel
theorem dX9_findValue_4 : decode cX9_findValue 4 = .ok (.aload_n 0, 1) := by decide +kernel
theorem dX9_findValue_5 : decode cX9_findValue 5 = .ok (.iload_n 1, 1) := by decide +kernel
theorem dX9_findValue_6 : decode cX9_findValue 6 = .ok (.bipush 9, 2) := by decide +kernel
theorem dX9_findValue_8 : decode cX9_findValue 8 = .ok (.iconst 0, 1) := by decide +kernel
theorem dX9_findValue_9 : decode cX9_findValue 9 = .ok (.invokevirtual 87, 3) := by decide +kernel
theorem dX9_findValue_12 : decode cX9_findValue 12 = .ok (.ireturn, 1) := by decide +kernel
theorem dX9_findValue_13 : decode cX9_findValue 13 = .ok (.aload_n 2, 1) := by decide +kernel
theorem dX9_findValue_14 : decode cX9_findValue 14 = .ok (.getfield 74, 3) := by decide +kernel
theorem dX9_findValue_17 : decode cX9_findValue 17 = .ok (.iload_n 1, 1) := by decide +kernel
theorem dX9_findValue_18 : decode cX9_findValue 18 = .ok (.iaload, 1) := by decide +kernel
theorem dX9_findValue_19 : decode cX9_findValue 19 = .ok (.istore_n 3, 1) := by decide +kernel
theorem dX9_findValue_20 : decode cX9_findValue 20 = .ok (.aload_n 2, 1) := by decide +kernel
theorem dX9_findValue_21 : decode cX9_findValue 21 = .ok (.getfield 84, 3) := by decide +kernel
theorem dX9_findValue_24 : decode cX9_findValue 24 = .ok (.iload_n 1, 1) := by decide +kernel
theorem dX9_findValue_25 : decode cX9_findValue 25 = .ok (.iaload, 1) := by decide +kernel
theorem dX9_findValue_26 : decode cX9_findValue 26 = .ok (.istore 4, 2) := by decide +kernel
theorem dX9_findValue_28 : decode cX9_findValue 28 = .ok (.iload_n 3, 1) := by decide +kernel
theorem dX9_findValue_29 : decode cX9_findValue 29 = .ok (.bipush 11, 2) := by decide +kernel
theorem dX9_findValue_31 : decode cX9_findValue 31 = .ok (.if_icmp .ne 94, 3) := by decide +kernel
theorem dX9_findValue_34 : decode cX9_findValue 34 = .ok (.aload_n 2, 1) := by decide +kernel
theorem dX9_findValue_35 : decode cX9_findValue 35 = .ok (.getfield 77, 3) := by decide +kernel
theorem dX9_findValue_38 : decode cX9_findValue 38 = .ok (.iload_n 1, 1) := by decide +kernel
theorem dX9_findValue_39 : decode cX9_findValue 39 = .ok (.iaload, 1) := by decide +kernel
theorem dX9_findValue_40 : decode cX9_findValue 40 = .ok (.istore 5, 2) := by decide +kernel
theorem dX9_findValue_42 : decode cX9_findValue 42 = .ok (.iload 5, 2) := by decide +kernel
theorem dX9_findValue_44 : decode cX9_findValue 44 = .ok (.bipush 12, 2) := by decide +kernel
theorem dX9_findValue_46 : decode cX9_findValue 46 = .ok (.if_icmp .lt 10, 3) := by decide +kernel
theorem dX9_findValue_49 : decode cX9_findValue 49 = .ok (.iload 5, 2) := by decide +kernel
theorem dX9_findValue_51 : decode cX9_findValue 51 = .ok (.bipush 15, 2) := by decide +kernel
theorem dX9_findValue_53 : decode cX9_findValue 53 = .ok (.if_icmp .lt 8, 3) := by decide +kernel
theorem dX9_findValue_56 : decode cX9_findValue 56 = .ok (.ldc 69, 2) := by decide +kernel
theorem dX9_findValue_58 : decode cX9_findValue 58 = .ok (.goto 10, 3) := by decide +kernel
theorem dX9_findValue_61 : decode cX9_findValue 61 = .ok (.aload_n 0, 1) := by decide +kernel
theorem dX9_findValue_62 : decode cX9_findValue 62 = .ok (.getfield 9, 3) := by decide +kernel
theorem dX9_findValue_65 : decode cX9_findValue 65 = .ok (.iload 5, 2) := by decide +kernel
theorem dX9_findValue_67 : decode cX9_findValue 67 = .ok (.iaload, 1) := by decide +kernel
theorem dX9_findValue_68 : decode cX9_findValue 68 = .ok (.istore 6, 2) := by decide +kernel
theorem dX9_findValue_70 : decode cX9_findValue 70 = .ok (.iload 6, 2) := by decide +kernel
theorem dX9_findValue_72 : decode cX9_findValue 72 = .ok (.ldc 69, 2) := by decide +kernel
theorem dX9_findValue_74 : decode cX9_findValue 74 = .ok (.if_icmp .ne 13, 3) := by decide +kernel
theorem dX9_findValue_77 : decode cX9_findValue 77 = .ok (.aload_n 2, 1) := by decide +kernel
theorem dX9_findValue_78 : decode cX9_findValue 78 = .ok (.getfield 80, 3) := by decide +kernel
theorem dX9_findValue_81 : decode cX9_findValue 81 = .ok (.iload_n 1, 1) := by decide +kernel
theorem dX9_findValue_82 : decode cX9_findValue 82 = .ok (.iaload, 1) := by decide +kernel
theorem dX9_findValue_83 : decode cX9_findValue 83 = .ok (.istore_n 3, 1) := by decide +kernel
theorem dX9_findValue_84 : decode cX9_findValue 84 = .ok (.goto 21, 3) := by decide +kernel
theorem dX9_findValue_87 : decode cX9_findValue 87 = .ok (.iload 6, 2) := by decide +kernel
theorem dX9_findValue_89 : decode cX9_findValue 89 = .ok (.ldc 91, 2) := by decide +kernel
theorem dX9_findValue_91 : decode cX9_findValue 91 = .ok (.iadd, 1) := by decide +kernel
theorem dX9_findValue_92 : decode cX9_findValue 92 = .ok (.ldc 83, 2) := by decide +kernel
theorem dX9_findValue_94 : decode cX9_findValue 94 = .ok (.idiv, 1) := by decide +kernel
theorem dX9_findValue_95 : decode cX9_findValue 95 = .ok (.istore_n 3, 1) := by decide +kernel
theorem dX9_findValue_96 : decode cX9_findValue 96 = .ok (.iload 6, 2) := by decide +kernel
theorem dX9_findValue_98 : decode cX9_findValue 98 = .ok (.ldc 83, 2) := by decide +kernel
theorem dX9_findValue_100 : decode cX9_findValue 100 = .ok (.iload_n 3, 1) := by decide +kernel
theorem dX9_findValue_101 : decode cX9_findValue 101 = .ok (.imul, 1) := by decide +kernel
theorem dX9_findValue_102 : decode cX9_findValue 102 = .ok (.isub, 1) := by decide +kernel
theorem dX9_findValue_103 : decode cX9_findValue 103 = .ok (.istore 4, 2) := by decide +kernel
theorem dX9_findValue_105 : decode cX9_findValue 105 = .ok (.iload_n 3, 1) := by decide +kernel
theorem dX9_findValue_106 : decode cX9_findValue 106 = .ok (.iconst (-1), 1) := by decide +kernel
theorem dX9_findValue_107 : decode cX9_findValue 107 = .ok (.if_icmp .eq 11, 3) := by decide +kernel
theorem dX9_findValue_110 : decode cX9_findValue 110 = .ok (.iload_n 1, 1) := by decide +kernel
theorem dX9_findValue_111 : decode cX9_findValue 111 = .ok (.iload_n 3, 1) := by decide +kernel
theorem dX9_findValue_112 : decode cX9_findValue 112 = .ok (.invokestatic 92, 3) := by decide +kernel
theorem dX9_findValue_115 : decode cX9_findValue 115 = .ok (.ifCond .ne 8, 3) := by decide +kernel
theorem dX9_findValue_118 : decode cX9_findValue 118 = .ok (.bipush 9, 2) := by decide +kernel
theorem dX9_findValue_120 : decode cX9_findValue 120 = .ok (.goto 4, 3) := by decide +kernel
theorem dX9_findValue_123 : decode cX9_findValue 123 = .ok (.iload_n 3, 1) := by decide +kernel
theorem dX9_findValue_124 : decode cX9_findValue 124 = .ok (.istore_n 3, 1) := by decide +kernel
theorem dX9_findValue_125 : decode cX9_findValue 125 = .ok (.aload_n 0, 1) := by decide +kernel
theorem dX9_findValue_126 : decode cX9_findValue 126 = .ok (.iload_n 1, 1) := by decide +kernel
theorem dX9_findValue_127 : decode cX9_findValue 127 = .ok (.iload_n 3, 1) := by decide +kernel
theorem dX9_findValue_128 : decode cX9_findValue 128 = .ok (.iload 4, 2) := by decide +kernel
theorem dX9_findValue_130 : decode cX9_findValue 130 = .ok (.invokevirtual 87, 3) := by decide +kernel
theorem dX9_findValue_133 : decode cX9_findValue 133 = .ok (.ireturn, 1) := by decide +kernel
theorem dX9_findFrom_0 : decode cX9_findFrom 0 = .ok (.aload_n 1, 1) := by decide +kernel
theorem dX9_findFrom_1 : decode cX9_findFrom 1 = .ok (.ifnull 10, 3) := by decide +kernel
theorem dX9_findFrom_4 : decode cX9_findFrom 4 = .ok (.aload_n 1, 1) := by decide +kernel
theorem dX9_findFrom_5 : decode cX9_findFrom 5 = .ok (.arraylength, 1) := by decide +kernel
theorem dX9_findFrom_6 : decode cX9_findFrom 6 = .ok (.bipush 15, 2) := by decide +kernel
theorem dX9_findFrom_8 : decode cX9_findFrom 8 = .ok (.if_icmp .ge 4, 3) := by decide +kernel
theorem dX9_findFrom_11 : decode cX9_findFrom 11 = .ok (.return_, 1) := by decide +kernel
theorem dX9_findFrom_12 : decode cX9_findFrom 12 = .ok (.aload_n 0, 1) := by decide +kernel
theorem dX9_findFrom_13 : decode cX9_findFrom 13 = .ok (.aload_n 2, 1) := by decide +kernel
theorem dX9_findFrom_14 : decode cX9_findFrom 14 = .ok (.putfield 32, 3) := by decide +kernel
theorem dX9_findFrom_17 : decode cX9_findFrom 17 = .ok (.aload_n 0, 1) := by decide +kernel
theorem dX9_findFrom_18 : decode cX9_findFrom 18 = .ok (.aload_n 0, 1) := by decide +kernel
theorem dX9_findFrom_19 : decode cX9_findFrom 19 = .ok (.getfield 32, 3) := by decide +kernel
theorem dX9_findFrom_22 : decode cX9_findFrom 22 = .ok (.ifnonnull 8, 3) := by decide +kernel
theorem dX9_findFrom_25 : decode cX9_findFrom 25 = .ok (.bipush 16, 2) := by decide +kernel
theorem dX9_findFrom_27 : decode cX9_findFrom 27 = .ok (.goto 12, 3) := by decide +kernel
theorem dX9_findFrom_30 : decode cX9_findFrom 30 = .ok (.aload_n 0, 1) := by decide +kernel
theorem dX9_findFrom_31 : decode cX9_findFrom 31 = .ok (.getfield 32, 3) := by decide +kernel
theorem dX9_findFrom_34 : decode cX9_findFrom 34 = .ok (.getfield 9, 3) := by decide +kernel
theorem dX9_findFrom_37 : decode cX9_findFrom 37 = .ok (.iconst 1, 1) := by decide +kernel
theorem dX9_findFrom_38 : decode cX9_findFrom 38 = .ok (.iaload, 1) := by decide +kernel
theorem dX9_findFrom_39 : decode cX9_findFrom 39 = .ok (.putfield 36, 3) := by decide +kernel
theorem dX9_findFrom_42 : decode cX9_findFrom 42 = .ok (.aload_n 0, 1) := by decide +kernel
theorem dX9_findFrom_43 : decode cX9_findFrom 43 = .ok (.aload_n 0, 1) := by decide +kernel
theorem dX9_findFrom_44 : decode cX9_findFrom 44 = .ok (.getfield 32, 3) := by decide +kernel
theorem dX9_findFrom_47 : decode cX9_findFrom 47 = .ok (.ifnonnull 8, 3) := by decide +kernel
theorem dX9_findFrom_50 : decode cX9_findFrom 50 = .ok (.iload 5, 2) := by decide +kernel
theorem dX9_findFrom_52 : decode cX9_findFrom 52 = .ok (.goto 12, 3) := by decide +kernel
theorem dX9_findFrom_55 : decode cX9_findFrom 55 = .ok (.aload_n 0, 1) := by decide +kernel
theorem dX9_findFrom_56 : decode cX9_findFrom 56 = .ok (.getfield 32, 3) := by decide +kernel
theorem dX9_findFrom_59 : decode cX9_findFrom 59 = .ok (.getfield 9, 3) := by decide +kernel
theorem dX9_findFrom_62 : decode cX9_findFrom 62 = .ok (.iconst 2, 1) := by decide +kernel
theorem dX9_findFrom_63 : decode cX9_findFrom 63 = .ok (.iaload, 1) := by decide +kernel
theorem dX9_findFrom_64 : decode cX9_findFrom 64 = .ok (.putfield 39, 3) := by decide +kernel
theorem dX9_findFrom_67 : decode cX9_findFrom 67 = .ok (.aload_n 0, 1) := by decide +kernel
theorem dX9_findFrom_68 : decode cX9_findFrom 68 = .ok (.aload_n 0, 1) := by decide +kernel
theorem dX9_findFrom_69 : decode cX9_findFrom 69 = .ok (.getfield 32, 3) := by decide +kernel
theorem dX9_findFrom_72 : decode cX9_findFrom 72 = .ok (.ifnull 7, 3) := by decide +kernel
theorem dX9_findFrom_75 : decode cX9_findFrom 75 = .ok (.aload_n 3, 1) := by decide +kernel
theorem dX9_findFrom_76 : decode cX9_findFrom 76 = .ok (.ifnonnull 8, 3) := by decide +kernel
theorem dX9_findFrom_79 : decode cX9_findFrom 79 = .ok (.bipush 16, 2) := by decide +kernel
theorem dX9_findFrom_81 : decode cX9_findFrom 81 = .ok (.goto 9, 3) := by decide +kernel
theorem dX9_findFrom_84 : decode cX9_findFrom 84 = .ok (.aload_n 3, 1) := by decide +kernel
theorem dX9_findFrom_85 : decode cX9_findFrom 85 = .ok (.getfield 9, 3) := by decide +kernel
theorem dX9_findFrom_88 : decode cX9_findFrom 88 = .ok (.iconst 1, 1) := by decide +kernel
theorem dX9_findFrom_89 : decode cX9_findFrom 89 = .ok (.iaload, 1) := by decide +kernel
theorem dX9_findFrom_90 : decode cX9_findFrom 90 = .ok (.putfield 42, 3) := by decide +kernel
theorem dX9_findFrom_93 : decode cX9_findFrom 93 = .ok (.aload_n 0, 1) := by decide +kernel
theorem dX9_findFrom_94 : decode cX9_findFrom 94 = .ok (.aload 4, 2) := by decide +kernel
theorem dX9_findFrom_96 : decode cX9_findFrom 96 = .ok (.ifnonnull 8, 3) := by decide +kernel
theorem dX9_findFrom_99 : decode cX9_findFrom 99 = .ok (.iload 5, 2) := by decide +kernel
theorem dX9_findFrom_101 : decode cX9_findFrom 101 = .ok (.goto 8, 3) := by decide +kernel
theorem dX9_findFrom_104 : decode cX9_findFrom 104 = .ok (.aload 4, 2) := by decide +kernel
theorem dX9_findFrom_106 : decode cX9_findFrom 106 = .ok (.getfield 45, 3) := by decide +kernel
theorem dX9_findFrom_109 : decode cX9_findFrom 109 = .ok (.putfield 48, 3) := by decide +kernel
theorem dX9_findFrom_112 : decode cX9_findFrom 112 = .ok (.aload_n 0, 1) := by decide +kernel
theorem dX9_findFrom_113 : decode cX9_findFrom 113 = .ok (.iconst 0, 1) := by decide +kernel
theorem dX9_findFrom_114 : decode cX9_findFrom 114 = .ok (.putfield 51, 3) := by decide +kernel
theorem dX9_findFrom_117 : decode cX9_findFrom 117 = .ok (.aload_n 0, 1) := by decide +kernel
theorem dX9_findFrom_118 : decode cX9_findFrom 118 = .ok (.aload_n 1, 1) := by decide +kernel
theorem dX9_findFrom_119 : decode cX9_findFrom 119 = .ok (.invokevirtual 54, 3) := by decide +kernel
theorem dX9_findFrom_122 : decode cX9_findFrom 122 = .ok (.aload_n 0, 1) := by decide +kernel
theorem dX9_findFrom_123 : decode cX9_findFrom 123 = .ok (.getfield 9, 3) := by decide +kernel
theorem dX9_findFrom_126 : decode cX9_findFrom 126 = .ok (.iconst 1, 1) := by decide +kernel
theorem dX9_findFrom_127 : decode cX9_findFrom 127 = .ok (.aload_n 0, 1) := by decide +kernel
theorem dX9_findFrom_128 : decode cX9_findFrom 128 = .ok (.iconst 1, 1) := by decide +kernel
theorem dX9_findFrom_129 : decode cX9_findFrom 129 = .ok (.aload_n 1, 1) := by decide +kernel
theorem dX9_findFrom_130 : decode cX9_findFrom 130 = .ok (.iconst 1, 1) := by decide +kernel
theorem dX9_findFrom_131 : decode cX9_findFrom 131 = .ok (.aaload, 1) := by decide +kernel
theorem dX9_findFrom_132 : decode cX9_findFrom 132 = .ok (.invokevirtual 58, 3) := by decide +kernel
theorem dX9_findFrom_135 : decode cX9_findFrom 135 = .ok (.iastore, 1) := by decide +kernel
theorem dX9_findFrom_136 : decode cX9_findFrom 136 = .ok (.aload_n 0, 1) := by decide +kernel
theorem dX9_findFrom_137 : decode cX9_findFrom 137 = .ok (.getfield 32, 3) := by decide +kernel
theorem dX9_findFrom_140 : decode cX9_findFrom 140 = .ok (.ifnonnull 13, 3) := by decide +kernel
theorem dX9_findFrom_143 : decode cX9_findFrom 143 = .ok (.aload_n 0, 1) := by decide +kernel
theorem dX9_findFrom_144 : decode cX9_findFrom 144 = .ok (.aload_n 0, 1) := by decide +kernel
theorem dX9_findFrom_145 : decode cX9_findFrom 145 = .ok (.getfield 9, 3) := by decide +kernel
theorem dX9_findFrom_148 : decode cX9_findFrom 148 = .ok (.iconst 1, 1) := by decide +kernel
theorem dX9_findFrom_149 : decode cX9_findFrom 149 = .ok (.iaload, 1) := by decide +kernel
theorem dX9_findFrom_150 : decode cX9_findFrom 150 = .ok (.putfield 42, 3) := by decide +kernel
theorem dX9_findFrom_153 : decode cX9_findFrom 153 = .ok (.iconst 0, 1) := by decide +kernel
theorem dX9_findFrom_154 : decode cX9_findFrom 154 = .ok (.istore 6, 2) := by decide +kernel
theorem dX9_findFrom_156 : decode cX9_findFrom 156 = .ok (.iload 6, 2) := by decide +kernel
theorem dX9_findFrom_158 : decode cX9_findFrom 158 = .ok (.bipush 15, 2) := by decide +kernel
theorem dX9_findFrom_160 : decode cX9_findFrom 160 = .ok (.if_icmp .ge 71, 3) := by decide +kernel
theorem dX9_findFrom_163 : decode cX9_findFrom 163 = .ok (.aload_n 1, 1) := by decide +kernel
theorem dX9_findFrom_164 : decode cX9_findFrom 164 = .ok (.iload 6, 2) := by decide +kernel
theorem dX9_findFrom_166 : decode cX9_findFrom 166 = .ok (.aaload, 1) := by decide +kernel
theorem dX9_findFrom_167 : decode cX9_findFrom 167 = .ok (.astore 7, 2) := by decide +kernel
theorem dX9_findFrom_169 : decode cX9_findFrom 169 = .ok (.iload 6, 2) := by decide +kernel
theorem dX9_findFrom_171 : decode cX9_findFrom 171 = .ok (.bipush 12, 2) := by decide +kernel
theorem dX9_findFrom_173 : decode cX9_findFrom 173 = .ok (.if_icmp .ge 24, 3) := by decide +kernel
theorem dX9_findFrom_176 : decode cX9_findFrom 176 = .ok (.iload 6, 2) := by decide +kernel
theorem dX9_findFrom_178 : decode cX9_findFrom 178 = .ok (.iconst 1, 1) := by decide +kernel
theorem dX9_findFrom_179 : decode cX9_findFrom 179 = .ok (.if_icmp .eq 18, 3) := by decide +kernel
theorem dX9_findFrom_182 : decode cX9_findFrom 182 = .ok (.aload_n 0, 1) := by decide +kernel
theorem dX9_findFrom_183 : decode cX9_findFrom 183 = .ok (.getfield 9, 3) := by decide +kernel
theorem dX9_findFrom_186 : decode cX9_findFrom 186 = .ok (.iload 6, 2) := by decide +kernel
theorem dX9_findFrom_188 : decode cX9_findFrom 188 = .ok (.aload_n 0, 1) := by decide +kernel
theorem dX9_findFrom_189 : decode cX9_findFrom 189 = .ok (.iload 6, 2) := by decide +kernel
theorem dX9_findFrom_191 : decode cX9_findFrom 191 = .ok (.aload 7, 2) := by decide +kernel
theorem dX9_findFrom_193 : decode cX9_findFrom 193 = .ok (.invokevirtual 58, 3) := by decide +kernel
theorem dX9_findFrom_196 : decode cX9_findFrom 196 = .ok (.iastore, 1) := by decide +kernel
theorem dX9_findFrom_197 : decode cX9_findFrom 197 = .ok (.aload_n 0, 1) := by decide +kernel
theorem dX9_findFrom_198 : decode cX9_findFrom 198 = .ok (.dup, 1) := by decide +kernel
theorem dX9_findFrom_199 : decode cX9_findFrom 199 = .ok (.getfield 51, 3) := by decide +kernel
theorem dX9_findFrom_202 : decode cX9_findFrom 202 = .ok (.aload 7, 2) := by decide +kernel
theorem dX9_findFrom_204 : decode cX9_findFrom 204 = .ok (.ifnonnull 7, 3) := by decide +kernel
theorem dX9_findFrom_207 : decode cX9_findFrom 207 = .ok (.iconst 0, 1) := by decide +kernel
theorem dX9_findFrom_208 : decode cX9_findFrom 208 = .ok (.goto 13, 3) := by decide +kernel
theorem dX9_findFrom_211 : decode cX9_findFrom 211 = .ok (.aload 7, 2) := by decide +kernel
theorem dX9_findFrom_213 : decode cX9_findFrom 213 = .ok (.getfield 62, 3) := by decide +kernel
theorem dX9_findFrom_216 : decode cX9_findFrom 216 = .ok (.iconst 1, 1) := by decide +kernel
theorem dX9_findFrom_217 : decode cX9_findFrom 217 = .ok (.iload 6, 2) := by decide +kernel
theorem dX9_findFrom_219 : decode cX9_findFrom 219 = .ok (.ishl, 1) := by decide +kernel
theorem dX9_findFrom_220 : decode cX9_findFrom 220 = .ok (.iand, 1) := by decide +kernel
theorem dX9_findFrom_221 : decode cX9_findFrom 221 = .ok (.ior, 1) := by decide +kernel
theorem dX9_findFrom_222 : decode cX9_findFrom 222 = .ok (.putfield 51, 3) := by decide +kernel
theorem dX9_findFrom_225 : decode cX9_findFrom 225 = .ok (.iinc 6 1, 3) := by decide +kernel
theorem dX9_findFrom_228 : decode cX9_findFrom 228 = .ok (.goto (-72), 3) := by decide +kernel
theorem dX9_findFrom_231 : decode cX9_findFrom 231 = .ok (.return_, 1) := by decide +kernel
theorem dX9_seenAt_0 : decode cX9_seenAt 0 = .ok (.iload_n 2, 1) := by decide +kernel
theorem dX9_seenAt_1 : decode cX9_seenAt 1 = .ok (.aload_n 0, 1) := by decide +kernel
theorem dX9_seenAt_2 : decode cX9_seenAt 2 = .ok (.getfield 18, 3) := by decide +kernel
theorem dX9_seenAt_5 : decode cX9_seenAt 5 = .ok (.iload_n 1, 1) := by decide +kernel
theorem dX9_seenAt_6 : decode cX9_seenAt 6 = .ok (.iaload, 1) := by decide +kernel
theorem dX9_seenAt_7 : decode cX9_seenAt 7 = .ok (.isub, 1) := by decide +kernel
theorem dX9_seenAt_8 : decode cX9_seenAt 8 = .ok (.istore 4, 2) := by decide +kernel
theorem dX9_seenAt_10 : decode cX9_seenAt 10 = .ok (.aload_n 0, 1) := by decide +kernel
theorem dX9_seenAt_11 : decode cX9_seenAt 11 = .ok (.getfield 21, 3) := by decide +kernel
theorem dX9_seenAt_14 : decode cX9_seenAt 14 = .ok (.iload_n 1, 1) := by decide +kernel
theorem dX9_seenAt_15 : decode cX9_seenAt 15 = .ok (.iaload, 1) := by decide +kernel
theorem dX9_seenAt_16 : decode cX9_seenAt 16 = .ok (.ifCond .le 49, 3) := by decide +kernel
theorem dX9_seenAt_19 : decode cX9_seenAt 19 = .ok (.iload 4, 2) := by decide +kernel
theorem dX9_seenAt_21 : decode cX9_seenAt 21 = .ok (.aload_n 0, 1) := by decide +kernel
theorem dX9_seenAt_22 : decode cX9_seenAt 22 = .ok (.getfield 21, 3) := by decide +kernel
theorem dX9_seenAt_25 : decode cX9_seenAt 25 = .ok (.iload_n 1, 1) := by decide +kernel
theorem dX9_seenAt_26 : decode cX9_seenAt 26 = .ok (.iaload, 1) := by decide +kernel
theorem dX9_seenAt_27 : decode cX9_seenAt 27 = .ok (.if_icmp .ge 38, 3) := by decide +kernel
theorem dX9_seenAt_30 : decode cX9_seenAt 30 = .ok (.aload_n 0, 1) := by decide +kernel
theorem dX9_seenAt_31 : decode cX9_seenAt 31 = .ok (.getfield 15, 3) := by decide +kernel
theorem dX9_seenAt_34 : decode cX9_seenAt 34 = .ok (.iload_n 1, 1) := by decide +kernel
theorem dX9_seenAt_35 : decode cX9_seenAt 35 = .ok (.iaload, 1) := by decide +kernel
theorem dX9_seenAt_36 : decode cX9_seenAt 36 = .ok (.aload_n 0, 1) := by decide +kernel
theorem dX9_seenAt_37 : decode cX9_seenAt 37 = .ok (.getfield 9, 3) := by decide +kernel
theorem dX9_seenAt_40 : decode cX9_seenAt 40 = .ok (.iload_n 1, 1) := by decide +kernel
theorem dX9_seenAt_41 : decode cX9_seenAt 41 = .ok (.iaload, 1) := by decide +kernel
theorem dX9_seenAt_42 : decode cX9_seenAt 42 = .ok (.aload_n 0, 1) := by decide +kernel
theorem dX9_seenAt_43 : decode cX9_seenAt 43 = .ok (.getfield 15, 3) := by decide +kernel
theorem dX9_seenAt_46 : decode cX9_seenAt 46 = .ok (.iload_n 1, 1) := by decide +kernel
theorem dX9_seenAt_47 : decode cX9_seenAt 47 = .ok (.iaload, 1) := by decide +kernel
theorem dX9_seenAt_48 : decode cX9_seenAt 48 = .ok (.isub, 1) := by decide +kernel
theorem dX9_seenAt_49 : decode cX9_seenAt 49 = .ok (.i2l, 1) := by decide +kernel
theorem dX9_seenAt_50 : decode cX9_seenAt 50 = .ok (.iload 4, 2) := by decide +kernel
theorem dX9_seenAt_52 : decode cX9_seenAt 52 = .ok (.i2l, 1) := by decide +kernel
theorem dX9_seenAt_53 : decode cX9_seenAt 53 = .ok (.lmul, 1) := by decide +kernel
theorem dX9_seenAt_54 : decode cX9_seenAt 54 = .ok (.aload_n 0, 1) := by decide +kernel
theorem dX9_seenAt_55 : decode cX9_seenAt 55 = .ok (.getfield 21, 3) := by decide +kernel
theorem dX9_seenAt_58 : decode cX9_seenAt 58 = .ok (.iload_n 1, 1) := by decide +kernel
theorem dX9_seenAt_59 : decode cX9_seenAt 59 = .ok (.iaload, 1) := by decide +kernel
theorem dX9_seenAt_60 : decode cX9_seenAt 60 = .ok (.i2l, 1) := by decide +kernel
theorem dX9_seenAt_61 : decode cX9_seenAt 61 = .ok (.ldiv, 1) := by decide +kernel
theorem dX9_seenAt_62 : decode cX9_seenAt 62 = .ok (.l2i, 1) := by decide +kernel
theorem dX9_seenAt_63 : decode cX9_seenAt 63 = .ok (.iadd, 1) := by decide +kernel
theorem dX9_seenAt_64 : decode cX9_seenAt 64 = .ok (.ireturn, 1) := by decide +kernel
theorem dX9_seenAt_65 : decode cX9_seenAt 65 = .ok (.aload_n 3, 1) := by decide +kernel
theorem dX9_seenAt_66 : decode cX9_seenAt 66 = .ok (.ifnull 14, 3) := by decide +kernel
theorem dX9_seenAt_69 : decode cX9_seenAt 69 = .ok (.aload_n 0, 1) := by decide +kernel
theorem dX9_seenAt_70 : decode cX9_seenAt 70 = .ok (.getfield 51, 3) := by decide +kernel
theorem dX9_seenAt_73 : decode cX9_seenAt 73 = .ok (.iload_n 1, 1) := by decide +kernel
theorem dX9_seenAt_74 : decode cX9_seenAt 74 = .ok (.ishr, 1) := by decide +kernel
theorem dX9_seenAt_75 : decode cX9_seenAt 75 = .ok (.iconst 1, 1) := by decide +kernel
theorem dX9_seenAt_76 : decode cX9_seenAt 76 = .ok (.iand, 1) := by decide +kernel
theorem dX9_seenAt_77 : decode cX9_seenAt 77 = .ok (.ifCond .eq 10, 3) := by decide +kernel
theorem dX9_seenAt_80 : decode cX9_seenAt 80 = .ok (.aload_n 0, 1) := by decide +kernel
theorem dX9_seenAt_81 : decode cX9_seenAt 81 = .ok (.getfield 9, 3) := by decide +kernel
theorem dX9_seenAt_84 : decode cX9_seenAt 84 = .ok (.iload_n 1, 1) := by decide +kernel
theorem dX9_seenAt_85 : decode cX9_seenAt 85 = .ok (.iaload, 1) := by decide +kernel
theorem dX9_seenAt_86 : decode cX9_seenAt 86 = .ok (.ireturn, 1) := by decide +kernel
theorem dX9_seenAt_87 : decode cX9_seenAt 87 = .ok (.aload_n 3, 1) := by decide +kernel
theorem dX9_seenAt_88 : decode cX9_seenAt 88 = .ok (.iload_n 1, 1) := by decide +kernel
theorem dX9_seenAt_89 : decode cX9_seenAt 89 = .ok (.iload_n 2, 1) := by decide +kernel
theorem dX9_seenAt_90 : decode cX9_seenAt 90 = .ok (.aload_n 0, 1) := by decide +kernel
theorem dX9_seenAt_91 : decode cX9_seenAt 91 = .ok (.getfield 111, 3) := by decide +kernel
theorem dX9_seenAt_94 : decode cX9_seenAt 94 = .ok (.isub, 1) := by decide +kernel
theorem dX9_seenAt_95 : decode cX9_seenAt 95 = .ok (.aload_n 0, 1) := by decide +kernel
theorem dX9_seenAt_96 : decode cX9_seenAt 96 = .ok (.getfield 9, 3) := by decide +kernel
theorem dX9_seenAt_99 : decode cX9_seenAt 99 = .ok (.iload_n 1, 1) := by decide +kernel
theorem dX9_seenAt_100 : decode cX9_seenAt 100 = .ok (.iaload, 1) := by decide +kernel
theorem dX9_seenAt_101 : decode cX9_seenAt 101 = .ok (.invokevirtual 118, 3) := by decide +kernel
theorem dX9_seenAt_104 : decode cX9_seenAt 104 = .ok (.ireturn, 1) := by decide +kernel
theorem dX9_turnTo_0 : decode cX9_turnTo 0 = .ok (.aload_n 0, 1) := by decide +kernel
theorem dX9_turnTo_1 : decode cX9_turnTo 1 = .ok (.getfield 9, 3) := by decide +kernel
theorem dX9_turnTo_4 : decode cX9_turnTo 4 = .ok (.iload_n 1, 1) := by decide +kernel
theorem dX9_turnTo_5 : decode cX9_turnTo 5 = .ok (.iaload, 1) := by decide +kernel
theorem dX9_turnTo_6 : decode cX9_turnTo 6 = .ok (.ldc 96, 2) := by decide +kernel
theorem dX9_turnTo_8 : decode cX9_turnTo 8 = .ok (.if_icmp .eq 13, 3) := by decide +kernel
theorem dX9_turnTo_11 : decode cX9_turnTo 11 = .ok (.iload_n 2, 1) := by decide +kernel
theorem dX9_turnTo_12 : decode cX9_turnTo 12 = .ok (.ldc 96, 2) := by decide +kernel
theorem dX9_turnTo_14 : decode cX9_turnTo 14 = .ok (.if_icmp .eq 7, 3) := by decide +kernel
theorem dX9_turnTo_17 : decode cX9_turnTo 17 = .ok (.iload_n 3, 1) := by decide +kernel
theorem dX9_turnTo_18 : decode cX9_turnTo 18 = .ok (.ifCond .gt 11, 3) := by decide +kernel
theorem dX9_turnTo_21 : decode cX9_turnTo 21 = .ok (.aload_n 0, 1) := by decide +kernel
theorem dX9_turnTo_22 : decode cX9_turnTo 22 = .ok (.getfield 21, 3) := by decide +kernel
theorem dX9_turnTo_25 : decode cX9_turnTo 25 = .ok (.iload_n 1, 1) := by decide +kernel
theorem dX9_turnTo_26 : decode cX9_turnTo 26 = .ok (.iconst 0, 1) := by decide +kernel
theorem dX9_turnTo_27 : decode cX9_turnTo 27 = .ok (.iastore, 1) := by decide +kernel
theorem dX9_turnTo_28 : decode cX9_turnTo 28 = .ok (.return_, 1) := by decide +kernel
theorem dX9_turnTo_29 : decode cX9_turnTo 29 = .ok (.aload_n 0, 1) := by decide +kernel
theorem dX9_turnTo_30 : decode cX9_turnTo 30 = .ok (.iload_n 1, 1) := by decide +kernel
theorem dX9_turnTo_31 : decode cX9_turnTo 31 = .ok (.iload 4, 2) := by decide +kernel
theorem dX9_turnTo_33 : decode cX9_turnTo 33 = .ok (.aload 5, 2) := by decide +kernel
theorem dX9_turnTo_35 : decode cX9_turnTo 35 = .ok (.invokevirtual 114, 3) := by decide +kernel
theorem dX9_turnTo_38 : decode cX9_turnTo 38 = .ok (.istore 6, 2) := by decide +kernel
theorem dX9_turnTo_40 : decode cX9_turnTo 40 = .ok (.iload 4, 2) := by decide +kernel
theorem dX9_turnTo_42 : decode cX9_turnTo 42 = .ok (.aload_n 0, 1) := by decide +kernel
theorem dX9_turnTo_43 : decode cX9_turnTo 43 = .ok (.getfield 18, 3) := by decide +kernel
theorem dX9_turnTo_46 : decode cX9_turnTo 46 = .ok (.iload_n 1, 1) := by decide +kernel
theorem dX9_turnTo_47 : decode cX9_turnTo 47 = .ok (.iaload, 1) := by decide +kernel
theorem dX9_turnTo_48 : decode cX9_turnTo 48 = .ok (.isub, 1) := by decide +kernel
theorem dX9_turnTo_49 : decode cX9_turnTo 49 = .ok (.istore 7, 2) := by decide +kernel
theorem dX9_turnTo_51 : decode cX9_turnTo 51 = .ok (.iload_n 3, 1) := by decide +kernel
theorem dX9_turnTo_52 : decode cX9_turnTo 52 = .ok (.istore 8, 2) := by decide +kernel
theorem dX9_turnTo_54 : decode cX9_turnTo 54 = .ok (.aload_n 0, 1) := by decide +kernel
theorem dX9_turnTo_55 : decode cX9_turnTo 55 = .ok (.getfield 21, 3) := by decide +kernel
theorem dX9_turnTo_58 : decode cX9_turnTo 58 = .ok (.iload_n 1, 1) := by decide +kernel
theorem dX9_turnTo_59 : decode cX9_turnTo 59 = .ok (.iaload, 1) := by decide +kernel
theorem dX9_turnTo_60 : decode cX9_turnTo 60 = .ok (.ifCond .le 65, 3) := by decide +kernel
theorem dX9_turnTo_63 : decode cX9_turnTo 63 = .ok (.iload 7, 2) := by decide +kernel
theorem dX9_turnTo_65 : decode cX9_turnTo 65 = .ok (.aload_n 0, 1) := by decide +kernel
theorem dX9_turnTo_66 : decode cX9_turnTo 66 = .ok (.getfield 21, 3) := by decide +kernel
theorem dX9_turnTo_69 : decode cX9_turnTo 69 = .ok (.iload_n 1, 1) := by decide +kernel
theorem dX9_turnTo_70 : decode cX9_turnTo 70 = .ok (.iaload, 1) := by decide +kernel
theorem dX9_turnTo_71 : decode cX9_turnTo 71 = .ok (.if_icmp .ge 54, 3) := by decide +kernel
theorem dX9_turnTo_74 : decode cX9_turnTo 74 = .ok (.iload_n 2, 1) := by decide +kernel
theorem dX9_turnTo_75 : decode cX9_turnTo 75 = .ok (.aload_n 0, 1) := by decide +kernel
theorem dX9_turnTo_76 : decode cX9_turnTo 76 = .ok (.getfield 15, 3) := by decide +kernel
theorem dX9_turnTo_79 : decode cX9_turnTo 79 = .ok (.iload_n 1, 1) := by decide +kernel
theorem dX9_turnTo_80 : decode cX9_turnTo 80 = .ok (.iaload, 1) := by decide +kernel
theorem dX9_turnTo_81 : decode cX9_turnTo 81 = .ok (.if_icmp .ne 44, 3) := by decide +kernel
theorem dX9_turnTo_84 : decode cX9_turnTo 84 = .ok (.iload_n 3, 1) := by decide +kernel
theorem dX9_turnTo_85 : decode cX9_turnTo 85 = .ok (.i2l, 1) := by decide +kernel
theorem dX9_turnTo_86 : decode cX9_turnTo 86 = .ok (.iload 7, 2) := by decide +kernel
theorem dX9_turnTo_88 : decode cX9_turnTo 88 = .ok (.i2l, 1) := by decide +kernel
theorem dX9_turnTo_89 : decode cX9_turnTo 89 = .ok (.lmul, 1) := by decide +kernel
theorem dX9_turnTo_90 : decode cX9_turnTo 90 = .ok (.aload_n 0, 1) := by decide +kernel
theorem dX9_turnTo_91 : decode cX9_turnTo 91 = .ok (.getfield 21, 3) := by decide +kernel
theorem dX9_turnTo_94 : decode cX9_turnTo 94 = .ok (.iload_n 1, 1) := by decide +kernel
theorem dX9_turnTo_95 : decode cX9_turnTo 95 = .ok (.iaload, 1) := by decide +kernel
theorem dX9_turnTo_96 : decode cX9_turnTo 96 = .ok (.i2l, 1) := by decide +kernel
theorem dX9_turnTo_97 : decode cX9_turnTo 97 = .ok (.ladd, 1) := by decide +kernel
theorem dX9_turnTo_98 : decode cX9_turnTo 98 = .ok (.lconst 1, 1) := by decide +kernel
theorem dX9_turnTo_99 : decode cX9_turnTo 99 = .ok (.lsub, 1) := by decide +kernel
theorem dX9_turnTo_100 : decode cX9_turnTo 100 = .ok (.aload_n 0, 1) := by decide +kernel
theorem dX9_turnTo_101 : decode cX9_turnTo 101 = .ok (.getfield 21, 3) := by decide +kernel
theorem dX9_turnTo_104 : decode cX9_turnTo 104 = .ok (.iload_n 1, 1) := by decide +kernel
theorem dX9_turnTo_105 : decode cX9_turnTo 105 = .ok (.iaload, 1) := by decide +kernel
theorem dX9_turnTo_106 : decode cX9_turnTo 106 = .ok (.i2l, 1) := by decide +kernel
theorem dX9_turnTo_107 : decode cX9_turnTo 107 = .ok (.ldiv, 1) := by decide +kernel
theorem dX9_turnTo_108 : decode cX9_turnTo 108 = .ok (.l2i, 1) := by decide +kernel
theorem dX9_turnTo_109 : decode cX9_turnTo 109 = .ok (.istore 9, 2) := by decide +kernel
theorem dX9_turnTo_111 : decode cX9_turnTo 111 = .ok (.iload 9, 2) := by decide +kernel
theorem dX9_turnTo_113 : decode cX9_turnTo 113 = .ok (.iconst 1, 1) := by decide +kernel
theorem dX9_turnTo_114 : decode cX9_turnTo 114 = .ok (.if_icmp .ge 7, 3) := by decide +kernel
theorem dX9_turnTo_117 : decode cX9_turnTo 117 = .ok (.iconst 1, 1) := by decide +kernel
theorem dX9_turnTo_118 : decode cX9_turnTo 118 = .ok (.goto 5, 3) := by decide +kernel
theorem dX9_turnTo_121 : decode cX9_turnTo 121 = .ok (.iload 9, 2) := by decide +kernel
theorem dX9_turnTo_123 : decode cX9_turnTo 123 = .ok (.istore 8, 2) := by decide +kernel
theorem dX9_turnTo_125 : decode cX9_turnTo 125 = .ok (.aload_n 0, 1) := by decide +kernel
theorem dX9_turnTo_126 : decode cX9_turnTo 126 = .ok (.getfield 15, 3) := by decide +kernel
theorem dX9_turnTo_129 : decode cX9_turnTo 129 = .ok (.iload_n 1, 1) := by decide +kernel
theorem dX9_turnTo_130 : decode cX9_turnTo 130 = .ok (.iload 6, 2) := by decide +kernel
theorem dX9_turnTo_132 : decode cX9_turnTo 132 = .ok (.iastore, 1) := by decide +kernel
theorem dX9_turnTo_133 : decode cX9_turnTo 133 = .ok (.aload_n 0, 1) := by decide +kernel
theorem dX9_turnTo_134 : decode cX9_turnTo 134 = .ok (.getfield 18, 3) := by decide +kernel
theorem dX9_turnTo_137 : decode cX9_turnTo 137 = .ok (.iload_n 1, 1) := by decide +kernel
theorem dX9_turnTo_138 : decode cX9_turnTo 138 = .ok (.iload 4, 2) := by decide +kernel
theorem dX9_turnTo_140 : decode cX9_turnTo 140 = .ok (.iastore, 1) := by decide +kernel
theorem dX9_turnTo_141 : decode cX9_turnTo 141 = .ok (.aload_n 0, 1) := by decide +kernel
theorem dX9_turnTo_142 : decode cX9_turnTo 142 = .ok (.getfield 21, 3) := by decide +kernel
theorem dX9_turnTo_145 : decode cX9_turnTo 145 = .ok (.iload_n 1, 1) := by decide +kernel
theorem dX9_turnTo_146 : decode cX9_turnTo 146 = .ok (.iload 8, 2) := by decide +kernel
theorem dX9_turnTo_148 : decode cX9_turnTo 148 = .ok (.iastore, 1) := by decide +kernel
theorem dX9_turnTo_149 : decode cX9_turnTo 149 = .ok (.return_, 1) := by decide +kernel
theorem dX9_adopt_0 : decode cX9_adopt 0 = .ok (.iconst 0, 1) := by decide +kernel
theorem dX9_adopt_1 : decode cX9_adopt 1 = .ok (.istore 4, 2) := by decide +kernel
theorem dX9_adopt_3 : decode cX9_adopt 3 = .ok (.iload 4, 2) := by decide +kernel
theorem dX9_adopt_5 : decode cX9_adopt 5 = .ok (.bipush 15, 2) := by decide +kernel
theorem dX9_adopt_7 : decode cX9_adopt 7 = .ok (.if_icmp .ge 46, 3) := by decide +kernel
theorem dX9_adopt_10 : decode cX9_adopt 10 = .ok (.aload_n 0, 1) := by decide +kernel
theorem dX9_adopt_11 : decode cX9_adopt 11 = .ok (.getfield 24, 3) := by decide +kernel
theorem dX9_adopt_14 : decode cX9_adopt 14 = .ok (.ifCond .eq 33, 3) := by decide +kernel
theorem dX9_adopt_17 : decode cX9_adopt 17 = .ok (.aload_n 0, 1) := by decide +kernel
theorem dX9_adopt_18 : decode cX9_adopt 18 = .ok (.getfield 9, 3) := by decide +kernel
theorem dX9_adopt_21 : decode cX9_adopt 21 = .ok (.iload 4, 2) := by decide +kernel
theorem dX9_adopt_23 : decode cX9_adopt 23 = .ok (.iaload, 1) := by decide +kernel
theorem dX9_adopt_24 : decode cX9_adopt 24 = .ok (.aload_n 1, 1) := by decide +kernel
theorem dX9_adopt_25 : decode cX9_adopt 25 = .ok (.getfield 9, 3) := by decide +kernel
theorem dX9_adopt_28 : decode cX9_adopt 28 = .ok (.iload 4, 2) := by decide +kernel
theorem dX9_adopt_30 : decode cX9_adopt 30 = .ok (.iaload, 1) := by decide +kernel
theorem dX9_adopt_31 : decode cX9_adopt 31 = .ok (.if_icmp .eq 16, 3) := by decide +kernel
theorem dX9_adopt_34 : decode cX9_adopt 34 = .ok (.aload_n 0, 1) := by decide +kernel
theorem dX9_adopt_35 : decode cX9_adopt 35 = .ok (.dup, 1) := by decide +kernel
theorem dX9_adopt_36 : decode cX9_adopt 36 = .ok (.getfield 28, 3) := by decide +kernel
theorem dX9_adopt_39 : decode cX9_adopt 39 = .ok (.iconst 1, 1) := by decide +kernel
theorem dX9_adopt_40 : decode cX9_adopt 40 = .ok (.iload 4, 2) := by decide +kernel
theorem dX9_adopt_42 : decode cX9_adopt 42 = .ok (.ishl, 1) := by decide +kernel
theorem dX9_adopt_43 : decode cX9_adopt 43 = .ok (.ior, 1) := by decide +kernel
theorem dX9_adopt_44 : decode cX9_adopt 44 = .ok (.putfield 28, 3) := by decide +kernel
theorem dX9_adopt_47 : decode cX9_adopt 47 = .ok (.iinc 4 1, 3) := by decide +kernel
theorem dX9_adopt_50 : decode cX9_adopt 50 = .ok (.goto (-47), 3) := by decide +kernel
theorem dX9_adopt_53 : decode cX9_adopt 53 = .ok (.iconst 0, 1) := by decide +kernel
theorem dX9_adopt_54 : decode cX9_adopt 54 = .ok (.istore 4, 2) := by decide +kernel
theorem dX9_adopt_56 : decode cX9_adopt 56 = .ok (.iload 4, 2) := by decide +kernel
theorem dX9_adopt_58 : decode cX9_adopt 58 = .ok (.iconst 5, 1) := by decide +kernel
theorem dX9_adopt_59 : decode cX9_adopt 59 = .ok (.if_icmp .ge 43, 3) := by decide +kernel
theorem dX9_adopt_62 : decode cX9_adopt 62 = .ok (.aload_n 0, 1) := by decide +kernel
theorem dX9_adopt_63 : decode cX9_adopt 63 = .ok (.getfield 28, 3) := by decide +kernel
theorem dX9_adopt_66 : decode cX9_adopt 66 = .ok (.iload 4, 2) := by decide +kernel
theorem dX9_adopt_68 : decode cX9_adopt 68 = .ok (.ishr, 1) := by decide +kernel
theorem dX9_adopt_69 : decode cX9_adopt 69 = .ok (.iconst 1, 1) := by decide +kernel
theorem dX9_adopt_70 : decode cX9_adopt 70 = .ok (.iand, 1) := by decide +kernel
theorem dX9_adopt_71 : decode cX9_adopt 71 = .ok (.ifCond .eq 25, 3) := by decide +kernel
theorem dX9_adopt_74 : decode cX9_adopt 74 = .ok (.aload_n 0, 1) := by decide +kernel
theorem dX9_adopt_75 : decode cX9_adopt 75 = .ok (.iload 4, 2) := by decide +kernel
theorem dX9_adopt_77 : decode cX9_adopt 77 = .ok (.aload_n 1, 1) := by decide +kernel
theorem dX9_adopt_78 : decode cX9_adopt 78 = .ok (.getfield 9, 3) := by decide +kernel
theorem dX9_adopt_81 : decode cX9_adopt 81 = .ok (.iload 4, 2) := by decide +kernel
theorem dX9_adopt_83 : decode cX9_adopt 83 = .ok (.iaload, 1) := by decide +kernel
theorem dX9_adopt_84 : decode cX9_adopt 84 = .ok (.aload_n 1, 1) := by decide +kernel
theorem dX9_adopt_85 : decode cX9_adopt 85 = .ok (.getfield 9, 3) := by decide +kernel
theorem dX9_adopt_88 : decode cX9_adopt 88 = .ok (.bipush 10, 2) := by decide +kernel
theorem dX9_adopt_90 : decode cX9_adopt 90 = .ok (.iaload, 1) := by decide +kernel
theorem dX9_adopt_91 : decode cX9_adopt 91 = .ok (.iload_n 2, 1) := by decide +kernel
theorem dX9_adopt_92 : decode cX9_adopt 92 = .ok (.aload_n 3, 1) := by decide +kernel
theorem dX9_adopt_93 : decode cX9_adopt 93 = .ok (.invokevirtual 107, 3) := by decide +kernel
theorem dX9_adopt_96 : decode cX9_adopt 96 = .ok (.iinc 4 1, 3) := by decide +kernel
theorem dX9_adopt_99 : decode cX9_adopt 99 = .ok (.goto (-43), 3) := by decide +kernel
theorem dX9_adopt_102 : decode cX9_adopt 102 = .ok (.aload_n 0, 1) := by decide +kernel
theorem dX9_adopt_103 : decode cX9_adopt 103 = .ok (.getfield 24, 3) := by decide +kernel
theorem dX9_adopt_106 : decode cX9_adopt 106 = .ok (.ifCond .eq 20, 3) := by decide +kernel
theorem dX9_adopt_109 : decode cX9_adopt 109 = .ok (.aload_n 0, 1) := by decide +kernel
theorem dX9_adopt_110 : decode cX9_adopt 110 = .ok (.getfield 9, 3) := by decide +kernel
theorem dX9_adopt_113 : decode cX9_adopt 113 = .ok (.bipush 11, 2) := by decide +kernel
theorem dX9_adopt_115 : decode cX9_adopt 115 = .ok (.iaload, 1) := by decide +kernel
theorem dX9_adopt_116 : decode cX9_adopt 116 = .ok (.aload_n 1, 1) := by decide +kernel
theorem dX9_adopt_117 : decode cX9_adopt 117 = .ok (.getfield 9, 3) := by decide +kernel
theorem dX9_adopt_120 : decode cX9_adopt 120 = .ok (.bipush 11, 2) := by decide +kernel
theorem dX9_adopt_122 : decode cX9_adopt 122 = .ok (.iaload, 1) := by decide +kernel
theorem dX9_adopt_123 : decode cX9_adopt 123 = .ok (.if_icmp .eq 8, 3) := by decide +kernel
theorem dX9_adopt_126 : decode cX9_adopt 126 = .ok (.aload_n 0, 1) := by decide +kernel
theorem dX9_adopt_127 : decode cX9_adopt 127 = .ok (.iload_n 2, 1) := by decide +kernel
theorem dX9_adopt_128 : decode cX9_adopt 128 = .ok (.putfield 111, 3) := by decide +kernel
theorem dX9_adopt_131 : decode cX9_adopt 131 = .ok (.iconst 0, 1) := by decide +kernel
theorem dX9_adopt_132 : decode cX9_adopt 132 = .ok (.istore 4, 2) := by decide +kernel
theorem dX9_adopt_134 : decode cX9_adopt 134 = .ok (.iload 4, 2) := by decide +kernel
theorem dX9_adopt_136 : decode cX9_adopt 136 = .ok (.bipush 15, 2) := by decide +kernel
theorem dX9_adopt_138 : decode cX9_adopt 138 = .ok (.if_icmp .ge 23, 3) := by decide +kernel
theorem dX9_adopt_141 : decode cX9_adopt 141 = .ok (.aload_n 0, 1) := by decide +kernel
theorem dX9_adopt_142 : decode cX9_adopt 142 = .ok (.getfield 9, 3) := by decide +kernel
theorem dX9_adopt_145 : decode cX9_adopt 145 = .ok (.iload 4, 2) := by decide +kernel
theorem dX9_adopt_147 : decode cX9_adopt 147 = .ok (.aload_n 1, 1) := by decide +kernel
theorem dX9_adopt_148 : decode cX9_adopt 148 = .ok (.getfield 9, 3) := by decide +kernel
theorem dX9_adopt_151 : decode cX9_adopt 151 = .ok (.iload 4, 2) := by decide +kernel
theorem dX9_adopt_153 : decode cX9_adopt 153 = .ok (.iaload, 1) := by decide +kernel
theorem dX9_adopt_154 : decode cX9_adopt 154 = .ok (.iastore, 1) := by decide +kernel
theorem dX9_adopt_155 : decode cX9_adopt 155 = .ok (.iinc 4 1, 3) := by decide +kernel
theorem dX9_adopt_158 : decode cX9_adopt 158 = .ok (.goto (-24), 3) := by decide +kernel
theorem dX9_adopt_161 : decode cX9_adopt 161 = .ok (.aload_n 0, 1) := by decide +kernel
theorem dX9_adopt_162 : decode cX9_adopt 162 = .ok (.aload_n 1, 1) := by decide +kernel
theorem dX9_adopt_163 : decode cX9_adopt 163 = .ok (.getfield 51, 3) := by decide +kernel
theorem dX9_adopt_166 : decode cX9_adopt 166 = .ok (.putfield 51, 3) := by decide +kernel
theorem dX9_adopt_169 : decode cX9_adopt 169 = .ok (.aload_n 0, 1) := by decide +kernel
theorem dX9_adopt_170 : decode cX9_adopt 170 = .ok (.iconst 1, 1) := by decide +kernel
theorem dX9_adopt_171 : decode cX9_adopt 171 = .ok (.putfield 24, 3) := by decide +kernel
theorem dX9_adopt_174 : decode cX9_adopt 174 = .ok (.return_, 1) := by decide +kernel
theorem dX10_init_0 : decode cX10_init 0 = .ok (.aload_n 0, 1) := by decide +kernel
theorem dX10_init_1 : decode cX10_init 1 = .ok (.invokespecial 3, 3) := by decide +kernel
theorem dX10_init_4 : decode cX10_init 4 = .ok (.aload_n 0, 1) := by decide +kernel
theorem dX10_init_5 : decode cX10_init 5 = .ok (.new 9, 3) := by decide +kernel
theorem dX10_init_8 : decode cX10_init 8 = .ok (.dup, 1) := by decide +kernel
theorem dX10_init_9 : decode cX10_init 9 = .ok (.iconst 0, 1) := by decide +kernel
theorem dX10_init_10 : decode cX10_init 10 = .ok (.iconst 0, 1) := by decide +kernel
theorem dX10_init_11 : decode cX10_init 11 = .ok (.invokespecial 11, 3) := by decide +kernel
theorem dX10_init_14 : decode cX10_init 14 = .ok (.putfield 14, 3) := by decide +kernel
theorem dX10_init_17 : decode cX10_init 17 = .ok (.aload_n 0, 1) := by decide +kernel
theorem dX10_init_18 : decode cX10_init 18 = .ok (.iconst 1, 1) := by decide +kernel
theorem dX10_init_19 : decode cX10_init 19 = .ok (.putfield 20, 3) := by decide +kernel
theorem dX10_init_22 : decode cX10_init 22 = .ok (.aload_n 0, 1) := by decide +kernel
theorem dX10_init_23 : decode cX10_init 23 = .ok (.iconst 1, 1) := by decide +kernel
theorem dX10_init_24 : decode cX10_init 24 = .ok (.putfield 24, 3) := by decide +kernel
theorem dX10_init_27 : decode cX10_init 27 = .ok (.aload_n 0, 1) := by decide +kernel
theorem dX10_init_28 : decode cX10_init 28 = .ok (.bipush 30, 2) := by decide +kernel
theorem dX10_init_30 : decode cX10_init 30 = .ok (.anewarray 9, 3) := by decide +kernel
theorem dX10_init_33 : decode cX10_init 33 = .ok (.putfield 27, 3) := by decide +kernel
theorem dX10_init_36 : decode cX10_init 36 = .ok (.aload_n 0, 1) := by decide +kernel
theorem dX10_init_37 : decode cX10_init 37 = .ok (.getfield 27, 3) := by decide +kernel
theorem dX10_init_40 : decode cX10_init 40 = .ok (.iconst 0, 1) := by decide +kernel
theorem dX10_init_41 : decode cX10_init 41 = .ok (.aload_n 0, 1) := by decide +kernel
theorem dX10_init_42 : decode cX10_init 42 = .ok (.getfield 14, 3) := by decide +kernel
theorem dX10_init_45 : decode cX10_init 45 = .ok (.aastore, 1) := by decide +kernel
theorem dX10_init_46 : decode cX10_init 46 = .ok (.return_, 1) := by decide +kernel
theorem dX10_hasTree_0 : decode cX10_hasTree 0 = .ok (.aload_n 0, 1) := by decide +kernel
theorem dX10_hasTree_1 : decode cX10_hasTree 1 = .ok (.iload_n 1, 1) := by decide +kernel
theorem dX10_hasTree_2 : decode cX10_hasTree 2 = .ok (.invokevirtual 34, 3) := by decide +kernel
theorem dX10_hasTree_5 : decode cX10_hasTree 5 = .ok (.astore_n 2, 1) := by decide +kernel
theorem dX10_hasTree_6 : decode cX10_hasTree 6 = .ok (.iload_n 1, 1) := by decide +kernel
theorem dX10_hasTree_7 : decode cX10_hasTree 7 = .ok (.iconst (-1), 1) := by decide +kernel
theorem dX10_hasTree_8 : decode cX10_hasTree 8 = .ok (.if_icmp .eq 14, 3) := by decide +kernel
theorem dX10_hasTree_11 : decode cX10_hasTree 11 = .ok (.aload_n 2, 1) := by decide +kernel
theorem dX10_hasTree_12 : decode cX10_hasTree 12 = .ok (.ifnull 14, 3) := by decide +kernel
theorem dX10_hasTree_15 : decode cX10_hasTree 15 = .ok (.aload_n 2, 1) := by decide +kernel
theorem dX10_hasTree_16 : decode cX10_hasTree 16 = .ok (.getfield 38, 3) := by decide +kernel
theorem dX10_hasTree_19 : decode cX10_hasTree 19 = .ok (.ifCond .eq 7, 3) := by decide +kernel
theorem dX10_hasTree_22 : decode cX10_hasTree 22 = .ok (.iconst 1, 1) := by decide +kernel
theorem dX10_hasTree_23 : decode cX10_hasTree 23 = .ok (.goto 4, 3) := by decide +kernel
theorem dX10_hasTree_26 : decode cX10_hasTree 26 = .ok (.iconst 0, 1) := by decide +kernel
theorem dX10_hasTree_27 : decode cX10_hasTree 27 = .ok (.ireturn, 1) := by decide +kernel
theorem dX10_addElement_0 : decode cX10_addElement 0 = .ok (.aload_n 0, 1) := by decide +kernel
theorem dX10_addElement_1 : decode cX10_addElement 1 = .ok (.getfield 20, 3) := by decide +kernel
theorem dX10_addElement_4 : decode cX10_addElement 4 = .ok (.bipush 30, 2) := by decide +kernel
theorem dX10_addElement_6 : decode cX10_addElement 6 = .ok (.if_icmp .ge 34, 3) := by decide +kernel
theorem dX10_addElement_9 : decode cX10_addElement 9 = .ok (.aload_n 0, 1) := by decide +kernel
theorem dX10_addElement_10 : decode cX10_addElement 10 = .ok (.getfield 27, 3) := by decide +kernel
theorem dX10_addElement_13 : decode cX10_addElement 13 = .ok (.aload_n 0, 1) := by decide +kernel
theorem dX10_addElement_14 : decode cX10_addElement 14 = .ok (.getfield 20, 3) := by decide +kernel
theorem dX10_addElement_17 : decode cX10_addElement 17 = .ok (.new 9, 3) := by decide +kernel
theorem dX10_addElement_20 : decode cX10_addElement 20 = .ok (.dup, 1) := by decide +kernel
theorem dX10_addElement_21 : decode cX10_addElement 21 = .ok (.aload_n 0, 1) := by decide +kernel
theorem dX10_addElement_22 : decode cX10_addElement 22 = .ok (.getfield 20, 3) := by decide +kernel
theorem dX10_addElement_25 : decode cX10_addElement 25 = .ok (.iload_n 1, 1) := by decide +kernel
theorem dX10_addElement_26 : decode cX10_addElement 26 = .ok (.invokespecial 11, 3) := by decide +kernel
theorem dX10_addElement_29 : decode cX10_addElement 29 = .ok (.aastore, 1) := by decide +kernel
theorem dX10_addElement_30 : decode cX10_addElement 30 = .ok (.aload_n 0, 1) := by decide +kernel
theorem dX10_addElement_31 : decode cX10_addElement 31 = .ok (.dup, 1) := by decide +kernel
theorem dX10_addElement_32 : decode cX10_addElement 32 = .ok (.getfield 20, 3) := by decide +kernel
theorem dX10_addElement_35 : decode cX10_addElement 35 = .ok (.iconst 1, 1) := by decide +kernel
theorem dX10_addElement_36 : decode cX10_addElement 36 = .ok (.iadd, 1) := by decide +kernel
theorem dX10_addElement_37 : decode cX10_addElement 37 = .ok (.putfield 20, 3) := by decide +kernel
theorem dX10_addElement_40 : decode cX10_addElement 40 = .ok (.aload_n 0, 1) := by decide +kernel
theorem dX10_addElement_41 : decode cX10_addElement 41 = .ok (.getfield 20, 3) := by decide +kernel
theorem dX10_addElement_44 : decode cX10_addElement 44 = .ok (.iconst 1, 1) := by decide +kernel
theorem dX10_addElement_45 : decode cX10_addElement 45 = .ok (.isub, 1) := by decide +kernel
theorem dX10_addElement_46 : decode cX10_addElement 46 = .ok (.ireturn, 1) := by decide +kernel
theorem dX10_countFrom_0 : decode cX10_countFrom 0 = .ok (.iconst 0, 1) := by decide +kernel
theorem dX10_countFrom_1 : decode cX10_countFrom 1 = .ok (.istore_n 2, 1) := by decide +kernel
theorem dX10_countFrom_2 : decode cX10_countFrom 2 = .ok (.aload_n 1, 1) := by decide +kernel
theorem dX10_countFrom_3 : decode cX10_countFrom 3 = .ok (.astore_n 3, 1) := by decide +kernel
theorem dX10_countFrom_4 : decode cX10_countFrom 4 = .ok (.aload_n 3, 1) := by decide +kernel
theorem dX10_countFrom_5 : decode cX10_countFrom 5 = .ok (.ifnull 14, 3) := by decide +kernel
theorem dX10_countFrom_8 : decode cX10_countFrom 8 = .ok (.iinc 2 1, 3) := by decide +kernel
theorem dX10_countFrom_11 : decode cX10_countFrom 11 = .ok (.aload_n 3, 1) := by decide +kernel
theorem dX10_countFrom_12 : decode cX10_countFrom 12 = .ok (.getfield 42, 3) := by decide +kernel
theorem dX10_countFrom_15 : decode cX10_countFrom 15 = .ok (.astore_n 3, 1) := by decide +kernel
theorem dX10_countFrom_16 : decode cX10_countFrom 16 = .ok (.goto (-12), 3) := by decide +kernel
theorem dX10_countFrom_19 : decode cX10_countFrom 19 = .ok (.iload_n 2, 1) := by decide +kernel
theorem dX10_countFrom_20 : decode cX10_countFrom 20 = .ok (.ireturn, 1) := by decide +kernel
theorem dX10_mayEnter_0 : decode cX10_mayEnter 0 = .ok (.aload_n 2, 1) := by decide +kernel
theorem dX10_mayEnter_1 : decode cX10_mayEnter 1 = .ok (.astore_n 3, 1) := by decide +kernel
theorem dX10_mayEnter_2 : decode cX10_mayEnter 2 = .ok (.aload_n 3, 1) := by decide +kernel
theorem dX10_mayEnter_3 : decode cX10_mayEnter 3 = .ok (.ifnull 18, 3) := by decide +kernel
theorem dX10_mayEnter_6 : decode cX10_mayEnter 6 = .ok (.aload_n 3, 1) := by decide +kernel
theorem dX10_mayEnter_7 : decode cX10_mayEnter 7 = .ok (.aload_n 1, 1) := by decide +kernel
theorem dX10_mayEnter_8 : decode cX10_mayEnter 8 = .ok (.if_acmp .ne 5, 3) := by decide +kernel
theorem dX10_mayEnter_11 : decode cX10_mayEnter 11 = .ok (.iconst 0, 1) := by decide +kernel
theorem dX10_mayEnter_12 : decode cX10_mayEnter 12 = .ok (.ireturn, 1) := by decide +kernel
theorem dX10_mayEnter_13 : decode cX10_mayEnter 13 = .ok (.aload_n 3, 1) := by decide +kernel
theorem dX10_mayEnter_14 : decode cX10_mayEnter 14 = .ok (.invokevirtual 45, 3) := by decide +kernel
theorem dX10_mayEnter_17 : decode cX10_mayEnter 17 = .ok (.astore_n 3, 1) := by decide +kernel
theorem dX10_mayEnter_18 : decode cX10_mayEnter 18 = .ok (.goto (-16), 3) := by decide +kernel
theorem dX10_mayEnter_21 : decode cX10_mayEnter 21 = .ok (.aload_n 1, 1) := by decide +kernel
theorem dX10_mayEnter_22 : decode cX10_mayEnter 22 = .ok (.aload_n 0, 1) := by decide +kernel
theorem dX10_mayEnter_23 : decode cX10_mayEnter 23 = .ok (.getfield 14, 3) := by decide +kernel
theorem dX10_mayEnter_26 : decode cX10_mayEnter 26 = .ok (.if_acmp .eq 14, 3) := by decide +kernel
theorem dX10_mayEnter_29 : decode cX10_mayEnter 29 = .ok (.aload_n 1, 1) := by decide +kernel
theorem dX10_mayEnter_30 : decode cX10_mayEnter 30 = .ok (.invokevirtual 45, 3) := by decide +kernel
theorem dX10_mayEnter_33 : decode cX10_mayEnter 33 = .ok (.ifnonnull 7, 3) := by decide +kernel
theorem dX10_mayEnter_36 : decode cX10_mayEnter 36 = .ok (.iconst 1, 1) := by decide +kernel
theorem dX10_mayEnter_37 : decode cX10_mayEnter 37 = .ok (.goto 4, 3) := by decide +kernel
theorem dX10_mayEnter_40 : decode cX10_mayEnter 40 = .ok (.iconst 0, 1) := by decide +kernel
theorem dX10_mayEnter_41 : decode cX10_mayEnter 41 = .ok (.ireturn, 1) := by decide +kernel
theorem dX10_link_0 : decode cX10_link 0 = .ok (.aload_n 3, 1) := by decide +kernel
theorem dX10_link_1 : decode cX10_link 1 = .ok (.ifnull 8, 3) := by decide +kernel
theorem dX10_link_4 : decode cX10_link 4 = .ok (.aload_n 3, 1) := by decide +kernel
theorem dX10_link_5 : decode cX10_link 5 = .ok (.aload_n 2, 1) := by decide +kernel
theorem dX10_link_6 : decode cX10_link 6 = .ok (.putfield 68, 3) := by decide +kernel
theorem dX10_link_9 : decode cX10_link 9 = .ok (.aload_n 2, 1) := by decide +kernel
theorem dX10_link_10 : decode cX10_link 10 = .ok (.ifnull 11, 3) := by decide +kernel
theorem dX10_link_13 : decode cX10_link 13 = .ok (.aload_n 2, 1) := by decide +kernel
theorem dX10_link_14 : decode cX10_link 14 = .ok (.aload_n 3, 1) := by decide +kernel
theorem dX10_link_15 : decode cX10_link 15 = .ok (.putfield 42, 3) := by decide +kernel
theorem dX10_link_18 : decode cX10_link 18 = .ok (.goto 36, 3) := by decide +kernel
theorem dX10_link_21 : decode cX10_link 21 = .ok (.aload_n 1, 1) := by decide +kernel
theorem dX10_link_22 : decode cX10_link 22 = .ok (.getfield 55, 3) := by decide +kernel
theorem dX10_link_25 : decode cX10_link 25 = .ok (.ifnull 14, 3) := by decide +kernel
theorem dX10_link_28 : decode cX10_link 28 = .ok (.aload_n 1, 1) := by decide +kernel
theorem dX10_link_29 : decode cX10_link 29 = .ok (.getfield 55, 3) := by decide +kernel
theorem dX10_link_32 : decode cX10_link 32 = .ok (.aload_n 3, 1) := by decide +kernel
theorem dX10_link_33 : decode cX10_link 33 = .ok (.putfield 49, 3) := by decide +kernel
theorem dX10_link_36 : decode cX10_link 36 = .ok (.goto 18, 3) := by decide +kernel
theorem dX10_link_39 : decode cX10_link 39 = .ok (.aload_n 1, 1) := by decide +kernel
theorem dX10_link_40 : decode cX10_link 40 = .ok (.getfield 58, 3) := by decide +kernel
theorem dX10_link_43 : decode cX10_link 43 = .ok (.ifnull 11, 3) := by decide +kernel
theorem dX10_link_46 : decode cX10_link 46 = .ok (.aload_n 1, 1) := by decide +kernel
theorem dX10_link_47 : decode cX10_link 47 = .ok (.getfield 58, 3) := by decide +kernel
theorem dX10_link_50 : decode cX10_link 50 = .ok (.aload_n 3, 1) := by decide +kernel
theorem dX10_link_51 : decode cX10_link 51 = .ok (.putfield 52, 3) := by decide +kernel
theorem dX10_link_54 : decode cX10_link 54 = .ok (.return_, 1) := by decide +kernel
theorem dX10_placeBehind_0 : decode cX10_placeBehind 0 = .ok (.iconst 1, 1) := by decide +kernel
theorem dX10_placeBehind_1 : decode cX10_placeBehind 1 = .ok (.istore_n 2, 1) := by decide +kernel
theorem dX10_placeBehind_2 : decode cX10_placeBehind 2 = .ok (.aload_n 1, 1) := by decide +kernel
theorem dX10_placeBehind_3 : decode cX10_placeBehind 3 = .ok (.astore_n 3, 1) := by decide +kernel
theorem dX10_placeBehind_4 : decode cX10_placeBehind 4 = .ok (.aload_n 3, 1) := by decide +kernel
theorem dX10_placeBehind_5 : decode cX10_placeBehind 5 = .ok (.ifnull 14, 3) := by decide +kernel
theorem dX10_placeBehind_8 : decode cX10_placeBehind 8 = .ok (.iinc 2 1, 3) := by decide +kernel
theorem dX10_placeBehind_11 : decode cX10_placeBehind 11 = .ok (.aload_n 3, 1) := by decide +kernel
theorem dX10_placeBehind_12 : decode cX10_placeBehind 12 = .ok (.getfield 68, 3) := by decide +kernel
theorem dX10_placeBehind_15 : decode cX10_placeBehind 15 = .ok (.astore_n 3, 1) := by decide +kernel
theorem dX10_placeBehind_16 : decode cX10_placeBehind 16 = .ok (.goto (-12), 3) := by decide +kernel
theorem dX10_placeBehind_19 : decode cX10_placeBehind 19 = .ok (.iload_n 2, 1) := by decide +kernel
theorem dX10_placeBehind_20 : decode cX10_placeBehind 20 = .ok (.ireturn, 1) := by decide +kernel
theorem dX10_topOf_0 : decode cX10_topOf 0 = .ok (.aload_n 1, 1) := by decide +kernel
theorem dX10_topOf_1 : decode cX10_topOf 1 = .ok (.astore_n 2, 1) := by decide +kernel
theorem dX10_topOf_2 : decode cX10_topOf 2 = .ok (.aload_n 1, 1) := by decide +kernel
theorem dX10_topOf_3 : decode cX10_topOf 3 = .ok (.astore_n 3, 1) := by decide +kernel
theorem dX10_topOf_4 : decode cX10_topOf 4 = .ok (.aload_n 3, 1) := by decide +kernel
theorem dX10_topOf_5 : decode cX10_topOf 5 = .ok (.ifnull 13, 3) := by decide +kernel
theorem dX10_topOf_8 : decode cX10_topOf 8 = .ok (.aload_n 3, 1) := by decide +kernel
theorem dX10_topOf_9 : decode cX10_topOf 9 = .ok (.astore_n 2, 1) := by decide +kernel
theorem dX10_topOf_10 : decode cX10_topOf 10 = .ok (.aload_n 3, 1) := by decide +kernel
theorem dX10_topOf_11 : decode cX10_topOf 11 = .ok (.getfield 55, 3) := by decide +kernel
theorem dX10_topOf_14 : decode cX10_topOf 14 = .ok (.astore_n 3, 1) := by decide +kernel
theorem dX10_topOf_15 : decode cX10_topOf 15 = .ok (.goto (-11), 3) := by decide +kernel
theorem dX10_topOf_18 : decode cX10_topOf 18 = .ok (.aload_n 2, 1) := by decide +kernel
theorem dX10_topOf_19 : decode cX10_topOf 19 = .ok (.areturn, 1) := by decide +kernel
theorem dX10_settle_0 : decode cX10_settle 0 = .ok (.aload_n 1, 1) := by decide +kernel
theorem dX10_settle_1 : decode cX10_settle 1 = .ok (.aload_n 1, 1) := by decide +kernel
theorem dX10_settle_2 : decode cX10_settle 2 = .ok (.getfield 68, 3) := by decide +kernel
theorem dX10_settle_5 : decode cX10_settle 5 = .ok (.ifnonnull 7, 3) := by decide +kernel
theorem dX10_settle_8 : decode cX10_settle 8 = .ok (.iconst 1, 1) := by decide +kernel
theorem dX10_settle_9 : decode cX10_settle 9 = .ok (.goto 11, 3) := by decide +kernel
theorem dX10_settle_12 : decode cX10_settle 12 = .ok (.aload_n 0, 1) := by decide +kernel
theorem dX10_settle_13 : decode cX10_settle 13 = .ok (.aload_n 1, 1) := by decide +kernel
theorem dX10_settle_14 : decode cX10_settle 14 = .ok (.getfield 68, 3) := by decide +kernel
theorem dX10_settle_17 : decode cX10_settle 17 = .ok (.invokevirtual 91, 3) := by decide +kernel
theorem dX10_settle_20 : decode cX10_settle 20 = .ok (.putfield 95, 3) := by decide +kernel
theorem dX10_settle_23 : decode cX10_settle 23 = .ok (.iconst 0, 1) := by decide +kernel
theorem dX10_settle_24 : decode cX10_settle 24 = .ok (.istore_n 2, 1) := by decide +kernel
theorem dX10_settle_25 : decode cX10_settle 25 = .ok (.aload_n 0, 1) := by decide +kernel
theorem dX10_settle_26 : decode cX10_settle 26 = .ok (.aload_n 1, 1) := by decide +kernel
theorem dX10_settle_27 : decode cX10_settle 27 = .ok (.invokevirtual 98, 3) := by decide +kernel
theorem dX10_settle_30 : decode cX10_settle 30 = .ok (.astore_n 3, 1) := by decide +kernel
theorem dX10_settle_31 : decode cX10_settle 31 = .ok (.aload_n 1, 1) := by decide +kernel
theorem dX10_settle_32 : decode cX10_settle 32 = .ok (.aload_n 3, 1) := by decide +kernel
theorem dX10_settle_33 : decode cX10_settle 33 = .ok (.getfield 58, 3) := by decide +kernel
theorem dX10_settle_36 : decode cX10_settle 36 = .ok (.putfield 101, 3) := by decide +kernel
theorem dX10_settle_39 : decode cX10_settle 39 = .ok (.aload_n 3, 1) := by decide +kernel
theorem dX10_settle_40 : decode cX10_settle 40 = .ok (.getfield 58, 3) := by decide +kernel
theorem dX10_settle_43 : decode cX10_settle 43 = .ok (.astore 4, 2) := by decide +kernel
theorem dX10_settle_45 : decode cX10_settle 45 = .ok (.aload 4, 2) := by decide +kernel
theorem dX10_settle_47 : decode cX10_settle 47 = .ok (.ifnull 22, 3) := by decide +kernel
theorem dX10_settle_50 : decode cX10_settle 50 = .ok (.iinc 2 1, 3) := by decide +kernel
theorem dX10_settle_53 : decode cX10_settle 53 = .ok (.aload_n 0, 1) := by decide +kernel
theorem dX10_settle_54 : decode cX10_settle 54 = .ok (.aload 4, 2) := by decide +kernel
theorem dX10_settle_56 : decode cX10_settle 56 = .ok (.invokevirtual 98, 3) := by decide +kernel
theorem dX10_settle_59 : decode cX10_settle 59 = .ok (.astore_n 3, 1) := by decide +kernel
theorem dX10_settle_60 : decode cX10_settle 60 = .ok (.aload_n 3, 1) := by decide +kernel
theorem dX10_settle_61 : decode cX10_settle 61 = .ok (.getfield 58, 3) := by decide +kernel
theorem dX10_settle_64 : decode cX10_settle 64 = .ok (.astore 4, 2) := by decide +kernel
theorem dX10_settle_66 : decode cX10_settle 66 = .ok (.goto (-21), 3) := by decide +kernel
theorem dX10_settle_69 : decode cX10_settle 69 = .ok (.aload_n 1, 1) := by decide +kernel
theorem dX10_settle_70 : decode cX10_settle 70 = .ok (.getfield 104, 3) := by decide +kernel
theorem dX10_settle_73 : decode cX10_settle 73 = .ok (.iload_n 2, 1) := by decide +kernel
theorem dX10_settle_74 : decode cX10_settle 74 = .ok (.putfield 108, 3) := by decide +kernel
theorem dX10_settle_77 : decode cX10_settle 77 = .ok (.aload_n 3, 1) := by decide +kernel
theorem dX10_settle_78 : decode cX10_settle 78 = .ok (.aload_n 0, 1) := by decide +kernel
theorem dX10_settle_79 : decode cX10_settle 79 = .ok (.getfield 14, 3) := by decide +kernel
theorem dX10_settle_82 : decode cX10_settle 82 = .ok (.if_acmp .ne 21, 3) := by decide +kernel
theorem dX10_settle_85 : decode cX10_settle 85 = .ok (.aload_n 0, 1) := by decide +kernel
theorem dX10_settle_86 : decode cX10_settle 86 = .ok (.dup, 1) := by decide +kernel
theorem dX10_settle_87 : decode cX10_settle 87 = .ok (.getfield 24, 3) := by decide +kernel
theorem dX10_settle_90 : decode cX10_settle 90 = .ok (.iconst 1, 1) := by decide +kernel
theorem dX10_settle_91 : decode cX10_settle 91 = .ok (.aload_n 1, 1) := by decide +kernel
theorem dX10_settle_92 : decode cX10_settle 92 = .ok (.getfield 31, 3) := by decide +kernel
theorem dX10_settle_95 : decode cX10_settle 95 = .ok (.ishl, 1) := by decide +kernel
theorem dX10_settle_96 : decode cX10_settle 96 = .ok (.ior, 1) := by decide +kernel
theorem dX10_settle_97 : decode cX10_settle 97 = .ok (.putfield 24, 3) := by decide +kernel
theorem dX10_settle_100 : decode cX10_settle 100 = .ok (.goto 10, 3) := by decide +kernel
theorem dX10_settle_103 : decode cX10_settle 103 = .ok (.aload_n 1, 1) := by decide +kernel
theorem dX10_settle_104 : decode cX10_settle 104 = .ok (.getfield 113, 3) := by decide +kernel
theorem dX10_settle_107 : decode cX10_settle 107 = .ok (.invokevirtual 117, 3) := by decide +kernel
theorem dX10_settle_110 : decode cX10_settle 110 = .ok (.return_, 1) := by decide +kernel
theorem dX10_nextInTree_0 : decode cX10_nextInTree 0 = .ok (.aload_n 1, 1) := by decide +kernel
theorem dX10_nextInTree_1 : decode cX10_nextInTree 1 = .ok (.getfield 49, 3) := by decide +kernel
theorem dX10_nextInTree_4 : decode cX10_nextInTree 4 = .ok (.ifnull 8, 3) := by decide +kernel
theorem dX10_nextInTree_7 : decode cX10_nextInTree 7 = .ok (.aload_n 1, 1) := by decide +kernel
theorem dX10_nextInTree_8 : decode cX10_nextInTree 8 = .ok (.getfield 49, 3) := by decide +kernel
theorem dX10_nextInTree_11 : decode cX10_nextInTree 11 = .ok (.areturn, 1) := by decide +kernel
theorem dX10_nextInTree_12 : decode cX10_nextInTree 12 = .ok (.aload_n 1, 1) := by decide +kernel
theorem dX10_nextInTree_13 : decode cX10_nextInTree 13 = .ok (.astore_n 2, 1) := by decide +kernel
theorem dX10_nextInTree_14 : decode cX10_nextInTree 14 = .ok (.aload_n 2, 1) := by decide +kernel
theorem dX10_nextInTree_15 : decode cX10_nextInTree 15 = .ok (.ifnull 23, 3) := by decide +kernel
theorem dX10_nextInTree_18 : decode cX10_nextInTree 18 = .ok (.aload_n 2, 1) := by decide +kernel
theorem dX10_nextInTree_19 : decode cX10_nextInTree 19 = .ok (.getfield 42, 3) := by decide +kernel
theorem dX10_nextInTree_22 : decode cX10_nextInTree 22 = .ok (.ifnull 8, 3) := by decide +kernel
theorem dX10_nextInTree_25 : decode cX10_nextInTree 25 = .ok (.aload_n 2, 1) := by decide +kernel
theorem dX10_nextInTree_26 : decode cX10_nextInTree 26 = .ok (.getfield 42, 3) := by decide +kernel
theorem dX10_nextInTree_29 : decode cX10_nextInTree 29 = .ok (.areturn, 1) := by decide +kernel
theorem dX10_nextInTree_30 : decode cX10_nextInTree 30 = .ok (.aload_n 2, 1) := by decide +kernel
theorem dX10_nextInTree_31 : decode cX10_nextInTree 31 = .ok (.getfield 55, 3) := by decide +kernel
theorem dX10_nextInTree_34 : decode cX10_nextInTree 34 = .ok (.astore_n 2, 1) := by decide +kernel
theorem dX10_nextInTree_35 : decode cX10_nextInTree 35 = .ok (.goto (-21), 3) := by decide +kernel
theorem dX10_nextInTree_38 : decode cX10_nextInTree 38 = .ok (.aconst_null, 1) := by decide +kernel
theorem dX10_nextInTree_39 : decode cX10_nextInTree 39 = .ok (.areturn, 1) := by decide +kernel
theorem dX10_findShownParent_0 : decode cX10_findShownParent 0 = .ok (.aload_n 1, 1) := by decide +kernel
theorem dX10_findShownParent_1 : decode cX10_findShownParent 1 = .ok (.getfield 55, 3) := by decide +kernel
theorem dX10_findShownParent_4 : decode cX10_findShownParent 4 = .ok (.ifnull 13, 3) := by decide +kernel
theorem dX10_findShownParent_7 : decode cX10_findShownParent 7 = .ok (.aload_n 1, 1) := by decide +kernel
theorem dX10_findShownParent_8 : decode cX10_findShownParent 8 = .ok (.getfield 55, 3) := by decide +kernel
theorem dX10_findShownParent_11 : decode cX10_findShownParent 11 = .ok (.getfield 38, 3) := by decide +kernel
theorem dX10_findShownParent_14 : decode cX10_findShownParent 14 = .ok (.ifCond .ne 8, 3) := by decide +kernel
theorem dX10_findShownParent_17 : decode cX10_findShownParent 17 = .ok (.aload_n 1, 1) := by decide +kernel
theorem dX10_findShownParent_18 : decode cX10_findShownParent 18 = .ok (.invokevirtual 45, 3) := by decide +kernel
theorem dX10_findShownParent_21 : decode cX10_findShownParent 21 = .ok (.areturn, 1) := by decide +kernel
theorem dX10_findShownParent_22 : decode cX10_findShownParent 22 = .ok (.aload_n 1, 1) := by decide +kernel
theorem dX10_findShownParent_23 : decode cX10_findShownParent 23 = .ok (.getfield 55, 3) := by decide +kernel
theorem dX10_findShownParent_26 : decode cX10_findShownParent 26 = .ok (.getfield 52, 3) := by decide +kernel
theorem dX10_findShownParent_29 : decode cX10_findShownParent 29 = .ok (.astore_n 2, 1) := by decide +kernel
theorem dX10_findShownParent_30 : decode cX10_findShownParent 30 = .ok (.aload_n 2, 1) := by decide +kernel
theorem dX10_findShownParent_31 : decode cX10_findShownParent 31 = .ok (.ifnull 34, 3) := by decide +kernel
theorem dX10_findShownParent_34 : decode cX10_findShownParent 34 = .ok (.aload_n 2, 1) := by decide +kernel
theorem dX10_findShownParent_35 : decode cX10_findShownParent 35 = .ok (.getfield 122, 3) := by decide +kernel
theorem dX10_findShownParent_38 : decode cX10_findShownParent 38 = .ok (.bipush 7, 2) := by decide +kernel
theorem dX10_findShownParent_40 : decode cX10_findShownParent 40 = .ok (.if_icmp .ne 16, 3) := by decide +kernel
theorem dX10_findShownParent_43 : decode cX10_findShownParent 43 = .ok (.aload_n 2, 1) := by decide +kernel
theorem dX10_findShownParent_44 : decode cX10_findShownParent 44 = .ok (.getfield 125, 3) := by decide +kernel
theorem dX10_findShownParent_47 : decode cX10_findShownParent 47 = .ok (.aload_n 1, 1) := by decide +kernel
theorem dX10_findShownParent_48 : decode cX10_findShownParent 48 = .ok (.getfield 125, 3) := by decide +kernel
theorem dX10_findShownParent_51 : decode cX10_findShownParent 51 = .ok (.if_icmp .ne 5, 3) := by decide +kernel
theorem dX10_findShownParent_54 : decode cX10_findShownParent 54 = .ok (.aload_n 2, 1) := by decide +kernel
theorem dX10_findShownParent_55 : decode cX10_findShownParent 55 = .ok (.areturn, 1) := by decide +kernel
theorem dX10_findShownParent_56 : decode cX10_findShownParent 56 = .ok (.aload_n 0, 1) := by decide +kernel
theorem dX10_findShownParent_57 : decode cX10_findShownParent 57 = .ok (.aload_n 2, 1) := by decide +kernel
theorem dX10_findShownParent_58 : decode cX10_findShownParent 58 = .ok (.invokevirtual 128, 3) := by decide +kernel
theorem dX10_findShownParent_61 : decode cX10_findShownParent 61 = .ok (.astore_n 2, 1) := by decide +kernel
theorem dX10_findShownParent_62 : decode cX10_findShownParent 62 = .ok (.goto (-32), 3) := by decide +kernel
theorem dX10_findShownParent_65 : decode cX10_findShownParent 65 = .ok (.aload_n 1, 1) := by decide +kernel
theorem dX10_findShownParent_66 : decode cX10_findShownParent 66 = .ok (.getfield 55, 3) := by decide +kernel
theorem dX10_findShownParent_69 : decode cX10_findShownParent 69 = .ok (.areturn, 1) := by decide +kernel
theorem dX10_lineUpShown_0 : decode cX10_lineUpShown 0 = .ok (.aload_n 1, 1) := by decide +kernel
theorem dX10_lineUpShown_1 : decode cX10_lineUpShown 1 = .ok (.astore 4, 2) := by decide +kernel
theorem dX10_lineUpShown_3 : decode cX10_lineUpShown 3 = .ok (.aload_n 2, 1) := by decide +kernel
theorem dX10_lineUpShown_4 : decode cX10_lineUpShown 4 = .ok (.astore 5, 2) := by decide +kernel
theorem dX10_lineUpShown_6 : decode cX10_lineUpShown 6 = .ok (.aload 5, 2) := by decide +kernel
theorem dX10_lineUpShown_8 : decode cX10_lineUpShown 8 = .ok (.ifnull 43, 3) := by decide +kernel
theorem dX10_lineUpShown_11 : decode cX10_lineUpShown 11 = .ok (.aload 5, 2) := by decide +kernel
theorem dX10_lineUpShown_13 : decode cX10_lineUpShown 13 = .ok (.getfield 82, 3) := by decide +kernel
theorem dX10_lineUpShown_16 : decode cX10_lineUpShown 16 = .ok (.aload_n 3, 1) := by decide +kernel
theorem dX10_lineUpShown_17 : decode cX10_lineUpShown 17 = .ok (.if_acmp .ne 24, 3) := by decide +kernel
theorem dX10_lineUpShown_20 : decode cX10_lineUpShown 20 = .ok (.aload 5, 2) := by decide +kernel
theorem dX10_lineUpShown_22 : decode cX10_lineUpShown 22 = .ok (.aload 4, 2) := by decide +kernel
theorem dX10_lineUpShown_24 : decode cX10_lineUpShown 24 = .ok (.getfield 85, 3) := by decide +kernel
theorem dX10_lineUpShown_27 : decode cX10_lineUpShown 27 = .ok (.putfield 85, 3) := by decide +kernel
theorem dX10_lineUpShown_30 : decode cX10_lineUpShown 30 = .ok (.aload 4, 2) := by decide +kernel
theorem dX10_lineUpShown_32 : decode cX10_lineUpShown 32 = .ok (.aload 5, 2) := by decide +kernel
theorem dX10_lineUpShown_34 : decode cX10_lineUpShown 34 = .ok (.putfield 85, 3) := by decide +kernel
theorem dX10_lineUpShown_37 : decode cX10_lineUpShown 37 = .ok (.aload 5, 2) := by decide +kernel
theorem dX10_lineUpShown_39 : decode cX10_lineUpShown 39 = .ok (.astore 4, 2) := by decide +kernel
theorem dX10_lineUpShown_41 : decode cX10_lineUpShown 41 = .ok (.aload 5, 2) := by decide +kernel
theorem dX10_lineUpShown_43 : decode cX10_lineUpShown 43 = .ok (.getfield 42, 3) := by decide +kernel
theorem dX10_lineUpShown_46 : decode cX10_lineUpShown 46 = .ok (.astore 5, 2) := by decide +kernel
theorem dX10_lineUpShown_48 : decode cX10_lineUpShown 48 = .ok (.goto (-42), 3) := by decide +kernel
theorem dX10_lineUpShown_51 : decode cX10_lineUpShown 51 = .ok (.aload 4, 2) := by decide +kernel
theorem dX10_lineUpShown_53 : decode cX10_lineUpShown 53 = .ok (.areturn, 1) := by decide +kernel
theorem dX10_lineUp_0 : decode cX10_lineUp 0 = .ok (.aload_n 1, 1) := by decide +kernel
theorem dX10_lineUp_1 : decode cX10_lineUp 1 = .ok (.astore_n 2, 1) := by decide +kernel
theorem dX10_lineUp_2 : decode cX10_lineUp 2 = .ok (.aload_n 1, 1) := by decide +kernel
theorem dX10_lineUp_3 : decode cX10_lineUp 3 = .ok (.getfield 101, 3) := by decide +kernel
theorem dX10_lineUp_6 : decode cX10_lineUp 6 = .ok (.ifnull 26, 3) := by decide +kernel
theorem dX10_lineUp_9 : decode cX10_lineUp 9 = .ok (.aload_n 1, 1) := by decide +kernel
theorem dX10_lineUp_10 : decode cX10_lineUp 10 = .ok (.getfield 122, 3) := by decide +kernel
theorem dX10_lineUp_13 : decode cX10_lineUp 13 = .ok (.bipush 7, 2) := by decide +kernel
theorem dX10_lineUp_15 : decode cX10_lineUp 15 = .ok (.if_icmp .ne 17, 3) := by decide +kernel
theorem dX10_lineUp_18 : decode cX10_lineUp 18 = .ok (.aload_n 0, 1) := by decide +kernel
theorem dX10_lineUp_19 : decode cX10_lineUp 19 = .ok (.aload_n 2, 1) := by decide +kernel
theorem dX10_lineUp_20 : decode cX10_lineUp 20 = .ok (.aload_n 1, 1) := by decide +kernel
theorem dX10_lineUp_21 : decode cX10_lineUp 21 = .ok (.getfield 101, 3) := by decide +kernel
theorem dX10_lineUp_24 : decode cX10_lineUp 24 = .ok (.getfield 49, 3) := by decide +kernel
theorem dX10_lineUp_27 : decode cX10_lineUp 27 = .ok (.aload_n 1, 1) := by decide +kernel
theorem dX10_lineUp_28 : decode cX10_lineUp 28 = .ok (.invokevirtual 131, 3) := by decide +kernel
theorem dX10_lineUp_31 : decode cX10_lineUp 31 = .ok (.astore_n 2, 1) := by decide +kernel
theorem dX10_lineUp_32 : decode cX10_lineUp 32 = .ok (.aload_n 0, 1) := by decide +kernel
theorem dX10_lineUp_33 : decode cX10_lineUp 33 = .ok (.aload_n 2, 1) := by decide +kernel
theorem dX10_lineUp_34 : decode cX10_lineUp 34 = .ok (.aload_n 1, 1) := by decide +kernel
theorem dX10_lineUp_35 : decode cX10_lineUp 35 = .ok (.getfield 52, 3) := by decide +kernel
theorem dX10_lineUp_38 : decode cX10_lineUp 38 = .ok (.aload_n 1, 1) := by decide +kernel
theorem dX10_lineUp_39 : decode cX10_lineUp 39 = .ok (.invokevirtual 131, 3) := by decide +kernel
theorem dX10_lineUp_42 : decode cX10_lineUp 42 = .ok (.astore_n 2, 1) := by decide +kernel
theorem dX10_lineUp_43 : decode cX10_lineUp 43 = .ok (.aload_n 0, 1) := by decide +kernel
theorem dX10_lineUp_44 : decode cX10_lineUp 44 = .ok (.aload_n 2, 1) := by decide +kernel
theorem dX10_lineUp_45 : decode cX10_lineUp 45 = .ok (.aload_n 1, 1) := by decide +kernel
theorem dX10_lineUp_46 : decode cX10_lineUp 46 = .ok (.getfield 49, 3) := by decide +kernel
theorem dX10_lineUp_49 : decode cX10_lineUp 49 = .ok (.aload_n 1, 1) := by decide +kernel
theorem dX10_lineUp_50 : decode cX10_lineUp 50 = .ok (.invokevirtual 131, 3) := by decide +kernel
theorem dX10_lineUp_53 : decode cX10_lineUp 53 = .ok (.pop, 1) := by decide +kernel
theorem dX10_lineUp_54 : decode cX10_lineUp 54 = .ok (.return_, 1) := by decide +kernel
theorem dX10_layOut_0 : decode cX10_layOut 0 = .ok (.aload_n 0, 1) := by decide +kernel
theorem dX10_layOut_1 : decode cX10_layOut 1 = .ok (.dup, 1) := by decide +kernel
theorem dX10_layOut_2 : decode cX10_layOut 2 = .ok (.getfield 71, 3) := by decide +kernel
theorem dX10_layOut_5 : decode cX10_layOut 5 = .ok (.iconst 1, 1) := by decide +kernel
theorem dX10_layOut_6 : decode cX10_layOut 6 = .ok (.iadd, 1) := by decide +kernel
theorem dX10_layOut_7 : decode cX10_layOut 7 = .ok (.putfield 71, 3) := by decide +kernel
theorem dX10_layOut_10 : decode cX10_layOut 10 = .ok (.aload_n 0, 1) := by decide +kernel
theorem dX10_layOut_11 : decode cX10_layOut 11 = .ok (.iconst 0, 1) := by decide +kernel
theorem dX10_layOut_12 : decode cX10_layOut 12 = .ok (.putfield 24, 3) := by decide +kernel
theorem dX10_layOut_15 : decode cX10_layOut 15 = .ok (.iconst 0, 1) := by decide +kernel
theorem dX10_layOut_16 : decode cX10_layOut 16 = .ok (.istore_n 1, 1) := by decide +kernel
theorem dX10_layOut_17 : decode cX10_layOut 17 = .ok (.iload_n 1, 1) := by decide +kernel
theorem dX10_layOut_18 : decode cX10_layOut 18 = .ok (.aload_n 0, 1) := by decide +kernel
theorem dX10_layOut_19 : decode cX10_layOut 19 = .ok (.getfield 20, 3) := by decide +kernel
theorem dX10_layOut_22 : decode cX10_layOut 22 = .ok (.if_icmp .ge 24, 3) := by decide +kernel
theorem dX10_layOut_25 : decode cX10_layOut 25 = .ok (.aload_n 0, 1) := by decide +kernel
theorem dX10_layOut_26 : decode cX10_layOut 26 = .ok (.iload_n 1, 1) := by decide +kernel
theorem dX10_layOut_27 : decode cX10_layOut 27 = .ok (.invokevirtual 34, 3) := by decide +kernel
theorem dX10_layOut_30 : decode cX10_layOut 30 = .ok (.astore_n 2, 1) := by decide +kernel
theorem dX10_layOut_31 : decode cX10_layOut 31 = .ok (.aload_n 2, 1) := by decide +kernel
theorem dX10_layOut_32 : decode cX10_layOut 32 = .ok (.ifnull 8, 3) := by decide +kernel
theorem dX10_layOut_35 : decode cX10_layOut 35 = .ok (.aload_n 0, 1) := by decide +kernel
theorem dX10_layOut_36 : decode cX10_layOut 36 = .ok (.aload_n 2, 1) := by decide +kernel
theorem dX10_layOut_37 : decode cX10_layOut 37 = .ok (.invokevirtual 74, 3) := by decide +kernel
theorem dX10_layOut_40 : decode cX10_layOut 40 = .ok (.iinc 1 1, 3) := by decide +kernel
theorem dX10_layOut_43 : decode cX10_layOut 43 = .ok (.goto (-26), 3) := by decide +kernel
theorem dX10_layOut_46 : decode cX10_layOut 46 = .ok (.iconst 0, 1) := by decide +kernel
theorem dX10_layOut_47 : decode cX10_layOut 47 = .ok (.istore_n 1, 1) := by decide +kernel
theorem dX10_layOut_48 : decode cX10_layOut 48 = .ok (.iload_n 1, 1) := by decide +kernel
theorem dX10_layOut_49 : decode cX10_layOut 49 = .ok (.aload_n 0, 1) := by decide +kernel
theorem dX10_layOut_50 : decode cX10_layOut 50 = .ok (.getfield 20, 3) := by decide +kernel
theorem dX10_layOut_53 : decode cX10_layOut 53 = .ok (.if_icmp .ge 28, 3) := by decide +kernel
theorem dX10_layOut_56 : decode cX10_layOut 56 = .ok (.aload_n 0, 1) := by decide +kernel
theorem dX10_layOut_57 : decode cX10_layOut 57 = .ok (.iload_n 1, 1) := by decide +kernel
theorem dX10_layOut_58 : decode cX10_layOut 58 = .ok (.invokevirtual 34, 3) := by decide +kernel
theorem dX10_layOut_61 : decode cX10_layOut 61 = .ok (.astore_n 2, 1) := by decide +kernel
theorem dX10_layOut_62 : decode cX10_layOut 62 = .ok (.aload_n 2, 1) := by decide +kernel
theorem dX10_layOut_63 : decode cX10_layOut 63 = .ok (.ifnull 12, 3) := by decide +kernel
theorem dX10_layOut_66 : decode cX10_layOut 66 = .ok (.aload_n 2, 1) := by decide +kernel
theorem dX10_layOut_67 : decode cX10_layOut 67 = .ok (.aload_n 0, 1) := by decide +kernel
theorem dX10_layOut_68 : decode cX10_layOut 68 = .ok (.aload_n 2, 1) := by decide +kernel
theorem dX10_layOut_69 : decode cX10_layOut 69 = .ok (.invokevirtual 78, 3) := by decide +kernel
theorem dX10_layOut_72 : decode cX10_layOut 72 = .ok (.putfield 82, 3) := by decide +kernel
theorem dX10_layOut_75 : decode cX10_layOut 75 = .ok (.iinc 1 1, 3) := by decide +kernel
theorem dX10_layOut_78 : decode cX10_layOut 78 = .ok (.goto (-30), 3) := by decide +kernel
theorem dX10_layOut_81 : decode cX10_layOut 81 = .ok (.aload_n 0, 1) := by decide +kernel
theorem dX10_layOut_82 : decode cX10_layOut 82 = .ok (.getfield 14, 3) := by decide +kernel
theorem dX10_layOut_85 : decode cX10_layOut 85 = .ok (.aconst_null, 1) := by decide +kernel
theorem dX10_layOut_86 : decode cX10_layOut 86 = .ok (.putfield 85, 3) := by decide +kernel
theorem dX10_layOut_89 : decode cX10_layOut 89 = .ok (.aload_n 0, 1) := by decide +kernel
theorem dX10_layOut_90 : decode cX10_layOut 90 = .ok (.getfield 14, 3) := by decide +kernel
theorem dX10_layOut_93 : decode cX10_layOut 93 = .ok (.astore_n 1, 1) := by decide +kernel
theorem dX10_layOut_94 : decode cX10_layOut 94 = .ok (.iconst 0, 1) := by decide +kernel
theorem dX10_layOut_95 : decode cX10_layOut 95 = .ok (.istore_n 2, 1) := by decide +kernel
theorem dX10_layOut_96 : decode cX10_layOut 96 = .ok (.iload_n 2, 1) := by decide +kernel
theorem dX10_layOut_97 : decode cX10_layOut 97 = .ok (.bipush 30, 2) := by decide +kernel
theorem dX10_layOut_99 : decode cX10_layOut 99 = .ok (.if_icmp .ge 23, 3) := by decide +kernel
theorem dX10_layOut_102 : decode cX10_layOut 102 = .ok (.aload_n 1, 1) := by decide +kernel
theorem dX10_layOut_103 : decode cX10_layOut 103 = .ok (.ifnull 19, 3) := by decide +kernel
theorem dX10_layOut_106 : decode cX10_layOut 106 = .ok (.aload_n 0, 1) := by decide +kernel
theorem dX10_layOut_107 : decode cX10_layOut 107 = .ok (.aload_n 1, 1) := by decide +kernel
theorem dX10_layOut_108 : decode cX10_layOut 108 = .ok (.invokevirtual 88, 3) := by decide +kernel
theorem dX10_layOut_111 : decode cX10_layOut 111 = .ok (.aload_n 1, 1) := by decide +kernel
theorem dX10_layOut_112 : decode cX10_layOut 112 = .ok (.getfield 85, 3) := by decide +kernel
theorem dX10_layOut_115 : decode cX10_layOut 115 = .ok (.astore_n 1, 1) := by decide +kernel
theorem dX10_layOut_116 : decode cX10_layOut 116 = .ok (.iinc 2 1, 3) := by decide +kernel
theorem dX10_layOut_119 : decode cX10_layOut 119 = .ok (.goto (-23), 3) := by decide +kernel
theorem dX10_layOut_122 : decode cX10_layOut 122 = .ok (.return_, 1) := by decide +kernel
theorem dX10_insert_0 : decode cX10_insert 0 = .ok (.aconst_null, 1) := by decide +kernel
theorem dX10_insert_1 : decode cX10_insert 1 = .ok (.astore 5, 2) := by decide +kernel
theorem dX10_insert_3 : decode cX10_insert 3 = .ok (.aload_n 2, 1) := by decide +kernel
theorem dX10_insert_4 : decode cX10_insert 4 = .ok (.ifnull 10, 3) := by decide +kernel
theorem dX10_insert_7 : decode cX10_insert 7 = .ok (.aload_n 2, 1) := by decide +kernel
theorem dX10_insert_8 : decode cX10_insert 8 = .ok (.getfield 49, 3) := by decide +kernel
theorem dX10_insert_11 : decode cX10_insert 11 = .ok (.goto 15, 3) := by decide +kernel
theorem dX10_insert_14 : decode cX10_insert 14 = .ok (.aload_n 3, 1) := by decide +kernel
theorem dX10_insert_15 : decode cX10_insert 15 = .ok (.ifnull 10, 3) := by decide +kernel
theorem dX10_insert_18 : decode cX10_insert 18 = .ok (.aload_n 3, 1) := by decide +kernel
theorem dX10_insert_19 : decode cX10_insert 19 = .ok (.getfield 52, 3) := by decide +kernel
theorem dX10_insert_22 : decode cX10_insert 22 = .ok (.goto 4, 3) := by decide +kernel
theorem dX10_insert_25 : decode cX10_insert 25 = .ok (.aconst_null, 1) := by decide +kernel
theorem dX10_insert_26 : decode cX10_insert 26 = .ok (.astore 6, 2) := by decide +kernel
theorem dX10_insert_28 : decode cX10_insert 28 = .ok (.iconst 0, 1) := by decide +kernel
theorem dX10_insert_29 : decode cX10_insert 29 = .ok (.istore 7, 2) := by decide +kernel
theorem dX10_insert_31 : decode cX10_insert 31 = .ok (.iload 7, 2) := by decide +kernel
theorem dX10_insert_33 : decode cX10_insert 33 = .ok (.iload 4, 2) := by decide +kernel
theorem dX10_insert_35 : decode cX10_insert 35 = .ok (.if_icmp .ge 25, 3) := by decide +kernel
theorem dX10_insert_38 : decode cX10_insert 38 = .ok (.aload 6, 2) := by decide +kernel
theorem dX10_insert_40 : decode cX10_insert 40 = .ok (.ifnull 20, 3) := by decide +kernel
theorem dX10_insert_43 : decode cX10_insert 43 = .ok (.aload 6, 2) := by decide +kernel
theorem dX10_insert_45 : decode cX10_insert 45 = .ok (.astore 5, 2) := by decide +kernel
theorem dX10_insert_47 : decode cX10_insert 47 = .ok (.aload 6, 2) := by decide +kernel
theorem dX10_insert_49 : decode cX10_insert 49 = .ok (.getfield 42, 3) := by decide +kernel
theorem dX10_insert_52 : decode cX10_insert 52 = .ok (.astore 6, 2) := by decide +kernel
theorem dX10_insert_54 : decode cX10_insert 54 = .ok (.iinc 7 1, 3) := by decide +kernel
theorem dX10_insert_57 : decode cX10_insert 57 = .ok (.goto (-26), 3) := by decide +kernel
theorem dX10_insert_60 : decode cX10_insert 60 = .ok (.aload_n 1, 1) := by decide +kernel
theorem dX10_insert_61 : decode cX10_insert 61 = .ok (.aload_n 2, 1) := by decide +kernel
theorem dX10_insert_62 : decode cX10_insert 62 = .ok (.putfield 55, 3) := by decide +kernel
theorem dX10_insert_65 : decode cX10_insert 65 = .ok (.aload_n 1, 1) := by decide +kernel
theorem dX10_insert_66 : decode cX10_insert 66 = .ok (.aload_n 3, 1) := by decide +kernel
theorem dX10_insert_67 : decode cX10_insert 67 = .ok (.putfield 58, 3) := by decide +kernel
theorem dX10_insert_70 : decode cX10_insert 70 = .ok (.aload_n 0, 1) := by decide +kernel
theorem dX10_insert_71 : decode cX10_insert 71 = .ok (.aload_n 1, 1) := by decide +kernel
theorem dX10_insert_72 : decode cX10_insert 72 = .ok (.aload 5, 2) := by decide +kernel
theorem dX10_insert_74 : decode cX10_insert 74 = .ok (.aload_n 1, 1) := by decide +kernel
theorem dX10_insert_75 : decode cX10_insert 75 = .ok (.invokevirtual 61, 3) := by decide +kernel
theorem dX10_insert_78 : decode cX10_insert 78 = .ok (.aload_n 0, 1) := by decide +kernel
theorem dX10_insert_79 : decode cX10_insert 79 = .ok (.aload_n 1, 1) := by decide +kernel
theorem dX10_insert_80 : decode cX10_insert 80 = .ok (.aload_n 1, 1) := by decide +kernel
theorem dX10_insert_81 : decode cX10_insert 81 = .ok (.aload 6, 2) := by decide +kernel
theorem dX10_insert_83 : decode cX10_insert 83 = .ok (.invokevirtual 61, 3) := by decide +kernel
theorem dX10_insert_86 : decode cX10_insert 86 = .ok (.aload_n 0, 1) := by decide +kernel
theorem dX10_insert_87 : decode cX10_insert 87 = .ok (.invokevirtual 65, 3) := by decide +kernel
theorem dX10_insert_90 : decode cX10_insert 90 = .ok (.return_, 1) := by decide +kernel
theorem dX10_remove_0 : decode cX10_remove 0 = .ok (.aload_n 0, 1) := by decide +kernel
theorem dX10_remove_1 : decode cX10_remove 1 = .ok (.aload_n 1, 1) := by decide +kernel
theorem dX10_remove_2 : decode cX10_remove 2 = .ok (.aload_n 1, 1) := by decide +kernel
theorem dX10_remove_3 : decode cX10_remove 3 = .ok (.getfield 68, 3) := by decide +kernel
theorem dX10_remove_6 : decode cX10_remove 6 = .ok (.aload_n 1, 1) := by decide +kernel
theorem dX10_remove_7 : decode cX10_remove 7 = .ok (.getfield 42, 3) := by decide +kernel
theorem dX10_remove_10 : decode cX10_remove 10 = .ok (.invokevirtual 61, 3) := by decide +kernel
theorem dX10_remove_13 : decode cX10_remove 13 = .ok (.aload_n 1, 1) := by decide +kernel
theorem dX10_remove_14 : decode cX10_remove 14 = .ok (.aconst_null, 1) := by decide +kernel
theorem dX10_remove_15 : decode cX10_remove 15 = .ok (.putfield 55, 3) := by decide +kernel
theorem dX10_remove_18 : decode cX10_remove 18 = .ok (.aload_n 1, 1) := by decide +kernel
theorem dX10_remove_19 : decode cX10_remove 19 = .ok (.aconst_null, 1) := by decide +kernel
theorem dX10_remove_20 : decode cX10_remove 20 = .ok (.putfield 58, 3) := by decide +kernel
theorem dX10_remove_23 : decode cX10_remove 23 = .ok (.aload_n 1, 1) := by decide +kernel
theorem dX10_remove_24 : decode cX10_remove 24 = .ok (.aconst_null, 1) := by decide +kernel
theorem dX10_remove_25 : decode cX10_remove 25 = .ok (.putfield 42, 3) := by decide +kernel
theorem dX10_remove_28 : decode cX10_remove 28 = .ok (.aload_n 1, 1) := by decide +kernel
theorem dX10_remove_29 : decode cX10_remove 29 = .ok (.aconst_null, 1) := by decide +kernel
theorem dX10_remove_30 : decode cX10_remove 30 = .ok (.putfield 68, 3) := by decide +kernel
theorem dX10_remove_33 : decode cX10_remove 33 = .ok (.aload_n 0, 1) := by decide +kernel
theorem dX10_remove_34 : decode cX10_remove 34 = .ok (.invokevirtual 65, 3) := by decide +kernel
theorem dX10_remove_37 : decode cX10_remove 37 = .ok (.return_, 1) := by decide +kernel
theorem dX10_below_0 : decode cX10_below 0 = .ok (.iconst 0, 1) := by decide +kernel
theorem dX10_below_1 : decode cX10_below 1 = .ok (.istore_n 2, 1) := by decide +kernel
theorem dX10_below_2 : decode cX10_below 2 = .ok (.aload_n 1, 1) := by decide +kernel
theorem dX10_below_3 : decode cX10_below 3 = .ok (.getfield 85, 3) := by decide +kernel
theorem dX10_below_6 : decode cX10_below 6 = .ok (.astore_n 3, 1) := by decide +kernel
theorem dX10_below_7 : decode cX10_below 7 = .ok (.aload_n 3, 1) := by decide +kernel
theorem dX10_below_8 : decode cX10_below 8 = .ok (.ifnull 49, 3) := by decide +kernel
theorem dX10_below_11 : decode cX10_below 11 = .ok (.aload_n 3, 1) := by decide +kernel
theorem dX10_below_12 : decode cX10_below 12 = .ok (.getfield 82, 3) := by decide +kernel
theorem dX10_below_15 : decode cX10_below 15 = .ok (.astore 4, 2) := by decide +kernel
theorem dX10_below_17 : decode cX10_below 17 = .ok (.aload 4, 2) := by decide +kernel
theorem dX10_below_19 : decode cX10_below 19 = .ok (.ifnull 30, 3) := by decide +kernel
theorem dX10_below_22 : decode cX10_below 22 = .ok (.aload 4, 2) := by decide +kernel
theorem dX10_below_24 : decode cX10_below 24 = .ok (.aload_n 1, 1) := by decide +kernel
theorem dX10_below_25 : decode cX10_below 25 = .ok (.if_acmp .eq 15, 3) := by decide +kernel
theorem dX10_below_28 : decode cX10_below 28 = .ok (.iload_n 2, 1) := by decide +kernel
theorem dX10_below_29 : decode cX10_below 29 = .ok (.aload 4, 2) := by decide +kernel
theorem dX10_below_31 : decode cX10_below 31 = .ok (.getfield 31, 3) := by decide +kernel
theorem dX10_below_34 : decode cX10_below 34 = .ok (.ishr, 1) := by decide +kernel
theorem dX10_below_35 : decode cX10_below 35 = .ok (.iconst 1, 1) := by decide +kernel
theorem dX10_below_36 : decode cX10_below 36 = .ok (.iand, 1) := by decide +kernel
theorem dX10_below_37 : decode cX10_below 37 = .ok (.ifCond .eq 12, 3) := by decide +kernel
theorem dX10_below_40 : decode cX10_below 40 = .ok (.iload_n 2, 1) := by decide +kernel
theorem dX10_below_41 : decode cX10_below 41 = .ok (.iconst 1, 1) := by decide +kernel
theorem dX10_below_42 : decode cX10_below 42 = .ok (.aload_n 3, 1) := by decide +kernel
theorem dX10_below_43 : decode cX10_below 43 = .ok (.getfield 31, 3) := by decide +kernel
theorem dX10_below_46 : decode cX10_below 46 = .ok (.ishl, 1) := by decide +kernel
theorem dX10_below_47 : decode cX10_below 47 = .ok (.ior, 1) := by decide +kernel
theorem dX10_below_48 : decode cX10_below 48 = .ok (.istore_n 2, 1) := by decide +kernel
theorem dX10_below_49 : decode cX10_below 49 = .ok (.aload_n 3, 1) := by decide +kernel
theorem dX10_below_50 : decode cX10_below 50 = .ok (.getfield 85, 3) := by decide +kernel
theorem dX10_below_53 : decode cX10_below 53 = .ok (.astore_n 3, 1) := by decide +kernel
theorem dX10_below_54 : decode cX10_below 54 = .ok (.goto (-47), 3) := by decide +kernel
theorem dX10_below_57 : decode cX10_below 57 = .ok (.iload_n 2, 1) := by decide +kernel
theorem dX10_below_58 : decode cX10_below 58 = .ok (.ireturn, 1) := by decide +kernel
theorem dX10_around_0 : decode cX10_around 0 = .ok (.iconst 0, 1) := by decide +kernel
theorem dX10_around_1 : decode cX10_around 1 = .ok (.istore_n 2, 1) := by decide +kernel
theorem dX10_around_2 : decode cX10_around 2 = .ok (.aload_n 0, 1) := by decide +kernel
theorem dX10_around_3 : decode cX10_around 3 = .ok (.aload_n 1, 1) := by decide +kernel
theorem dX10_around_4 : decode cX10_around 4 = .ok (.invokevirtual 135, 3) := by decide +kernel
theorem dX10_around_7 : decode cX10_around 7 = .ok (.ifCond .ne 5, 3) := by decide +kernel
theorem dX10_around_10 : decode cX10_around 10 = .ok (.iload_n 2, 1) := by decide +kernel
theorem dX10_around_11 : decode cX10_around 11 = .ok (.ireturn, 1) := by decide +kernel
theorem dX10_around_12 : decode cX10_around 12 = .ok (.aload_n 0, 1) := by decide +kernel
theorem dX10_around_13 : decode cX10_around 13 = .ok (.getfield 14, 3) := by decide +kernel
theorem dX10_around_16 : decode cX10_around 16 = .ok (.astore_n 3, 1) := by decide +kernel
theorem dX10_around_17 : decode cX10_around 17 = .ok (.aload_n 3, 1) := by decide +kernel
theorem dX10_around_18 : decode cX10_around 18 = .ok (.ifnull 72, 3) := by decide +kernel
theorem dX10_around_21 : decode cX10_around 21 = .ok (.aload_n 3, 1) := by decide +kernel
theorem dX10_around_22 : decode cX10_around 22 = .ok (.getfield 101, 3) := by decide +kernel
theorem dX10_around_25 : decode cX10_around 25 = .ok (.ifnull 21, 3) := by decide +kernel
theorem dX10_around_28 : decode cX10_around 28 = .ok (.aload_n 3, 1) := by decide +kernel
theorem dX10_around_29 : decode cX10_around 29 = .ok (.getfield 101, 3) := by decide +kernel
theorem dX10_around_32 : decode cX10_around 32 = .ok (.getfield 101, 3) := by decide +kernel
theorem dX10_around_35 : decode cX10_around 35 = .ok (.aload_n 1, 1) := by decide +kernel
theorem dX10_around_36 : decode cX10_around 36 = .ok (.getfield 101, 3) := by decide +kernel
theorem dX10_around_39 : decode cX10_around 39 = .ok (.if_acmp .ne 7, 3) := by decide +kernel
theorem dX10_around_42 : decode cX10_around 42 = .ok (.iconst 1, 1) := by decide +kernel
theorem dX10_around_43 : decode cX10_around 43 = .ok (.goto 4, 3) := by decide +kernel
theorem dX10_around_46 : decode cX10_around 46 = .ok (.iconst 0, 1) := by decide +kernel
theorem dX10_around_47 : decode cX10_around 47 = .ok (.istore 4, 2) := by decide +kernel
theorem dX10_around_49 : decode cX10_around 49 = .ok (.aload_n 3, 1) := by decide +kernel
theorem dX10_around_50 : decode cX10_around 50 = .ok (.getfield 101, 3) := by decide +kernel
theorem dX10_around_53 : decode cX10_around 53 = .ok (.aload_n 1, 1) := by decide +kernel
theorem dX10_around_54 : decode cX10_around 54 = .ok (.getfield 101, 3) := by decide +kernel
theorem dX10_around_57 : decode cX10_around 57 = .ok (.if_acmp .eq 16, 3) := by decide +kernel
theorem dX10_around_60 : decode cX10_around 60 = .ok (.aload_n 3, 1) := by decide +kernel
theorem dX10_around_61 : decode cX10_around 61 = .ok (.aload_n 1, 1) := by decide +kernel
theorem dX10_around_62 : decode cX10_around 62 = .ok (.getfield 101, 3) := by decide +kernel
theorem dX10_around_65 : decode cX10_around 65 = .ok (.if_acmp .eq 8, 3) := by decide +kernel
theorem dX10_around_68 : decode cX10_around 68 = .ok (.iload 4, 2) := by decide +kernel
theorem dX10_around_70 : decode cX10_around 70 = .ok (.ifCond .eq 12, 3) := by decide +kernel
theorem dX10_around_73 : decode cX10_around 73 = .ok (.iload_n 2, 1) := by decide +kernel
theorem dX10_around_74 : decode cX10_around 74 = .ok (.iconst 1, 1) := by decide +kernel
theorem dX10_around_75 : decode cX10_around 75 = .ok (.aload_n 3, 1) := by decide +kernel
theorem dX10_around_76 : decode cX10_around 76 = .ok (.getfield 31, 3) := by decide +kernel
theorem dX10_around_79 : decode cX10_around 79 = .ok (.ishl, 1) := by decide +kernel
theorem dX10_around_80 : decode cX10_around 80 = .ok (.ior, 1) := by decide +kernel
theorem dX10_around_81 : decode cX10_around 81 = .ok (.istore_n 2, 1) := by decide +kernel
theorem dX10_around_82 : decode cX10_around 82 = .ok (.aload_n 3, 1) := by decide +kernel
theorem dX10_around_83 : decode cX10_around 83 = .ok (.getfield 85, 3) := by decide +kernel
theorem dX10_around_86 : decode cX10_around 86 = .ok (.astore_n 3, 1) := by decide +kernel
theorem dX10_around_87 : decode cX10_around 87 = .ok (.goto (-70), 3) := by decide +kernel
theorem dX10_around_90 : decode cX10_around 90 = .ok (.iload_n 2, 1) := by decide +kernel
theorem dX10_around_91 : decode cX10_around 91 = .ok (.ireturn, 1) := by decide +kernel
theorem dX11_mark_0 : decode cX11_mark 0 = .ok (.aload_n 0, 1) := by decide +kernel
theorem dX11_mark_1 : decode cX11_mark 1 = .ok (.dup, 1) := by decide +kernel
theorem dX11_mark_2 : decode cX11_mark 2 = .ok (.getfield 365, 3) := by decide +kernel
theorem dX11_mark_5 : decode cX11_mark 5 = .ok (.iload_n 1, 1) := by decide +kernel
theorem dX11_mark_6 : decode cX11_mark 6 = .ok (.aload_n 0, 1) := by decide +kernel
theorem dX11_mark_7 : decode cX11_mark 7 = .ok (.getfield 48, 3) := by decide +kernel
theorem dX11_mark_10 : decode cX11_mark 10 = .ok (.getfield 368, 3) := by decide +kernel
theorem dX11_mark_13 : decode cX11_mark 13 = .ok (.iand, 1) := by decide +kernel
theorem dX11_mark_14 : decode cX11_mark 14 = .ok (.ior, 1) := by decide +kernel
theorem dX11_mark_15 : decode cX11_mark 15 = .ok (.putfield 365, 3) := by decide +kernel
theorem dX11_mark_18 : decode cX11_mark 18 = .ok (.return_, 1) := by decide +kernel
theorem dX11_markAll_0 : decode cX11_markAll 0 = .ok (.aload_n 0, 1) := by decide +kernel
theorem dX11_markAll_1 : decode cX11_markAll 1 = .ok (.aload_n 0, 1) := by decide +kernel
theorem dX11_markAll_2 : decode cX11_markAll 2 = .ok (.getfield 48, 3) := by decide +kernel
theorem dX11_markAll_5 : decode cX11_markAll 5 = .ok (.getfield 368, 3) := by decide +kernel
theorem dX11_markAll_8 : decode cX11_markAll 8 = .ok (.invokevirtual 180, 3) := by decide +kernel
theorem dX11_markAll_11 : decode cX11_markAll 11 = .ok (.return_, 1) := by decide +kernel
def f_X7_addTest_194  (x0 : Nat)  (σ : cS) : Option (cS) := some σ
def f_X7_addTest_183  (x0 : Nat) (x1 : Int32) (x2 : Int32) (σ : cS) : Option (cS) := if x1 = (9:Int32) then ((pI σ (some x0) 7 4 x2).bind (fun v1 => f_X7_addTest_194 x0 v1)) else (f_X7_addTest_194 x0 σ)
def f_X7_addTest_160  (x0 : Nat) (x1 : Int32) (x2 : Int32) (y0 : Option Nat) (y1 : Int32) (y2 : Int32) (σ : cS) : Option (cS) := (pZ σ y0 7 7 (y1 ||| y2)).bind (fun v1 => if x1 = (8:Int32) then ((gR v1 (some x0) 7 1).bind (fun v2 => (pZ v1 v2 2 5 (1:Int32)).bind (fun v3 => (pZ v3 (some x0) 7 5 (1:Int32)).bind (fun v4 => f_X7_addTest_183 x0 (x1) (x2) v4)))) else (f_X7_addTest_183 x0 (x1) (x2) v1))
def f_X7_addTest_107  (x0 : Nat) (x1 : Int32) (x2 : Int32) (y0 : Option Nat) (y1 : Int32) (y2 : Int32) (σ : cS) : Option (cS) := (pI σ y0 7 6 (y1 + y2)).bind (fun v1 => (gR v1 (some x0) 7 1).bind (fun v2 => (gI v1 v2 2 6).bind (fun v3 => (f_X7_feature (x1) (x2)).bind (fun v4 => (pI v1 v2 2 6 (v3 ||| v4)).bind (fun v5 => (gR v5 (some x0) 7 1).bind (fun v6 => (gI v5 v6 2 8).bind (fun v7 => (f_X7_feature (x1) (x2)).bind (fun v8 => (pI v5 v6 2 8 (v7 ||| v8)).bind (fun v9 => (gI v9 (some x0) 7 7).bind (fun v10 => if x1 = (4:Int32) then (f_X7_addTest_160 x0 (x1) (x2) ((some x0)) (v10) ((1:Int32)) v9) else (f_X7_addTest_160 x0 (x1) (x2) ((some x0)) (v10) ((0:Int32)) v9)))))))))))
def f_X7_addTest_101  (x0 : Nat) (x1 : Int32) (x2 : Int32) (y0 : Option Nat) (y1 : Int32) (σ : cS) : Option (cS) := f_X7_addTest_107 x0 (x1) (x2) (y0) (y1) ((1:Int32)) σ
def f_X7_addTest (x0 : Nat) (x1 : Int32) (x2 : Int32) (x3 : Int32) (x4 : Option Nat) (σ : cS) : Option (cS) := (gR σ (some x0) 7 1).bind (fun v1 => (gI σ v1 2 4).bind (fun v2 => if v2 < (4:Int32) then ((gR σ (some x0) 7 1).bind (fun v3 => (gR σ v3 2 1).bind (fun v4 => (gR σ (some x0) 7 1).bind (fun v5 => (gI σ v5 2 4).bind (fun v6 => (sI σ v4 v6 x1).bind (fun v7 => (gR v7 (some x0) 7 1).bind (fun v8 => (gR v7 v8 2 2).bind (fun v9 => (gR v7 (some x0) 7 1).bind (fun v10 => (gI v7 v10 2 4).bind (fun v11 => (sI v7 v9 v11 x2).bind (fun v12 => (gR v12 (some x0) 7 1).bind (fun v13 => (gR v12 v13 2 3).bind (fun v14 => (gR v12 (some x0) 7 1).bind (fun v15 => (gI v12 v15 2 4).bind (fun v16 => (sI v12 v14 v16 x3).bind (fun v17 => (gR v17 (some x0) 7 1).bind (fun v18 => (gI v17 v18 2 4).bind (fun v19 => (pI v17 v18 2 4 (v19 + (1:Int32))).bind (fun v20 => if x4 = none then ((gI v20 (some x0) 7 6).bind (fun v21 => if x1 = (0:Int32) then (f_X7_addTest_101 x0 (x1) (x2) ((some x0)) (v21) v20) else (if x1 = (9:Int32) then (f_X7_addTest_101 x0 (x1) (x2) ((some x0)) (v21) v20) else (f_X7_addTest_107 x0 (x1) (x2) ((some x0)) (v21) ((100:Int32)) v20)))) else ((rc v20 (some x0) 7).bind (fun v22 => (f_X7_addInner v22 (x1) (x4) v20).bind (fun v23 => some v23)))))))))))))))))))))) else (some σ)))
set_option maxRecDepth 20000 in
set_option maxHeartbeats 4000000 in
theorem N_X7_addTest_194 {p : Program} {l : Launch} {e : Env} {s : State} {m : MethodId} {args : Array Value} {below : List Frame} {meth : Method} {c : Code} {D : cD} {Φ : cG} {x0 : Nat}    {σ : cS} {H : Heap} {locs : List Loc} {ls : Array Slot} {q : cS} (X : cX p s m args meth c cX7_addTest 5 none RX7 D Φ) (hP : cP D Φ σ H) (hS : va_S (cReg Φ) s.heap H locs)  (hl : lv_has ls 5 []) (h : f_X7_addTest_194  x0  σ = some q) : cWw p l e 1 0 0 22 s m args below meth c D Φ q none H locs 0 0 (F0 m 194 ls []) := by
  have hx := X.1
  have hb := X.2.1
  have hown := X.2.2.2.1
  have hts := X.2.2.2.2.1
  have h : (some σ) = some q := h
  obtain rfl := sj h
  exact c_wv X hP hS (Nat.le_of_ble_eq_true rfl) (Nat.le_of_ble_eq_true rfl) dX7_addTest_194
set_option maxRecDepth 20000 in
set_option maxHeartbeats 4000000 in
theorem N_X7_addTest_183 {p : Program} {l : Launch} {e : Env} {s : State} {m : MethodId} {args : Array Value} {below : List Frame} {meth : Method} {c : Code} {D : cD} {Φ : cG} {x0 : Nat}   {x1 : Int32} {x2 : Int32} {σ : cS} {H : Heap} {locs : List Loc} {ls : Array Slot} {q : cS} (X : cX p s m args meth c cX7_addTest 5 none RX7 D Φ) (hP : cP D Φ σ H) (hS : va_S (cReg Φ) s.heap H locs)  (hl : lv_has ls 5 [(0, cv Φ (some x0)), (1, .int x1), (2, .int x2)]) (h : f_X7_addTest_183  x0 x1 x2 σ = some q) : cWw p l e 1 0 0 22 s m args below meth c D Φ q none H locs 0 0 (F0 m 183 ls []) := by
  have hx := X.1
  have hb := X.2.1
  have hown := X.2.2.2.1
  have hts := X.2.2.2.2.1
  have h : (if x1 = (9:Int32) then ((pI σ (some x0) 7 4 x2).bind (fun v1 => f_X7_addTest_194 x0 v1)) else (f_X7_addTest_194 x0 σ)) = some q := h
  refine lv_iload_n hx hb dX7_addTest_183 rfl (lv_at hl 1 rfl) ?_
  refine lv_bipush (v := (9:Int32)) hx hb dX7_addTest_184 (by decide) ?_
  refine lv_icmp_ne (tgt := 194) hx hb dX7_addTest_186 rfl (fun hc => ?_) (fun hc => ?_)
  · have h := ine hc h
    exact N_X7_addTest_194 X hP hS (lv_sub hl [] rfl) h
  · have h := ip hc h
    refine c_aload_n hx hb dX7_addTest_189 rfl (lv_at hl 0 rfl) ?_
    refine lv_iload_n hx hb dX7_addTest_190 rfl (lv_at hl 2 rfl) ?_
    obtain ⟨v1, hv1, h⟩ := ob h
    refine c_pI X hP hS hv1 (Nat.le_of_ble_eq_true rfl) (Nat.le_of_ble_eq_true rfl) rfl rfl (Or.inl rfl) w_417 dX7_addTest_191 (fun H locs hP hS => ?_)
    exact N_X7_addTest_194 X hP hS (lv_sub hl [] rfl) h
set_option maxRecDepth 20000 in
set_option maxHeartbeats 4000000 in
theorem N_X7_addTest_160 {p : Program} {l : Launch} {e : Env} {s : State} {m : MethodId} {args : Array Value} {below : List Frame} {meth : Method} {c : Code} {D : cD} {Φ : cG} {x0 : Nat}   {x1 : Int32} {x2 : Int32} {y0 : Option Nat} {y1 : Int32} {y2 : Int32} {σ : cS} {H : Heap} {locs : List Loc} {ls : Array Slot} {q : cS} (X : cX p s m args meth c cX7_addTest 5 none RX7 D Φ) (hP : cP D Φ σ H) (hS : va_S (cReg Φ) s.heap H locs)  (hl : lv_has ls 5 [(0, cv Φ (some x0)), (1, .int x1), (2, .int x2)]) (h : f_X7_addTest_160  x0 x1 x2 y0 y1 y2 σ = some q) : cWw p l e 1 0 0 22 s m args below meth c D Φ q none H locs 0 0 (F0 m 160 ls [.int y2, .int y1, cv Φ y0]) := by
  have hx := X.1
  have hb := X.2.1
  have hown := X.2.2.2.1
  have hts := X.2.2.2.2.1
  have h : ((pZ σ y0 7 7 (y1 ||| y2)).bind (fun v1 => if x1 = (8:Int32) then ((gR v1 (some x0) 7 1).bind (fun v2 => (pZ v1 v2 2 5 (1:Int32)).bind (fun v3 => (pZ v3 (some x0) 7 5 (1:Int32)).bind (fun v4 => f_X7_addTest_183 x0 (x1) (x2) v4)))) else (f_X7_addTest_183 x0 (x1) (x2) v1))) = some q := h
  refine lv_ior hx hb dX7_addTest_160 ?_
  obtain ⟨v1, hv1, h⟩ := ob h
  refine c_pZ X hP hS hv1 (Nat.le_of_ble_eq_true rfl) (Nat.le_of_ble_eq_true rfl) rfl rfl (Or.inl rfl) w_424 dX7_addTest_161 (fun H locs hP hS => ?_)
  refine lv_iload_n hx hb dX7_addTest_164 rfl (lv_at hl 1 rfl) ?_
  refine lv_bipush (v := (8:Int32)) hx hb dX7_addTest_165 (by decide) ?_
  refine lv_icmp_ne (tgt := 183) hx hb dX7_addTest_167 rfl (fun hc => ?_) (fun hc => ?_)
  · have h := ine hc h
    exact N_X7_addTest_183 X hP hS (lv_sub hl [0, 1, 2] rfl) h
  · have h := ip hc h
    refine c_aload_n hx hb dX7_addTest_170 rfl (lv_at hl 0 rfl) ?_
    obtain ⟨v2, hv2, h⟩ := ob h
    refine c_gR X hP hv2 (Nat.le_of_ble_eq_true rfl) (Nat.le_of_ble_eq_true rfl) rfl w_411 dX7_addTest_171 ?_
    refine lv_iconst (v := (1:Int32)) hx hb dX7_addTest_174 (by decide) ?_
    obtain ⟨v3, hv3, h⟩ := ob h
    refine c_pZ X hP hS hv3 (Nat.le_of_ble_eq_true rfl) (Nat.le_of_ble_eq_true rfl) rfl rfl (Or.inl rfl) w_382 dX7_addTest_175 (fun H locs hP hS => ?_)
    refine c_aload_n hx hb dX7_addTest_178 rfl (lv_at hl 0 rfl) ?_
    refine lv_iconst (v := (1:Int32)) hx hb dX7_addTest_179 (by decide) ?_
    obtain ⟨v4, hv4, h⟩ := ob h
    refine c_pZ X hP hS hv4 (Nat.le_of_ble_eq_true rfl) (Nat.le_of_ble_eq_true rfl) rfl rfl (Or.inl rfl) w_420 dX7_addTest_180 (fun H locs hP hS => ?_)
    exact N_X7_addTest_183 X hP hS (lv_sub hl [0, 1, 2] rfl) h
set_option maxRecDepth 20000 in
set_option maxHeartbeats 4000000 in
theorem N_X7_addTest_107 {p : Program} {l : Launch} {e : Env} {s : State} {m : MethodId} {args : Array Value} {below : List Frame} {meth : Method} {c : Code} {D : cD} {Φ : cG} {x0 : Nat}   {x1 : Int32} {x2 : Int32} {y0 : Option Nat} {y1 : Int32} {y2 : Int32} {σ : cS} {H : Heap} {locs : List Loc} {ls : Array Slot} {q : cS} (X : cX p s m args meth c cX7_addTest 5 none RX7 D Φ) (hP : cP D Φ σ H) (hS : va_S (cReg Φ) s.heap H locs)  (hl : lv_has ls 5 [(0, cv Φ (some x0)), (1, .int x1), (2, .int x2)]) (h : f_X7_addTest_107  x0 x1 x2 y0 y1 y2 σ = some q) : cWw p l e 1 0 0 22 s m args below meth c D Φ q none H locs 0 0 (F0 m 107 ls [.int y2, .int y1, cv Φ y0]) := by
  have hx := X.1
  have hb := X.2.1
  have hown := X.2.2.2.1
  have hts := X.2.2.2.2.1
  have h : ((pI σ y0 7 6 (y1 + y2)).bind (fun v1 => (gR v1 (some x0) 7 1).bind (fun v2 => (gI v1 v2 2 6).bind (fun v3 => (f_X7_feature (x1) (x2)).bind (fun v4 => (pI v1 v2 2 6 (v3 ||| v4)).bind (fun v5 => (gR v5 (some x0) 7 1).bind (fun v6 => (gI v5 v6 2 8).bind (fun v7 => (f_X7_feature (x1) (x2)).bind (fun v8 => (pI v5 v6 2 8 (v7 ||| v8)).bind (fun v9 => (gI v9 (some x0) 7 7).bind (fun v10 => if x1 = (4:Int32) then (f_X7_addTest_160 x0 (x1) (x2) ((some x0)) (v10) ((1:Int32)) v9) else (f_X7_addTest_160 x0 (x1) (x2) ((some x0)) (v10) ((0:Int32)) v9)))))))))))) = some q := h
  refine lv_iadd hx hb dX7_addTest_107 ?_
  obtain ⟨v1, hv1, h⟩ := ob h
  refine c_pI X hP hS hv1 (Nat.le_of_ble_eq_true rfl) (Nat.le_of_ble_eq_true rfl) rfl rfl (Or.inl rfl) w_421 dX7_addTest_108 (fun H locs hP hS => ?_)
  refine c_aload_n hx hb dX7_addTest_111 rfl (lv_at hl 0 rfl) ?_
  obtain ⟨v2, hv2, h⟩ := ob h
  refine c_gR X hP hv2 (Nat.le_of_ble_eq_true rfl) (Nat.le_of_ble_eq_true rfl) rfl w_411 dX7_addTest_112 ?_
  refine c_dupq hx hb dX7_addTest_115 ?_
  obtain ⟨v3, hv3, h⟩ := ob h
  refine c_gI X hP hv3 (Nat.le_of_ble_eq_true rfl) (Nat.le_of_ble_eq_true rfl) rfl w_383 dX7_addTest_116 ?_
  refine lv_iload_n hx hb dX7_addTest_119 rfl (lv_at hl 1 rfl) ?_
  refine lv_iload_n hx hb dX7_addTest_120 rfl (lv_at hl 2 rfl) ?_
  obtain ⟨v4, hv4, h⟩ := ob h
  refine c_cr (c_runS X (K_X7_feature l D Φ v1 (x1) (x2) hv4) ⟨w_876, ww_X7_feature⟩ hy_X7_feature rfl ⟨(Nat.le_of_ble_eq_true rfl), (Nat.le_of_ble_eq_true rfl)⟩ hP hS hl.1 (Nat.le_of_ble_eq_true rfl) dX7_addTest_121 rfl ⟨(Nat.le_of_ble_eq_true rfl), (Nat.le_of_ble_eq_true rfl)⟩) ?_
  refine lv_ior hx hb dX7_addTest_124 ?_
  obtain ⟨v5, hv5, h⟩ := ob h
  refine c_pI X hP hS hv5 (Nat.le_of_ble_eq_true rfl) (Nat.le_of_ble_eq_true rfl) rfl rfl (Or.inl rfl) w_383 dX7_addTest_125 (fun H locs hP hS => ?_)
  refine c_aload_n hx hb dX7_addTest_128 rfl (lv_at hl 0 rfl) ?_
  obtain ⟨v6, hv6, h⟩ := ob h
  refine c_gR X hP hv6 (Nat.le_of_ble_eq_true rfl) (Nat.le_of_ble_eq_true rfl) rfl w_411 dX7_addTest_129 ?_
  refine c_dupq hx hb dX7_addTest_132 ?_
  obtain ⟨v7, hv7, h⟩ := ob h
  refine c_gI X hP hv7 (Nat.le_of_ble_eq_true rfl) (Nat.le_of_ble_eq_true rfl) rfl w_385 dX7_addTest_133 ?_
  refine lv_iload_n hx hb dX7_addTest_136 rfl (lv_at hl 1 rfl) ?_
  refine lv_iload_n hx hb dX7_addTest_137 rfl (lv_at hl 2 rfl) ?_
  obtain ⟨v8, hv8, h⟩ := ob h
  refine c_cr (c_runS X (K_X7_feature l D Φ v5 (x1) (x2) hv8) ⟨w_876, ww_X7_feature⟩ hy_X7_feature rfl ⟨(Nat.le_of_ble_eq_true rfl), (Nat.le_of_ble_eq_true rfl)⟩ hP hS hl.1 (Nat.le_of_ble_eq_true rfl) dX7_addTest_138 rfl ⟨(Nat.le_of_ble_eq_true rfl), (Nat.le_of_ble_eq_true rfl)⟩) ?_
  refine lv_ior hx hb dX7_addTest_141 ?_
  obtain ⟨v9, hv9, h⟩ := ob h
  refine c_pI X hP hS hv9 (Nat.le_of_ble_eq_true rfl) (Nat.le_of_ble_eq_true rfl) rfl rfl (Or.inl rfl) w_385 dX7_addTest_142 (fun H locs hP hS => ?_)
  refine c_aload_n hx hb dX7_addTest_145 rfl (lv_at hl 0 rfl) ?_
  refine c_dupq hx hb dX7_addTest_146 ?_
  obtain ⟨v10, hv10, h⟩ := ob h
  refine c_gI X hP hv10 (Nat.le_of_ble_eq_true rfl) (Nat.le_of_ble_eq_true rfl) rfl w_424 dX7_addTest_147 ?_
  refine lv_iload_n hx hb dX7_addTest_150 rfl (lv_at hl 1 rfl) ?_
  refine lv_iconst (v := (4:Int32)) hx hb dX7_addTest_151 (by decide) ?_
  refine lv_icmp_ne (tgt := 159) hx hb dX7_addTest_152 rfl (fun hc => ?_) (fun hc => ?_)
  · have h := ine hc h
    refine lv_iconst (v := (0:Int32)) hx hb dX7_addTest_159 (by decide) ?_
    exact N_X7_addTest_160 X hP hS (lv_sub hl [0, 1, 2] rfl) h
  · have h := ip hc h
    refine lv_iconst (v := (1:Int32)) hx hb dX7_addTest_155 (by decide) ?_
    refine lv_goto (tgt := 160) hx hb dX7_addTest_156 rfl ?_
    exact N_X7_addTest_160 X hP hS (lv_sub hl [0, 1, 2] rfl) h
set_option maxRecDepth 20000 in
set_option maxHeartbeats 4000000 in
theorem N_X7_addTest_101 {p : Program} {l : Launch} {e : Env} {s : State} {m : MethodId} {args : Array Value} {below : List Frame} {meth : Method} {c : Code} {D : cD} {Φ : cG} {x0 : Nat}   {x1 : Int32} {x2 : Int32} {y0 : Option Nat} {y1 : Int32} {σ : cS} {H : Heap} {locs : List Loc} {ls : Array Slot} {q : cS} (X : cX p s m args meth c cX7_addTest 5 none RX7 D Φ) (hP : cP D Φ σ H) (hS : va_S (cReg Φ) s.heap H locs)  (hl : lv_has ls 5 [(0, cv Φ (some x0)), (1, .int x1), (2, .int x2)]) (h : f_X7_addTest_101  x0 x1 x2 y0 y1 σ = some q) : cWw p l e 1 0 0 22 s m args below meth c D Φ q none H locs 0 0 (F0 m 101 ls [.int y1, cv Φ y0]) := by
  have hx := X.1
  have hb := X.2.1
  have hown := X.2.2.2.1
  have hts := X.2.2.2.2.1
  have h : (f_X7_addTest_107 x0 (x1) (x2) (y0) (y1) ((1:Int32)) σ) = some q := h
  refine lv_iconst (v := (1:Int32)) hx hb dX7_addTest_101 (by decide) ?_
  refine lv_goto (tgt := 107) hx hb dX7_addTest_102 rfl ?_
  exact N_X7_addTest_107 X hP hS (lv_sub hl [0, 1, 2] rfl) h
set_option maxRecDepth 20000 in
set_option maxHeartbeats 4000000 in
theorem K_X7_addTest (l : Launch) (D : cD) (Φ : cG) (σ : cS) (x0 : Nat) (x1 : Int32) (x2 : Int32) (x3 : Int32) (x4 : Option Nat) {q : cS} (h : f_X7_addTest x0 x1 x2 x3 x4 σ = some q) : Met l yX7_addTest (Cond.code yX7_addTest cX7_addTest 5 none :: BG) (rA 1 0 0 22) (cPc D Φ σ [cv Φ (some x0), .int x1, .int x2, .int x3, cv Φ x4]) (cQw D Φ q none) 0 0 (cReg Φ) := by
  refine Met.ofW (cc := cX7_addTest) (maxL := 5) (ret := none) (by decide) rfl ?_
  intro p e s m args below meth c s₁ B hml hv
  obtain ⟨rfl, hP, hK, hZ⟩ := hv
  have X : cX p s m [cv Φ (some x0), .int x1, .int x2, .int x3, cv Φ x4].toArray meth c cX7_addTest 5 none RX7 D Φ := cX_of B hml hK hZ
  have hx := X.1
  have hb := X.2.1
  have hown := X.2.2.2.1
  have hts := X.2.2.2.2.1
  have hl := lv_entry [cv Φ (some x0), .int x1, .int x2, .int x3, cv Φ x4] (n := 5) (by simp only [lgs_r, lgs_i, lgs_l, lgs_0, List.length]; exact Nat.le_of_ble_eq_true rfl)
  rw [lg_entry_eq]
  generalize (lg_sl [cv Φ (some x0), .int x1, .int x2, .int x3, cv Φ x4] ++ List.replicate (5 - (lg_sl [cv Φ (some x0), .int x1, .int x2, .int x3, cv Φ x4]).length) Slot.unset).toArray = ls at hl ⊢
  simp only [lv_args_r, lv_args_i, lv_args_l, lv_args_0] at hl
  have hl : lv_has ls 5 [(0, cv Φ (some x0)), (1, .int x1), (2, .int x2), (3, .int x3), (4, cv Φ x4)] := hl
  have hS : va_S (cReg Φ) s.heap s.heap [] := va_S.rf
  show cWw p l e 1 0 0 22 s m [cv Φ (some x0), .int x1, .int x2, .int x3, cv Φ x4].toArray below meth c D Φ q none s.heap [] 0 0 (F0 m 0 ls [])
  have h : ((gR σ (some x0) 7 1).bind (fun v1 => (gI σ v1 2 4).bind (fun v2 => if v2 < (4:Int32) then ((gR σ (some x0) 7 1).bind (fun v3 => (gR σ v3 2 1).bind (fun v4 => (gR σ (some x0) 7 1).bind (fun v5 => (gI σ v5 2 4).bind (fun v6 => (sI σ v4 v6 x1).bind (fun v7 => (gR v7 (some x0) 7 1).bind (fun v8 => (gR v7 v8 2 2).bind (fun v9 => (gR v7 (some x0) 7 1).bind (fun v10 => (gI v7 v10 2 4).bind (fun v11 => (sI v7 v9 v11 x2).bind (fun v12 => (gR v12 (some x0) 7 1).bind (fun v13 => (gR v12 v13 2 3).bind (fun v14 => (gR v12 (some x0) 7 1).bind (fun v15 => (gI v12 v15 2 4).bind (fun v16 => (sI v12 v14 v16 x3).bind (fun v17 => (gR v17 (some x0) 7 1).bind (fun v18 => (gI v17 v18 2 4).bind (fun v19 => (pI v17 v18 2 4 (v19 + (1:Int32))).bind (fun v20 => if x4 = none then ((gI v20 (some x0) 7 6).bind (fun v21 => if x1 = (0:Int32) then (f_X7_addTest_101 x0 (x1) (x2) ((some x0)) (v21) v20) else (if x1 = (9:Int32) then (f_X7_addTest_101 x0 (x1) (x2) ((some x0)) (v21) v20) else (f_X7_addTest_107 x0 (x1) (x2) ((some x0)) (v21) ((100:Int32)) v20)))) else ((rc v20 (some x0) 7).bind (fun v22 => (f_X7_addInner v22 (x1) (x4) v20).bind (fun v23 => some v23)))))))))))))))))))))) else (some σ)))) = some q := h
  refine c_aload_n hx hb dX7_addTest_0 rfl (lv_at hl 0 rfl) ?_
  obtain ⟨v1, hv1, h⟩ := ob h
  refine c_gR X hP hv1 (Nat.le_of_ble_eq_true rfl) (Nat.le_of_ble_eq_true rfl) rfl w_411 dX7_addTest_1 ?_
  obtain ⟨v2, hv2, h⟩ := ob h
  refine c_gI X hP hv2 (Nat.le_of_ble_eq_true rfl) (Nat.le_of_ble_eq_true rfl) rfl w_378 dX7_addTest_4 ?_
  refine lv_iconst (v := (4:Int32)) hx hb dX7_addTest_7 (by decide) ?_
  refine lv_icmp_lt (tgt := 12) hx hb dX7_addTest_8 rfl (fun hc => ?_) (fun hc => ?_)
  · have h := ip hc h
    refine c_aload_n hx hb dX7_addTest_12 rfl (lv_at hl 0 rfl) ?_
    obtain ⟨v3, hv3, h⟩ := ob h
    refine c_gR X hP hv3 (Nat.le_of_ble_eq_true rfl) (Nat.le_of_ble_eq_true rfl) rfl w_411 dX7_addTest_13 ?_
    obtain ⟨v4, hv4, h⟩ := ob h
    refine c_gR X hP hv4 (Nat.le_of_ble_eq_true rfl) (Nat.le_of_ble_eq_true rfl) rfl w_370 dX7_addTest_16 ?_
    refine c_aload_n hx hb dX7_addTest_19 rfl (lv_at hl 0 rfl) ?_
    obtain ⟨v5, hv5, h⟩ := ob h
    refine c_gR X hP hv5 (Nat.le_of_ble_eq_true rfl) (Nat.le_of_ble_eq_true rfl) rfl w_411 dX7_addTest_20 ?_
    obtain ⟨v6, hv6, h⟩ := ob h
    refine c_gI X hP hv6 (Nat.le_of_ble_eq_true rfl) (Nat.le_of_ble_eq_true rfl) rfl w_378 dX7_addTest_23 ?_
    refine lv_iload_n hx hb dX7_addTest_26 rfl (lv_at hl 1 rfl) ?_
    obtain ⟨v7, hv7, h⟩ := ob h
    refine c_ast X hP hS hv7 dX7_addTest_27 (fun H locs hP hS => ?_)
    refine c_aload_n hx hb dX7_addTest_28 rfl (lv_at hl 0 rfl) ?_
    obtain ⟨v8, hv8, h⟩ := ob h
    refine c_gR X hP hv8 (Nat.le_of_ble_eq_true rfl) (Nat.le_of_ble_eq_true rfl) rfl w_411 dX7_addTest_29 ?_
    obtain ⟨v9, hv9, h⟩ := ob h
    refine c_gR X hP hv9 (Nat.le_of_ble_eq_true rfl) (Nat.le_of_ble_eq_true rfl) rfl w_373 dX7_addTest_32 ?_
    refine c_aload_n hx hb dX7_addTest_35 rfl (lv_at hl 0 rfl) ?_
    obtain ⟨v10, hv10, h⟩ := ob h
    refine c_gR X hP hv10 (Nat.le_of_ble_eq_true rfl) (Nat.le_of_ble_eq_true rfl) rfl w_411 dX7_addTest_36 ?_
    obtain ⟨v11, hv11, h⟩ := ob h
    refine c_gI X hP hv11 (Nat.le_of_ble_eq_true rfl) (Nat.le_of_ble_eq_true rfl) rfl w_378 dX7_addTest_39 ?_
    refine lv_iload_n hx hb dX7_addTest_42 rfl (lv_at hl 2 rfl) ?_
    obtain ⟨v12, hv12, h⟩ := ob h
    refine c_ast X hP hS hv12 dX7_addTest_43 (fun H locs hP hS => ?_)
    refine c_aload_n hx hb dX7_addTest_44 rfl (lv_at hl 0 rfl) ?_
    obtain ⟨v13, hv13, h⟩ := ob h
    refine c_gR X hP hv13 (Nat.le_of_ble_eq_true rfl) (Nat.le_of_ble_eq_true rfl) rfl w_411 dX7_addTest_45 ?_
    obtain ⟨v14, hv14, h⟩ := ob h
    refine c_gR X hP hv14 (Nat.le_of_ble_eq_true rfl) (Nat.le_of_ble_eq_true rfl) rfl w_376 dX7_addTest_48 ?_
    refine c_aload_n hx hb dX7_addTest_51 rfl (lv_at hl 0 rfl) ?_
    obtain ⟨v15, hv15, h⟩ := ob h
    refine c_gR X hP hv15 (Nat.le_of_ble_eq_true rfl) (Nat.le_of_ble_eq_true rfl) rfl w_411 dX7_addTest_52 ?_
    obtain ⟨v16, hv16, h⟩ := ob h
    refine c_gI X hP hv16 (Nat.le_of_ble_eq_true rfl) (Nat.le_of_ble_eq_true rfl) rfl w_378 dX7_addTest_55 ?_
    refine lv_iload_n hx hb dX7_addTest_58 rfl (lv_at hl 3 rfl) ?_
    obtain ⟨v17, hv17, h⟩ := ob h
    refine c_ast X hP hS hv17 dX7_addTest_59 (fun H locs hP hS => ?_)
    refine c_aload_n hx hb dX7_addTest_60 rfl (lv_at hl 0 rfl) ?_
    obtain ⟨v18, hv18, h⟩ := ob h
    refine c_gR X hP hv18 (Nat.le_of_ble_eq_true rfl) (Nat.le_of_ble_eq_true rfl) rfl w_411 dX7_addTest_61 ?_
    refine c_dupq hx hb dX7_addTest_64 ?_
    obtain ⟨v19, hv19, h⟩ := ob h
    refine c_gI X hP hv19 (Nat.le_of_ble_eq_true rfl) (Nat.le_of_ble_eq_true rfl) rfl w_378 dX7_addTest_65 ?_
    refine lv_iconst (v := (1:Int32)) hx hb dX7_addTest_68 (by decide) ?_
    refine lv_iadd hx hb dX7_addTest_69 ?_
    obtain ⟨v20, hv20, h⟩ := ob h
    refine c_pI X hP hS hv20 (Nat.le_of_ble_eq_true rfl) (Nat.le_of_ble_eq_true rfl) rfl rfl (Or.inl rfl) w_378 dX7_addTest_70 (fun H locs hP hS => ?_)
    refine c_aload hx hb dX7_addTest_73 (lv_at hl 4 rfl) ?_
    refine c_ifnull (Φ := Φ) (tgt := 86) hx hb dX7_addTest_75 rfl (fun hc => ?_) (fun hc => ?_)
    · have h := ip hc h
      refine c_aload_n hx hb dX7_addTest_86 rfl (lv_at hl 0 rfl) ?_
      refine c_dupq hx hb dX7_addTest_87 ?_
      obtain ⟨v21, hv21, h⟩ := ob h
      refine c_gI X hP hv21 (Nat.le_of_ble_eq_true rfl) (Nat.le_of_ble_eq_true rfl) rfl w_421 dX7_addTest_88 ?_
      refine lv_iload_n hx hb dX7_addTest_91 rfl (lv_at hl 1 rfl) ?_
      refine lv_if_eq (tgt := 101) hx hb dX7_addTest_92 rfl (fun hc => ?_) (fun hc => ?_)
      · have h := ip hc h
        exact N_X7_addTest_101 X hP hS (lv_sub hl [0, 1, 2] rfl) h
      · have h := ine hc h
        refine lv_iload_n hx hb dX7_addTest_95 rfl (lv_at hl 1 rfl) ?_
        refine lv_bipush (v := (9:Int32)) hx hb dX7_addTest_96 (by decide) ?_
        refine lv_icmp_ne (tgt := 105) hx hb dX7_addTest_98 rfl (fun hc => ?_) (fun hc => ?_)
        · have h := ine hc h
          refine lv_bipush (v := (100:Int32)) hx hb dX7_addTest_105 (by decide) ?_
          exact N_X7_addTest_107 X hP hS (lv_sub hl [0, 1, 2] rfl) h
        · have h := ip hc h
          exact N_X7_addTest_101 X hP hS (lv_sub hl [0, 1, 2] rfl) h
    · have h := ine hc h
      refine c_aload_n hx hb dX7_addTest_78 rfl (lv_at hl 0 rfl) ?_
      refine lv_iload_n hx hb dX7_addTest_79 rfl (lv_at hl 1 rfl) ?_
      refine c_aload hx hb dX7_addTest_80 (lv_at hl 4 rfl) ?_
      obtain ⟨v22, hv22, h⟩ := ob h
      obtain ⟨v23, hv23, h⟩ := ob h
      refine c_cw (c_runV X (K_X7_addInner l D Φ v20 v22 (x1) (x4) hv23) hv22 ⟨Nat.le_of_ble_eq_true rfl, by decide⟩ ⟨w_872, ww_X7_addInner⟩ rfl hy_X7_addInner rfl ⟨(Nat.le_of_ble_eq_true rfl), (Nat.le_of_ble_eq_true rfl)⟩ hP hS hl.1 (Nat.le_of_ble_eq_true rfl) dX7_addTest_82 rfl ⟨(Nat.le_of_ble_eq_true rfl), (Nat.le_of_ble_eq_true rfl)⟩) hS (fun H locs hP hS => ?_)
      refine W.eq (g2 := F0 m 85 ls []) rfl ?_
      obtain rfl := sj h
      exact c_wv X hP hS (Nat.le_of_ble_eq_true rfl) (Nat.le_of_ble_eq_true rfl) dX7_addTest_85
  · have h := ine hc h
    obtain rfl := sj h
    exact c_wv X hP hS (Nat.le_of_ble_eq_true rfl) (Nat.le_of_ble_eq_true rfl) dX7_addTest_11
theorem ww_X7_addTest : Cond.instanceMethod yX7_addTest ∈ BG ∧ Cond.selects (yX7_addTest).cls yX7_addTest yX7_addTest ∈ BG ∧ Cond.initialized (yX7_addTest).cls ∈ BG ∧ Cond.code yX7_addTest cX7_addTest 5 none ∈ BG := ⟨w_869, w_870, w_62, w_871⟩
theorem hy_X7_addTest : (yX7_addTest).cls ≠ "java/lang/invoke/MethodHandle" ∧ (yX7_addTest).cls ≠ "java/lang/invoke/VarHandle" ∧ (parseMethodDescriptor (yX7_addTest).desc).map (fun d => d.parameters.length) = some 4 := ⟨by decide, by decide, by decide +kernel⟩
def f_X9_forget_12  (x0 : Nat) : Nat → Int32 → cS → Option (cS)
  | 0, _, _ => none
  | n + 1, x1, σ => if (5:Int32) ≤ x1 then (some σ) else ((gR σ (some x0) 9 7).bind (fun v1 => (sI σ v1 x1 (0:Int32)).bind (fun v2 => f_X9_forget_12 x0 n ((x1 + (1:Int32))) v2)))
def f_X9_forget (x0 : Nat)  (σ : cS) : Option (cS) := (pZ σ (some x0) 9 1 (0:Int32)).bind (fun v1 => (pI v1 (some x0) 9 4 (0:Int32)).bind (fun v2 => f_X9_forget_12 x0 4000 ((0:Int32)) v2))
set_option maxRecDepth 20000 in
set_option maxHeartbeats 4000000 in
theorem N_X9_forget_12 {p : Program} {l : Launch} {e : Env} {s : State} {m : MethodId} {args : Array Value} {below : List Frame} {meth : Method} {c : Code} {D : cD} {Φ : cG} {x0 : Nat}  {n : Nat} {x1 : Int32} {σ : cS} {H : Heap} {locs : List Loc} {ls : Array Slot} {q : cS} (X : cX p s m args meth c cX9_forget 2 none RX9 D Φ) (hP : cP D Φ σ H) (hS : va_S (cReg Φ) s.heap H locs)  (hl : lv_has ls 2 [(0, cv Φ (some x0)), (1, .int x1)]) (h : f_X9_forget_12  x0 n x1 σ = some q) : cWw p l e 0 0 0 0 s m args below meth c D Φ q none H locs 0 0 (F0 m 12 ls []) := by
  have hx := X.1
  have hb := X.2.1
  have hown := X.2.2.2.1
  have hts := X.2.2.2.2.1
  induction n generalizing x1 σ H locs ls with
  | zero => exact absurd (show none = some q from h) (by simp)
  | succ n ih =>
    have h : (if (5:Int32) ≤ x1 then (some σ) else ((gR σ (some x0) 9 7).bind (fun v1 => (sI σ v1 x1 (0:Int32)).bind (fun v2 => f_X9_forget_12 x0 n ((x1 + (1:Int32))) v2)))) = some q := h
    refine lv_iload_n hx hb dX9_forget_12 rfl (lv_at hl 1 rfl) ?_
    refine lv_iconst (v := (5:Int32)) hx hb dX9_forget_13 (by decide) ?_
    refine lv_icmp_ge (tgt := 30) hx hb dX9_forget_14 rfl (fun hc => ?_) (fun hc => ?_)
    · have h := ip hc h
      obtain rfl := sj h
      exact c_wv X hP hS (Nat.le_of_ble_eq_true rfl) (Nat.le_of_ble_eq_true rfl) dX9_forget_30
    · have h := ine hc h
      refine c_aload_n hx hb dX9_forget_17 rfl (lv_at hl 0 rfl) ?_
      obtain ⟨v1, hv1, h⟩ := ob h
      refine c_gR X hP hv1 (Nat.le_of_ble_eq_true rfl) (Nat.le_of_ble_eq_true rfl) rfl w_105 dX9_forget_18 ?_
      refine lv_iload_n hx hb dX9_forget_21 rfl (lv_at hl 1 rfl) ?_
      refine lv_iconst (v := (0:Int32)) hx hb dX9_forget_22 (by decide) ?_
      obtain ⟨v2, hv2, h⟩ := ob h
      refine c_ast X hP hS hv2 dX9_forget_23 (fun H locs hP hS => ?_)
      refine c_iinc (v := (x1 + (1:Int32))) hx hb dX9_forget_24 hl (k := 1) rfl rfl (Nat.le_of_ble_eq_true rfl) (lvKr (lvKa rfl lvK0)) rfl (fun ls (hl : lv_has ls 2 [(1, .int (x1 + (1:Int32))), (0, cv Φ (some x0))]) => ?_)
      refine lv_goto (tgt := 12) hx hb dX9_forget_27 rfl ?_
      exact ih hP hS (lv_sub hl [1, 0] rfl) h
set_option maxRecDepth 20000 in
set_option maxHeartbeats 4000000 in
theorem K_X9_forget (l : Launch) (D : cD) (Φ : cG) (σ : cS) (x0 : Nat)  {q : cS} (h : f_X9_forget x0  σ = some q) : Met l yX9_forget (Cond.code yX9_forget cX9_forget 2 none :: BG) (rA 0 0 0 0) (cPc D Φ σ [cv Φ (some x0)]) (cQw D Φ q none) 0 0 (cReg Φ) := by
  refine Met.ofW (cc := cX9_forget) (maxL := 2) (ret := none) (by decide) rfl ?_
  intro p e s m args below meth c s₁ B hml hv
  obtain ⟨rfl, hP, hK, hZ⟩ := hv
  have X : cX p s m [cv Φ (some x0)].toArray meth c cX9_forget 2 none RX9 D Φ := cX_of B hml hK hZ
  have hx := X.1
  have hb := X.2.1
  have hown := X.2.2.2.1
  have hts := X.2.2.2.2.1
  have hl := lv_entry [cv Φ (some x0)] (n := 2) (by simp only [lgs_r, lgs_i, lgs_l, lgs_0, List.length]; exact Nat.le_of_ble_eq_true rfl)
  rw [lg_entry_eq]
  generalize (lg_sl [cv Φ (some x0)] ++ List.replicate (2 - (lg_sl [cv Φ (some x0)]).length) Slot.unset).toArray = ls at hl ⊢
  simp only [lv_args_r, lv_args_i, lv_args_l, lv_args_0] at hl
  have hl : lv_has ls 2 [(0, cv Φ (some x0))] := hl
  have hS : va_S (cReg Φ) s.heap s.heap [] := va_S.rf
  show cWw p l e 0 0 0 0 s m [cv Φ (some x0)].toArray below meth c D Φ q none s.heap [] 0 0 (F0 m 0 ls [])
  have h : ((pZ σ (some x0) 9 1 (0:Int32)).bind (fun v1 => (pI v1 (some x0) 9 4 (0:Int32)).bind (fun v2 => f_X9_forget_12 x0 4000 ((0:Int32)) v2))) = some q := h
  refine c_aload_n hx hb dX9_forget_0 rfl (lv_at hl 0 rfl) ?_
  refine lv_iconst (v := (0:Int32)) hx hb dX9_forget_1 (by decide) ?_
  obtain ⟨v1, hv1, h⟩ := ob h
  refine c_pZ X hP hS hv1 (Nat.le_of_ble_eq_true rfl) (Nat.le_of_ble_eq_true rfl) rfl rfl (Or.inl rfl) w_95 dX9_forget_2 (fun H locs hP hS => ?_)
  refine c_aload_n hx hb dX9_forget_5 rfl (lv_at hl 0 rfl) ?_
  refine lv_iconst (v := (0:Int32)) hx hb dX9_forget_6 (by decide) ?_
  obtain ⟨v2, hv2, h⟩ := ob h
  refine c_pI X hP hS hv2 (Nat.le_of_ble_eq_true rfl) (Nat.le_of_ble_eq_true rfl) rfl rfl (Or.inl rfl) w_101 dX9_forget_7 (fun H locs hP hS => ?_)
  refine lv_iconst (v := (0:Int32)) hx hb dX9_forget_10 (by decide) ?_
  refine c_istore_n hx hb dX9_forget_11 rfl hl (Nat.le_of_ble_eq_true rfl) (lvKr lvK0) rfl (fun ls (hl : lv_has ls 2 [(1, .int (0:Int32)), (0, cv Φ (some x0))]) => ?_)
  exact N_X9_forget_12 X hP hS (lv_sub hl [1, 0] rfl) h
theorem ww_X9_forget : Cond.instanceMethod yX9_forget ∈ BG ∧ Cond.selects (yX9_forget).cls yX9_forget yX9_forget ∈ BG ∧ Cond.initialized (yX9_forget).cls ∈ BG ∧ Cond.code yX9_forget cX9_forget 2 none ∈ BG := ⟨w_799, w_800, w_57, w_801⟩
theorem hy_X9_forget : (yX9_forget).cls ≠ "java/lang/invoke/MethodHandle" ∧ (yX9_forget).cls ≠ "java/lang/invoke/VarHandle" ∧ (parseMethodDescriptor (yX9_forget).desc).map (fun d => d.parameters.length) = some 0 := ⟨by decide, by decide, by decide +kernel⟩
def f_X9_isCircular_35  (x0 : Nat)  (σ : cS) : Option (Int32) := rz (0:Int32)
def f_X9_isCircular_64  (x0 : Nat)  (σ : cS) : Option (Int32) := rz (0:Int32)
def f_X9_isCircular_6  (x0 : Nat) : Nat → Int32 → Option Nat → Int32 → Int32 → cS → Option (Int32)
  | 0, _, _, _, _, _ => none
  | n + 1, x1, x2, x3, x4, σ => if (15:Int32) ≤ x4 then (rz (0:Int32)) else ((aR σ x2 36 x3).bind (fun v1 => if v1 = none then (f_X9_isCircular_35 x0 σ) else ((gR σ v1 6 8).bind (fun v2 => (aI σ v2 x3).bind (fun v3 => if v3 = (11:Int32) then ((gR σ v1 6 10).bind (fun v4 => (aI σ v4 x3).bind (fun v5 => if v5 = x1 then (rz (1:Int32)) else (if v5 < (12:Int32) then (f_X9_isCircular_64 x0 σ) else (if v5 < (15:Int32) then (f_X9_isCircular_6 x0 n (x1) (x2) (v5) ((x4 + (1:Int32))) σ) else (f_X9_isCircular_64 x0 σ)))))) else (f_X9_isCircular_35 x0 σ))))))
def f_X9_isCircular (x0 : Nat) (x1 : Int32) (x2 : Option Nat) (σ : cS) : Option (Int32) := f_X9_isCircular_6 x0 4000 (x1) (x2) (x1) ((12:Int32)) σ
set_option maxRecDepth 20000 in
set_option maxHeartbeats 4000000 in
theorem N_X9_isCircular_35 {p : Program} {l : Launch} {e : Env} {s : State} {m : MethodId} {args : Array Value} {below : List Frame} {meth : Method} {c : Code} {D : cD} {Φ : cG} {x0 : Nat}    {σ : cS} {ls : Array Slot} {r : Int32} (X : cX p s m args meth c cX9_isCircular 6 (some .boolean) RX9 D Φ) (hP : cP D Φ σ s.heap) (hS : va_S (cReg Φ) s.heap s.heap [])  (hl : lv_has ls 6 []) (h : f_X9_isCircular_35  x0  σ = some r) : cWr p l e 0 0 s m args below meth c (some (.int r)) (F0 m 35 ls []) := by
  have hx := X.1
  have hb := X.2.1
  have hown := X.2.2.2.1
  have hts := X.2.2.2.2.1
  have h : (rz (0:Int32)) = some r := h
  refine lv_iconst (v := (0:Int32)) hx hb dX9_isCircular_35 (by decide) ?_
  obtain ⟨hz, rfl⟩ := rz_spec h
  exact c_rz X hz dX9_isCircular_36
set_option maxRecDepth 20000 in
set_option maxHeartbeats 4000000 in
theorem N_X9_isCircular_64 {p : Program} {l : Launch} {e : Env} {s : State} {m : MethodId} {args : Array Value} {below : List Frame} {meth : Method} {c : Code} {D : cD} {Φ : cG} {x0 : Nat}    {σ : cS} {ls : Array Slot} {r : Int32} (X : cX p s m args meth c cX9_isCircular 6 (some .boolean) RX9 D Φ) (hP : cP D Φ σ s.heap) (hS : va_S (cReg Φ) s.heap s.heap [])  (hl : lv_has ls 6 []) (h : f_X9_isCircular_64  x0  σ = some r) : cWr p l e 0 0 s m args below meth c (some (.int r)) (F0 m 64 ls []) := by
  have hx := X.1
  have hb := X.2.1
  have hown := X.2.2.2.1
  have hts := X.2.2.2.2.1
  have h : (rz (0:Int32)) = some r := h
  refine lv_iconst (v := (0:Int32)) hx hb dX9_isCircular_64 (by decide) ?_
  obtain ⟨hz, rfl⟩ := rz_spec h
  exact c_rz X hz dX9_isCircular_65
set_option maxRecDepth 20000 in
set_option maxHeartbeats 4000000 in
theorem N_X9_isCircular_6 {p : Program} {l : Launch} {e : Env} {s : State} {m : MethodId} {args : Array Value} {below : List Frame} {meth : Method} {c : Code} {D : cD} {Φ : cG} {x0 : Nat}  {n : Nat} {x1 : Int32} {x2 : Option Nat} {x3 : Int32} {x4 : Int32} {σ : cS} {ls : Array Slot} {r : Int32} (X : cX p s m args meth c cX9_isCircular 6 (some .boolean) RX9 D Φ) (hP : cP D Φ σ s.heap) (hS : va_S (cReg Φ) s.heap s.heap [])  (hl : lv_has ls 6 [(1, .int x1), (2, cv Φ x2), (3, .int x3), (4, .int x4)]) (h : f_X9_isCircular_6  x0 n x1 x2 x3 x4 σ = some r) : cWr p l e 0 0 s m args below meth c (some (.int r)) (F0 m 6 ls []) := by
  have hx := X.1
  have hb := X.2.1
  have hown := X.2.2.2.1
  have hts := X.2.2.2.2.1
  induction n generalizing x1 x2 x3 x4 ls with
  | zero => exact absurd (show none = some r from h) (by simp)
  | succ n ih =>
    have h : (if (15:Int32) ≤ x4 then (rz (0:Int32)) else ((aR σ x2 36 x3).bind (fun v1 => if v1 = none then (f_X9_isCircular_35 x0 σ) else ((gR σ v1 6 8).bind (fun v2 => (aI σ v2 x3).bind (fun v3 => if v3 = (11:Int32) then ((gR σ v1 6 10).bind (fun v4 => (aI σ v4 x3).bind (fun v5 => if v5 = x1 then (rz (1:Int32)) else (if v5 < (12:Int32) then (f_X9_isCircular_64 x0 σ) else (if v5 < (15:Int32) then (f_X9_isCircular_6 x0 n (x1) (x2) (v5) ((x4 + (1:Int32))) σ) else (f_X9_isCircular_64 x0 σ)))))) else (f_X9_isCircular_35 x0 σ))))))) = some r := h
    refine lv_iload hx hb dX9_isCircular_6 (lv_at hl 3 rfl) ?_
    refine lv_bipush (v := (15:Int32)) hx hb dX9_isCircular_8 (by decide) ?_
    refine lv_icmp_ge (tgt := 72) hx hb dX9_isCircular_10 rfl (fun hc => ?_) (fun hc => ?_)
    · have h := ip hc h
      refine lv_iconst (v := (0:Int32)) hx hb dX9_isCircular_72 (by decide) ?_
      obtain ⟨hz, rfl⟩ := rz_spec h
      exact c_rz X hz dX9_isCircular_73
    · have h := ine hc h
      refine c_aload_n hx hb dX9_isCircular_13 rfl (lv_at hl 1 rfl) ?_
      refine lv_iload_n hx hb dX9_isCircular_14 rfl (lv_at hl 2 rfl) ?_
      obtain ⟨v1, hv1, h⟩ := ob h
      refine c_aldq X hP hv1 (ty := .object "Cascadery$Rule") rfl (by decide) rfl dX9_isCircular_15 ?_
      refine c_astore hx hb dX9_isCircular_16 hl (Nat.le_of_ble_eq_true rfl) (lvKa rfl (lvKa rfl (lvKa rfl (lvKi lvK0)))) rfl (fun ls (hl : lv_has ls 6 [(5, cv Φ v1), (1, .int x1), (2, cv Φ x2), (3, .int x3), (4, .int x4)]) => ?_)
      refine c_aload hx hb dX9_isCircular_18 (lv_at hl 0 rfl) ?_
      refine c_ifnull (Φ := Φ) (tgt := 35) hx hb dX9_isCircular_20 rfl (fun hc => ?_) (fun hc => ?_)
      · have h := ip hc h
        exact N_X9_isCircular_35 X hP hS (lv_sub hl [] rfl) h
      · have h := ine hc h
        refine c_aload hx hb dX9_isCircular_23 (lv_at hl 0 rfl) ?_
        obtain ⟨v2, hv2, h⟩ := ob h
        refine c_gR X hP hv2 (Nat.le_of_ble_eq_true rfl) (Nat.le_of_ble_eq_true rfl) rfl w_179 dX9_isCircular_25 ?_
        refine lv_iload_n hx hb dX9_isCircular_28 rfl (lv_at hl 3 rfl) ?_
        obtain ⟨v3, hv3, h⟩ := ob h
        refine c_ald X hP hv3 dX9_isCircular_29 ?_
        refine lv_bipush (v := (11:Int32)) hx hb dX9_isCircular_30 (by decide) ?_
        refine lv_icmp_eq (tgt := 37) hx hb dX9_isCircular_32 rfl (fun hc => ?_) (fun hc => ?_)
        · have h := ip hc h
          refine c_aload hx hb dX9_isCircular_37 (lv_at hl 0 rfl) ?_
          obtain ⟨v4, hv4, h⟩ := ob h
          refine c_gR X hP hv4 (Nat.le_of_ble_eq_true rfl) (Nat.le_of_ble_eq_true rfl) rfl w_184 dX9_isCircular_39 ?_
          refine lv_iload_n hx hb dX9_isCircular_42 rfl (lv_at hl 3 rfl) ?_
          obtain ⟨v5, hv5, h⟩ := ob h
          refine c_ald X hP hv5 dX9_isCircular_43 ?_
          refine c_istore_n hx hb dX9_isCircular_44 rfl hl (Nat.le_of_ble_eq_true rfl) (lvKa rfl (lvKa rfl (lvKr (lvKa rfl (lvKa rfl lvK0))))) rfl (fun ls (hl : lv_has ls 6 [(3, .int v5), (5, cv Φ v1), (1, .int x1), (2, cv Φ x2), (4, .int x4)]) => ?_)
          refine lv_iload_n hx hb dX9_isCircular_45 rfl (lv_at hl 0 rfl) ?_
          refine lv_iload_n hx hb dX9_isCircular_46 rfl (lv_at hl 2 rfl) ?_
          refine lv_icmp_ne (tgt := 52) hx hb dX9_isCircular_47 rfl (fun hc => ?_) (fun hc => ?_)
          · have h := ine hc h
            refine lv_iload_n hx hb dX9_isCircular_52 rfl (lv_at hl 0 rfl) ?_
            refine lv_bipush (v := (12:Int32)) hx hb dX9_isCircular_53 (by decide) ?_
            refine lv_icmp_lt (tgt := 64) hx hb dX9_isCircular_55 rfl (fun hc => ?_) (fun hc => ?_)
            · have h := ip hc h
              exact N_X9_isCircular_64 X hP hS (lv_sub hl [] rfl) h
            · have h := ine hc h
              refine lv_iload_n hx hb dX9_isCircular_58 rfl (lv_at hl 0 rfl) ?_
              refine lv_bipush (v := (15:Int32)) hx hb dX9_isCircular_59 (by decide) ?_
              refine lv_icmp_lt (tgt := 66) hx hb dX9_isCircular_61 rfl (fun hc => ?_) (fun hc => ?_)
              · have h := ip hc h
                refine c_iinc (v := (x4 + (1:Int32))) hx hb dX9_isCircular_66 hl (k := 4) rfl rfl (Nat.le_of_ble_eq_true rfl) (lvKi (lvKa rfl (lvKa rfl (lvKa rfl (lvKa rfl lvK0))))) rfl (fun ls (hl : lv_has ls 6 [(4, .int (x4 + (1:Int32))), (3, .int v5), (5, cv Φ v1), (1, .int x1), (2, cv Φ x2)]) => ?_)
                refine lv_goto (tgt := 6) hx hb dX9_isCircular_69 rfl ?_
                exact ih (lv_sub hl [3, 4, 1, 0] rfl) h
              · have h := ine hc h
                exact N_X9_isCircular_64 X hP hS (lv_sub hl [] rfl) h
          · have h := ip hc h
            refine lv_iconst (v := (1:Int32)) hx hb dX9_isCircular_50 (by decide) ?_
            obtain ⟨hz, rfl⟩ := rz_spec h
            exact c_rz X hz dX9_isCircular_51
        · have h := ine hc h
          exact N_X9_isCircular_35 X hP hS (lv_sub hl [] rfl) h
set_option maxRecDepth 20000 in
set_option maxHeartbeats 4000000 in
theorem K_X9_isCircular (l : Launch) (D : cD) (Φ : cG) (σ : cS) (x0 : Nat) (x1 : Int32) (x2 : Option Nat) {r : Int32} (h : f_X9_isCircular x0 x1 x2 σ = some r) : Met l yX9_isCircular (Cond.code yX9_isCircular cX9_isCircular 6 (some .boolean) :: BG) (rA 0 0 0 0) (cPc D Φ σ [cv Φ (some x0), .int x1, cv Φ x2]) (cQr (some (.int r))) 0 0 (fun _ => False) := by
  refine Met.ofW (cc := cX9_isCircular) (maxL := 6) (ret := (some .boolean)) (by decide) rfl ?_
  intro p e s m args below meth c s₁ B hml hv
  obtain ⟨rfl, hP, hK, hZ⟩ := hv
  have X : cX p s m [cv Φ (some x0), .int x1, cv Φ x2].toArray meth c cX9_isCircular 6 (some .boolean) RX9 D Φ := cX_of B hml hK hZ
  have hx := X.1
  have hb := X.2.1
  have hown := X.2.2.2.1
  have hts := X.2.2.2.2.1
  have hl := lv_entry [cv Φ (some x0), .int x1, cv Φ x2] (n := 6) (by simp only [lgs_r, lgs_i, lgs_l, lgs_0, List.length]; exact Nat.le_of_ble_eq_true rfl)
  rw [lg_entry_eq]
  generalize (lg_sl [cv Φ (some x0), .int x1, cv Φ x2] ++ List.replicate (6 - (lg_sl [cv Φ (some x0), .int x1, cv Φ x2]).length) Slot.unset).toArray = ls at hl ⊢
  simp only [lv_args_r, lv_args_i, lv_args_l, lv_args_0] at hl
  have hl : lv_has ls 6 [(0, cv Φ (some x0)), (1, .int x1), (2, cv Φ x2)] := hl
  have hS : va_S (cReg Φ) s.heap s.heap [] := va_S.rf
  show cWr p l e 0 0 s m [cv Φ (some x0), .int x1, cv Φ x2].toArray below meth c (some (.int r)) (F0 m 0 ls [])
  have h : (f_X9_isCircular_6 x0 4000 (x1) (x2) (x1) ((12:Int32)) σ) = some r := h
  refine lv_iload_n hx hb dX9_isCircular_0 rfl (lv_at hl 1 rfl) ?_
  refine c_istore_n hx hb dX9_isCircular_1 rfl hl (Nat.le_of_ble_eq_true rfl) (lvKa rfl (lvKa rfl (lvKr lvK0))) rfl (fun ls (hl : lv_has ls 6 [(3, .int x1), (0, cv Φ (some x0)), (1, .int x1), (2, cv Φ x2)]) => ?_)
  refine lv_bipush (v := (12:Int32)) hx hb dX9_isCircular_2 (by decide) ?_
  refine c_istore hx hb dX9_isCircular_4 hl (Nat.le_of_ble_eq_true rfl) (lvKi (lvKa rfl (lvKa rfl (lvKa rfl lvK0)))) rfl (fun ls (hl : lv_has ls 6 [(4, .int (12:Int32)), (3, .int x1), (0, cv Φ (some x0)), (1, .int x1), (2, cv Φ x2)]) => ?_)
  exact N_X9_isCircular_6 X hP hS (lv_sub hl [3, 4, 1, 0] rfl) h
theorem ww_X9_isCircular : Cond.instanceMethod yX9_isCircular ∈ BG ∧ Cond.selects (yX9_isCircular).cls yX9_isCircular yX9_isCircular ∈ BG ∧ Cond.initialized (yX9_isCircular).cls ∈ BG ∧ Cond.code yX9_isCircular cX9_isCircular 6 (some .boolean) ∈ BG := ⟨w_1019, w_35, w_57, w_1020⟩
theorem hy_X9_isCircular : (yX9_isCircular).cls ≠ "java/lang/invoke/MethodHandle" ∧ (yX9_isCircular).cls ≠ "java/lang/invoke/VarHandle" ∧ (parseMethodDescriptor (yX9_isCircular).desc).map (fun d => d.parameters.length) = some 2 := ⟨by decide, by decide, by decide +kernel⟩
def f_X9_findVariable_62  (x0 : Nat) (y0 : Int32) (σ : cS) : Option (Int32) := some y0
def f_X9_findVariable_41  (x0 : Nat) (x1 : Int32) (σ : cS) : Option (Int32) := (gR σ (some x0) 9 9).bind (fun v1 => if v1 = none then (f_X9_findVariable_62 x0 (((-1000001):Int32)) σ) else ((gR σ (some x0) 9 9).bind (fun v2 => (gR σ v2 9 0).bind (fun v3 => (aI σ v3 x1).bind (fun v4 => f_X9_findVariable_62 x0 (v4) σ)))))
def f_X9_findVariable_127  (x0 : Nat) (x1 : Int32) (x2 : Option Nat) (x3 : Int32) (σ : cS) : Option (Int32) := (gR σ x2 6 9).bind (fun v1 => (aI σ v1 x1).bind (fun v2 => some (((100000:Int32) * x3) + v2)))
def f_X9_findVariable_124  (x0 : Nat) (x5 : Int32) (σ : cS) : Option (Int32) := some x5
def f_X9_findVariable_103  (x0 : Nat) (x1 : Int32) (x2 : Option Nat) (y0 : Int32) (σ : cS) : Option (Int32) := (gR σ x2 6 11).bind (fun v1 => (aI σ v1 x1).bind (fun v2 => if y0 = ((-1000001):Int32) then (if v2 = ((-1):Int32) then (f_X9_findVariable_124 x0 (y0) σ) else (f_X9_findVariable_127 x0 (x1) (x2) (v2) σ)) else (f_X9_findVariable_124 x0 (y0) σ)))
def f_X9_findVariable_91  (x0 : Nat) (x1 : Int32) (x2 : Option Nat) (σ : cS) : Option (Int32) := f_X9_findVariable_103 x0 (x1) (x2) (((-1000001):Int32)) σ
def f_X9_findVariable_15  (x0 : Nat) (x1 : Int32) (x2 : Option Nat) (y0 : Int32) (σ : cS) : Option (Int32) := if y0 = (7:Int32) then (some ((-1000001):Int32)) else (if x2 = none then (f_X9_findVariable_41 x0 (x1) σ) else (if y0 = (8:Int32) then (f_X9_findVariable_41 x0 (x1) σ) else (if y0 = (9:Int32) then (f_X9_findVariable_41 x0 (x1) σ) else (if y0 = (11:Int32) then ((gR σ x2 6 10).bind (fun v1 => (aI σ v1 x1).bind (fun v2 => if v2 < (12:Int32) then (f_X9_findVariable_91 x0 (x1) (x2) σ) else (if v2 < (15:Int32) then ((gR σ (some x0) 9 0).bind (fun v3 => (aI σ v3 v2).bind (fun v4 => f_X9_findVariable_103 x0 (x1) (x2) (v4) σ))) else (f_X9_findVariable_91 x0 (x1) (x2) σ))))) else (f_X9_findVariable_127 x0 (x1) (x2) (y0) σ)))))
def f_X9_findVariable (x0 : Nat) (x1 : Int32) (x2 : Option Nat) (σ : cS) : Option (Int32) := if x2 = none then (f_X9_findVariable_15 x0 (x1) (x2) ((9:Int32)) σ) else ((gR σ x2 6 8).bind (fun v1 => (aI σ v1 x1).bind (fun v2 => f_X9_findVariable_15 x0 (x1) (x2) (v2) σ)))
set_option maxRecDepth 20000 in
set_option maxHeartbeats 4000000 in
theorem N_X9_findVariable_62 {p : Program} {l : Launch} {e : Env} {s : State} {m : MethodId} {args : Array Value} {below : List Frame} {meth : Method} {c : Code} {D : cD} {Φ : cG} {x0 : Nat}   {y0 : Int32} {σ : cS} {ls : Array Slot} {r : Int32} (X : cX p s m args meth c cX9_findVariable 6 (some .int) RX9 D Φ) (hP : cP D Φ σ s.heap) (hS : va_S (cReg Φ) s.heap s.heap [])  (hl : lv_has ls 6 []) (h : f_X9_findVariable_62  x0 y0 σ = some r) : cWr p l e 0 0 s m args below meth c (some (.int r)) (F0 m 62 ls [.int y0]) := by
  have hx := X.1
  have hb := X.2.1
  have hown := X.2.2.2.1
  have hts := X.2.2.2.2.1
  have h : (some y0) = some r := h
  obtain rfl := sj h
  exact c_ri X dX9_findVariable_62
set_option maxRecDepth 20000 in
set_option maxHeartbeats 4000000 in
theorem N_X9_findVariable_41 {p : Program} {l : Launch} {e : Env} {s : State} {m : MethodId} {args : Array Value} {below : List Frame} {meth : Method} {c : Code} {D : cD} {Φ : cG} {x0 : Nat}   {x1 : Int32} {σ : cS} {ls : Array Slot} {r : Int32} (X : cX p s m args meth c cX9_findVariable 6 (some .int) RX9 D Φ) (hP : cP D Φ σ s.heap) (hS : va_S (cReg Φ) s.heap s.heap [])  (hl : lv_has ls 6 [(0, cv Φ (some x0)), (1, .int x1)]) (h : f_X9_findVariable_41  x0 x1 σ = some r) : cWr p l e 0 0 s m args below meth c (some (.int r)) (F0 m 41 ls []) := by
  have hx := X.1
  have hb := X.2.1
  have hown := X.2.2.2.1
  have hts := X.2.2.2.2.1
  have h : ((gR σ (some x0) 9 9).bind (fun v1 => if v1 = none then (f_X9_findVariable_62 x0 (((-1000001):Int32)) σ) else ((gR σ (some x0) 9 9).bind (fun v2 => (gR σ v2 9 0).bind (fun v3 => (aI σ v3 x1).bind (fun v4 => f_X9_findVariable_62 x0 (v4) σ)))))) = some r := h
  refine c_aload_n hx hb dX9_findVariable_41 rfl (lv_at hl 0 rfl) ?_
  obtain ⟨v1, hv1, h⟩ := ob h
  refine c_gR X hP hv1 (Nat.le_of_ble_eq_true rfl) (Nat.le_of_ble_eq_true rfl) rfl w_107 dX9_findVariable_42 ?_
  refine c_ifnonnull (Φ := Φ) (tgt := 53) hx hb dX9_findVariable_45 rfl (fun hc => ?_) (fun hc => ?_)
  · have h := ine hc h
    refine c_aload_n hx hb dX9_findVariable_53 rfl (lv_at hl 0 rfl) ?_
    obtain ⟨v2, hv2, h⟩ := ob h
    refine c_gR X hP hv2 (Nat.le_of_ble_eq_true rfl) (Nat.le_of_ble_eq_true rfl) rfl w_107 dX9_findVariable_54 ?_
    obtain ⟨v3, hv3, h⟩ := ob h
    refine c_gR X hP hv3 (Nat.le_of_ble_eq_true rfl) (Nat.le_of_ble_eq_true rfl) rfl w_93 dX9_findVariable_57 ?_
    refine lv_iload_n hx hb dX9_findVariable_60 rfl (lv_at hl 1 rfl) ?_
    obtain ⟨v4, hv4, h⟩ := ob h
    refine c_ald X hP hv4 dX9_findVariable_61 ?_
    exact N_X9_findVariable_62 X hP hS (lv_sub hl [] rfl) h
  · have h := ip hc h
    refine lv_ldc hx hb hown (hts _ w_1021) dX9_findVariable_48 ?_
    refine lv_goto (tgt := 62) hx hb dX9_findVariable_50 rfl ?_
    exact N_X9_findVariable_62 X hP hS (lv_sub hl [] rfl) h
set_option maxRecDepth 20000 in
set_option maxHeartbeats 4000000 in
theorem N_X9_findVariable_127 {p : Program} {l : Launch} {e : Env} {s : State} {m : MethodId} {args : Array Value} {below : List Frame} {meth : Method} {c : Code} {D : cD} {Φ : cG} {x0 : Nat}   {x1 : Int32} {x2 : Option Nat} {x3 : Int32} {σ : cS} {ls : Array Slot} {r : Int32} (X : cX p s m args meth c cX9_findVariable 6 (some .int) RX9 D Φ) (hP : cP D Φ σ s.heap) (hS : va_S (cReg Φ) s.heap s.heap [])  (hl : lv_has ls 6 [(1, .int x1), (2, cv Φ x2), (3, .int x3)]) (h : f_X9_findVariable_127  x0 x1 x2 x3 σ = some r) : cWr p l e 0 0 s m args below meth c (some (.int r)) (F0 m 127 ls []) := by
  have hx := X.1
  have hb := X.2.1
  have hown := X.2.2.2.1
  have hts := X.2.2.2.2.1
  have h : ((gR σ x2 6 9).bind (fun v1 => (aI σ v1 x1).bind (fun v2 => some (((100000:Int32) * x3) + v2)))) = some r := h
  refine lv_ldc hx hb hown (hts _ w_1027) dX9_findVariable_127 ?_
  refine lv_iload_n hx hb dX9_findVariable_129 rfl (lv_at hl 2 rfl) ?_
  refine lv_imul hx hb dX9_findVariable_130 ?_
  refine c_aload_n hx hb dX9_findVariable_131 rfl (lv_at hl 1 rfl) ?_
  obtain ⟨v1, hv1, h⟩ := ob h
  refine c_gR X hP hv1 (Nat.le_of_ble_eq_true rfl) (Nat.le_of_ble_eq_true rfl) rfl w_182 dX9_findVariable_132 ?_
  refine lv_iload_n hx hb dX9_findVariable_135 rfl (lv_at hl 0 rfl) ?_
  obtain ⟨v2, hv2, h⟩ := ob h
  refine c_ald X hP hv2 dX9_findVariable_136 ?_
  refine lv_iadd hx hb dX9_findVariable_137 ?_
  obtain rfl := sj h
  exact c_ri X dX9_findVariable_138
set_option maxRecDepth 20000 in
set_option maxHeartbeats 4000000 in
theorem N_X9_findVariable_124 {p : Program} {l : Launch} {e : Env} {s : State} {m : MethodId} {args : Array Value} {below : List Frame} {meth : Method} {c : Code} {D : cD} {Φ : cG} {x0 : Nat}   {x5 : Int32} {σ : cS} {ls : Array Slot} {r : Int32} (X : cX p s m args meth c cX9_findVariable 6 (some .int) RX9 D Φ) (hP : cP D Φ σ s.heap) (hS : va_S (cReg Φ) s.heap s.heap [])  (hl : lv_has ls 6 [(5, .int x5)]) (h : f_X9_findVariable_124  x0 x5 σ = some r) : cWr p l e 0 0 s m args below meth c (some (.int r)) (F0 m 124 ls []) := by
  have hx := X.1
  have hb := X.2.1
  have hown := X.2.2.2.1
  have hts := X.2.2.2.2.1
  have h : (some x5) = some r := h
  refine lv_iload hx hb dX9_findVariable_124 (lv_at hl 0 rfl) ?_
  obtain rfl := sj h
  exact c_ri X dX9_findVariable_126
set_option maxRecDepth 20000 in
set_option maxHeartbeats 4000000 in
theorem N_X9_findVariable_103 {p : Program} {l : Launch} {e : Env} {s : State} {m : MethodId} {args : Array Value} {below : List Frame} {meth : Method} {c : Code} {D : cD} {Φ : cG} {x0 : Nat}   {x1 : Int32} {x2 : Option Nat} {y0 : Int32} {σ : cS} {ls : Array Slot} {r : Int32} (X : cX p s m args meth c cX9_findVariable 6 (some .int) RX9 D Φ) (hP : cP D Φ σ s.heap) (hS : va_S (cReg Φ) s.heap s.heap [])  (hl : lv_has ls 6 [(1, .int x1), (2, cv Φ x2)]) (h : f_X9_findVariable_103  x0 x1 x2 y0 σ = some r) : cWr p l e 0 0 s m args below meth c (some (.int r)) (F0 m 103 ls [.int y0]) := by
  have hx := X.1
  have hb := X.2.1
  have hown := X.2.2.2.1
  have hts := X.2.2.2.2.1
  have h : ((gR σ x2 6 11).bind (fun v1 => (aI σ v1 x1).bind (fun v2 => if y0 = ((-1000001):Int32) then (if v2 = ((-1):Int32) then (f_X9_findVariable_124 x0 (y0) σ) else (f_X9_findVariable_127 x0 (x1) (x2) (v2) σ)) else (f_X9_findVariable_124 x0 (y0) σ)))) = some r := h
  refine c_istore hx hb dX9_findVariable_103 hl (Nat.le_of_ble_eq_true rfl) (lvKa rfl (lvKa rfl lvK0)) rfl (fun ls (hl : lv_has ls 6 [(5, .int y0), (1, .int x1), (2, cv Φ x2)]) => ?_)
  refine c_aload_n hx hb dX9_findVariable_105 rfl (lv_at hl 2 rfl) ?_
  obtain ⟨v1, hv1, h⟩ := ob h
  refine c_gR X hP hv1 (Nat.le_of_ble_eq_true rfl) (Nat.le_of_ble_eq_true rfl) rfl w_186 dX9_findVariable_106 ?_
  refine lv_iload_n hx hb dX9_findVariable_109 rfl (lv_at hl 1 rfl) ?_
  obtain ⟨v2, hv2, h⟩ := ob h
  refine c_ald X hP hv2 dX9_findVariable_110 ?_
  refine c_istore_n hx hb dX9_findVariable_111 rfl hl (Nat.le_of_ble_eq_true rfl) (lvKa rfl (lvKa rfl (lvKr lvK0))) rfl (fun ls (hl : lv_has ls 6 [(3, .int v2), (5, .int y0), (1, .int x1), (2, cv Φ x2)]) => ?_)
  refine lv_iload hx hb dX9_findVariable_112 (lv_at hl 1 rfl) ?_
  refine lv_ldc hx hb hown (hts _ w_1021) dX9_findVariable_114 ?_
  refine lv_icmp_ne (tgt := 124) hx hb dX9_findVariable_116 rfl (fun hc => ?_) (fun hc => ?_)
  · have h := ine hc h
    exact N_X9_findVariable_124 X hP hS (lv_sub hl [1] rfl) h
  · have h := ip hc h
    refine lv_iload_n hx hb dX9_findVariable_119 rfl (lv_at hl 0 rfl) ?_
    refine lv_iconst (v := ((-1):Int32)) hx hb dX9_findVariable_120 (by decide) ?_
    refine lv_icmp_ne (tgt := 127) hx hb dX9_findVariable_121 rfl (fun hc => ?_) (fun hc => ?_)
    · have h := ine hc h
      exact N_X9_findVariable_127 X hP hS (lv_sub hl [2, 3, 0] rfl) h
    · have h := ip hc h
      exact N_X9_findVariable_124 X hP hS (lv_sub hl [1] rfl) h
set_option maxRecDepth 20000 in
set_option maxHeartbeats 4000000 in
theorem N_X9_findVariable_91 {p : Program} {l : Launch} {e : Env} {s : State} {m : MethodId} {args : Array Value} {below : List Frame} {meth : Method} {c : Code} {D : cD} {Φ : cG} {x0 : Nat}   {x1 : Int32} {x2 : Option Nat} {σ : cS} {ls : Array Slot} {r : Int32} (X : cX p s m args meth c cX9_findVariable 6 (some .int) RX9 D Φ) (hP : cP D Φ σ s.heap) (hS : va_S (cReg Φ) s.heap s.heap [])  (hl : lv_has ls 6 [(1, .int x1), (2, cv Φ x2)]) (h : f_X9_findVariable_91  x0 x1 x2 σ = some r) : cWr p l e 0 0 s m args below meth c (some (.int r)) (F0 m 91 ls []) := by
  have hx := X.1
  have hb := X.2.1
  have hown := X.2.2.2.1
  have hts := X.2.2.2.2.1
  have h : (f_X9_findVariable_103 x0 (x1) (x2) (((-1000001):Int32)) σ) = some r := h
  refine lv_ldc hx hb hown (hts _ w_1021) dX9_findVariable_91 ?_
  refine lv_goto (tgt := 103) hx hb dX9_findVariable_93 rfl ?_
  exact N_X9_findVariable_103 X hP hS (lv_sub hl [0, 1] rfl) h
set_option maxRecDepth 20000 in
set_option maxHeartbeats 4000000 in
theorem N_X9_findVariable_15 {p : Program} {l : Launch} {e : Env} {s : State} {m : MethodId} {args : Array Value} {below : List Frame} {meth : Method} {c : Code} {D : cD} {Φ : cG} {x0 : Nat}   {x1 : Int32} {x2 : Option Nat} {y0 : Int32} {σ : cS} {ls : Array Slot} {r : Int32} (X : cX p s m args meth c cX9_findVariable 6 (some .int) RX9 D Φ) (hP : cP D Φ σ s.heap) (hS : va_S (cReg Φ) s.heap s.heap [])  (hl : lv_has ls 6 [(0, cv Φ (some x0)), (1, .int x1), (2, cv Φ x2)]) (h : f_X9_findVariable_15  x0 x1 x2 y0 σ = some r) : cWr p l e 0 0 s m args below meth c (some (.int r)) (F0 m 15 ls [.int y0]) := by
  have hx := X.1
  have hb := X.2.1
  have hown := X.2.2.2.1
  have hts := X.2.2.2.2.1
  have h : (if y0 = (7:Int32) then (some ((-1000001):Int32)) else (if x2 = none then (f_X9_findVariable_41 x0 (x1) σ) else (if y0 = (8:Int32) then (f_X9_findVariable_41 x0 (x1) σ) else (if y0 = (9:Int32) then (f_X9_findVariable_41 x0 (x1) σ) else (if y0 = (11:Int32) then ((gR σ x2 6 10).bind (fun v1 => (aI σ v1 x1).bind (fun v2 => if v2 < (12:Int32) then (f_X9_findVariable_91 x0 (x1) (x2) σ) else (if v2 < (15:Int32) then ((gR σ (some x0) 9 0).bind (fun v3 => (aI σ v3 v2).bind (fun v4 => f_X9_findVariable_103 x0 (x1) (x2) (v4) σ))) else (f_X9_findVariable_91 x0 (x1) (x2) σ))))) else (f_X9_findVariable_127 x0 (x1) (x2) (y0) σ)))))) = some r := h
  refine c_istore_n hx hb dX9_findVariable_15 rfl hl (Nat.le_of_ble_eq_true rfl) (lvKa rfl (lvKa rfl (lvKr lvK0))) rfl (fun ls (hl : lv_has ls 6 [(3, .int y0), (0, cv Φ (some x0)), (1, .int x1), (2, cv Φ x2)]) => ?_)
  refine lv_iload_n hx hb dX9_findVariable_16 rfl (lv_at hl 0 rfl) ?_
  refine lv_bipush (v := (7:Int32)) hx hb dX9_findVariable_17 (by decide) ?_
  refine lv_icmp_ne (tgt := 25) hx hb dX9_findVariable_19 rfl (fun hc => ?_) (fun hc => ?_)
  · have h := ine hc h
    refine c_aload_n hx hb dX9_findVariable_25 rfl (lv_at hl 3 rfl) ?_
    refine c_ifnull (Φ := Φ) (tgt := 41) hx hb dX9_findVariable_26 rfl (fun hc => ?_) (fun hc => ?_)
    · have h := ip hc h
      exact N_X9_findVariable_41 X hP hS (lv_sub hl [1, 2] rfl) h
    · have h := ine hc h
      refine lv_iload_n hx hb dX9_findVariable_29 rfl (lv_at hl 0 rfl) ?_
      refine lv_bipush (v := (8:Int32)) hx hb dX9_findVariable_30 (by decide) ?_
      refine lv_icmp_eq (tgt := 41) hx hb dX9_findVariable_32 rfl (fun hc => ?_) (fun hc => ?_)
      · have h := ip hc h
        exact N_X9_findVariable_41 X hP hS (lv_sub hl [1, 2] rfl) h
      · have h := ine hc h
        refine lv_iload_n hx hb dX9_findVariable_35 rfl (lv_at hl 0 rfl) ?_
        refine lv_bipush (v := (9:Int32)) hx hb dX9_findVariable_36 (by decide) ?_
        refine lv_icmp_ne (tgt := 63) hx hb dX9_findVariable_38 rfl (fun hc => ?_) (fun hc => ?_)
        · have h := ine hc h
          refine lv_iload_n hx hb dX9_findVariable_63 rfl (lv_at hl 0 rfl) ?_
          refine lv_bipush (v := (11:Int32)) hx hb dX9_findVariable_64 (by decide) ?_
          refine lv_icmp_ne (tgt := 127) hx hb dX9_findVariable_66 rfl (fun hc => ?_) (fun hc => ?_)
          · have h := ine hc h
            exact N_X9_findVariable_127 X hP hS (lv_sub hl [2, 3, 0] rfl) h
          · have h := ip hc h
            refine c_aload_n hx hb dX9_findVariable_69 rfl (lv_at hl 3 rfl) ?_
            obtain ⟨v1, hv1, h⟩ := ob h
            refine c_gR X hP hv1 (Nat.le_of_ble_eq_true rfl) (Nat.le_of_ble_eq_true rfl) rfl w_184 dX9_findVariable_70 ?_
            refine lv_iload_n hx hb dX9_findVariable_73 rfl (lv_at hl 2 rfl) ?_
            obtain ⟨v2, hv2, h⟩ := ob h
            refine c_ald X hP hv2 dX9_findVariable_74 ?_
            refine c_istore hx hb dX9_findVariable_75 hl (Nat.le_of_ble_eq_true rfl) (lvKi (lvKa rfl (lvKa rfl (lvKa rfl lvK0)))) rfl (fun ls (hl : lv_has ls 6 [(4, .int v2), (3, .int y0), (0, cv Φ (some x0)), (1, .int x1), (2, cv Φ x2)]) => ?_)
            refine lv_iload hx hb dX9_findVariable_77 (lv_at hl 0 rfl) ?_
            refine lv_bipush (v := (12:Int32)) hx hb dX9_findVariable_79 (by decide) ?_
            refine lv_icmp_lt (tgt := 91) hx hb dX9_findVariable_81 rfl (fun hc => ?_) (fun hc => ?_)
            · have h := ip hc h
              exact N_X9_findVariable_91 X hP hS (lv_sub hl [3, 4] rfl) h
            · have h := ine hc h
              refine lv_iload hx hb dX9_findVariable_84 (lv_at hl 0 rfl) ?_
              refine lv_bipush (v := (15:Int32)) hx hb dX9_findVariable_86 (by decide) ?_
              refine lv_icmp_lt (tgt := 96) hx hb dX9_findVariable_88 rfl (fun hc => ?_) (fun hc => ?_)
              · have h := ip hc h
                refine c_aload_n hx hb dX9_findVariable_96 rfl (lv_at hl 2 rfl) ?_
                obtain ⟨v3, hv3, h⟩ := ob h
                refine c_gR X hP hv3 (Nat.le_of_ble_eq_true rfl) (Nat.le_of_ble_eq_true rfl) rfl w_93 dX9_findVariable_97 ?_
                refine lv_iload hx hb dX9_findVariable_100 (lv_at hl 0 rfl) ?_
                obtain ⟨v4, hv4, h⟩ := ob h
                refine c_ald X hP hv4 dX9_findVariable_102 ?_
                exact N_X9_findVariable_103 X hP hS (lv_sub hl [3, 4] rfl) h
              · have h := ine hc h
                exact N_X9_findVariable_91 X hP hS (lv_sub hl [3, 4] rfl) h
        · have h := ip hc h
          exact N_X9_findVariable_41 X hP hS (lv_sub hl [1, 2] rfl) h
  · have h := ip hc h
    refine lv_ldc hx hb hown (hts _ w_1021) dX9_findVariable_22 ?_
    obtain rfl := sj h
    exact c_ri X dX9_findVariable_24
set_option maxRecDepth 20000 in
set_option maxHeartbeats 4000000 in
theorem K_X9_findVariable (l : Launch) (D : cD) (Φ : cG) (σ : cS) (x0 : Nat) (x1 : Int32) (x2 : Option Nat) {r : Int32} (h : f_X9_findVariable x0 x1 x2 σ = some r) : Met l yX9_findVariable (Cond.code yX9_findVariable cX9_findVariable 6 (some .int) :: BG) (rA 0 0 0 0) (cPc D Φ σ [cv Φ (some x0), .int x1, cv Φ x2]) (cQr (some (.int r))) 0 0 (fun _ => False) := by
  refine Met.ofW (cc := cX9_findVariable) (maxL := 6) (ret := (some .int)) (by decide) rfl ?_
  intro p e s m args below meth c s₁ B hml hv
  obtain ⟨rfl, hP, hK, hZ⟩ := hv
  have X : cX p s m [cv Φ (some x0), .int x1, cv Φ x2].toArray meth c cX9_findVariable 6 (some .int) RX9 D Φ := cX_of B hml hK hZ
  have hx := X.1
  have hb := X.2.1
  have hown := X.2.2.2.1
  have hts := X.2.2.2.2.1
  have hl := lv_entry [cv Φ (some x0), .int x1, cv Φ x2] (n := 6) (by simp only [lgs_r, lgs_i, lgs_l, lgs_0, List.length]; exact Nat.le_of_ble_eq_true rfl)
  rw [lg_entry_eq]
  generalize (lg_sl [cv Φ (some x0), .int x1, cv Φ x2] ++ List.replicate (6 - (lg_sl [cv Φ (some x0), .int x1, cv Φ x2]).length) Slot.unset).toArray = ls at hl ⊢
  simp only [lv_args_r, lv_args_i, lv_args_l, lv_args_0] at hl
  have hl : lv_has ls 6 [(0, cv Φ (some x0)), (1, .int x1), (2, cv Φ x2)] := hl
  have hS : va_S (cReg Φ) s.heap s.heap [] := va_S.rf
  show cWr p l e 0 0 s m [cv Φ (some x0), .int x1, cv Φ x2].toArray below meth c (some (.int r)) (F0 m 0 ls [])
  have h : (if x2 = none then (f_X9_findVariable_15 x0 (x1) (x2) ((9:Int32)) σ) else ((gR σ x2 6 8).bind (fun v1 => (aI σ v1 x1).bind (fun v2 => f_X9_findVariable_15 x0 (x1) (x2) (v2) σ)))) = some r := h
  refine c_aload_n hx hb dX9_findVariable_0 rfl (lv_at hl 2 rfl) ?_
  refine c_ifnonnull (Φ := Φ) (tgt := 9) hx hb dX9_findVariable_1 rfl (fun hc => ?_) (fun hc => ?_)
  · have h := ine hc h
    refine c_aload_n hx hb dX9_findVariable_9 rfl (lv_at hl 2 rfl) ?_
    obtain ⟨v1, hv1, h⟩ := ob h
    refine c_gR X hP hv1 (Nat.le_of_ble_eq_true rfl) (Nat.le_of_ble_eq_true rfl) rfl w_179 dX9_findVariable_10 ?_
    refine lv_iload_n hx hb dX9_findVariable_13 rfl (lv_at hl 1 rfl) ?_
    obtain ⟨v2, hv2, h⟩ := ob h
    refine c_ald X hP hv2 dX9_findVariable_14 ?_
    exact N_X9_findVariable_15 X hP hS (lv_sub hl [0, 1, 2] rfl) h
  · have h := ip hc h
    refine lv_bipush (v := (9:Int32)) hx hb dX9_findVariable_4 (by decide) ?_
    refine lv_goto (tgt := 15) hx hb dX9_findVariable_6 rfl ?_
    exact N_X9_findVariable_15 X hP hS (lv_sub hl [0, 1, 2] rfl) h
theorem ww_X9_findVariable : Cond.instanceMethod yX9_findVariable ∈ BG ∧ Cond.selects (yX9_findVariable).cls yX9_findVariable yX9_findVariable ∈ BG ∧ Cond.initialized (yX9_findVariable).cls ∈ BG ∧ Cond.code yX9_findVariable cX9_findVariable 6 (some .int) ∈ BG := ⟨w_1025, w_36, w_57, w_1026⟩
theorem hy_X9_findVariable : (yX9_findVariable).cls ≠ "java/lang/invoke/MethodHandle" ∧ (yX9_findVariable).cls ≠ "java/lang/invoke/VarHandle" ∧ (parseMethodDescriptor (yX9_findVariable).desc).map (fun d => d.parameters.length) = some 2 := ⟨by decide, by decide, by decide +kernel⟩
def f_X9_findVariables_80 (k40 : Option Nat → Int32 → cS → Option (cS)) (k49 : Option Nat → Int32 → Int32 → cS → Option (cS)) (x0 : Nat) (x1 : Option Nat) (x2 : Int32) (x3 : Int32) (σ : cS) : Option (cS) := k49 (x1) (x2) ((x3 + (1:Int32))) σ
def f_X9_findVariables_49 (k40 : Option Nat → Int32 → cS → Option (cS)) (x0 : Nat) : Nat → Option Nat → Int32 → Int32 → cS → Option (cS)
  | 0, _, _, _, _ => none
  | n + 1, x1, x2, x3, σ => if (15:Int32) ≤ x3 then (k40 (x1) ((x2 + (1:Int32))) σ) else ((gR σ (some x0) 9 0).bind (fun v1 => (aI σ v1 x3).bind (fun v2 => if v2 = ((-1000002):Int32) then ((gR σ (some x0) 9 0).bind (fun v3 => (aR σ x1 36 x3).bind (fun v4 => (rc σ (some x0) 9).bind (fun v5 => (f_X9_findVariable v5 (x3) (v4) σ).bind (fun v6 => (sI σ v3 x3 v6).bind (fun v7 => f_X9_findVariables_80 k40 (f_X9_findVariables_49 k40 x0 n) x0 (x1) (x2) (x3) v7)))))) else (f_X9_findVariables_80 k40 (f_X9_findVariables_49 k40 x0 n) x0 (x1) (x2) (x3) σ))))
def f_X9_findVariables_40  (x0 : Nat) : Nat → Option Nat → Int32 → cS → Option (cS)
  | 0, _, _, _ => none
  | n + 1, x1, x2, σ => if (15:Int32) ≤ x2 then (some σ) else (f_X9_findVariables_49 (f_X9_findVariables_40 x0 n) x0 4000 (x1) (x2) ((12:Int32)) σ)
def f_X9_findVariables_30 (k3 : Option Nat → Int32 → cS → Option (cS)) (x0 : Nat) (x1 : Option Nat) (x2 : Int32) (y0 : Option Nat) (y1 : Int32) (y2 : Int32) (σ : cS) : Option (cS) := (sI σ y0 y1 y2).bind (fun v1 => k3 (x1) ((x2 + (1:Int32))) v1)
def f_X9_findVariables_3  (x0 : Nat) : Nat → Option Nat → Int32 → cS → Option (cS)
  | 0, _, _, _ => none
  | n + 1, x1, x2, σ => if (15:Int32) ≤ x2 then (f_X9_findVariables_40 x0 4000 (x1) ((12:Int32)) σ) else ((gR σ (some x0) 9 0).bind (fun v1 => (rc σ (some x0) 9).bind (fun v2 => (f_X9_isCircular v2 (x2) (x1) σ).bind (fun v3 => if v3 = (0:Int32) then (f_X9_findVariables_30 (f_X9_findVariables_3 x0 n) x0 (x1) (x2) (v1) (x2) (((-1000002):Int32)) σ) else (f_X9_findVariables_30 (f_X9_findVariables_3 x0 n) x0 (x1) (x2) (v1) (x2) (((-1000001):Int32)) σ)))))
def f_X9_findVariables (x0 : Nat) (x1 : Option Nat) (σ : cS) : Option (cS) := f_X9_findVariables_3 x0 4000 (x1) ((12:Int32)) σ
set_option maxRecDepth 20000 in
set_option maxHeartbeats 4000000 in
theorem N_X9_findVariables_80 {p : Program} {l : Launch} {e : Env} {s : State} {m : MethodId} {args : Array Value} {below : List Frame} {meth : Method} {c : Code} {D : cD} {Φ : cG} {x0 : Nat} {k40 : Option Nat → Int32 → cS → Option (cS)} {k49 : Option Nat → Int32 → Int32 → cS → Option (cS)}  {x1 : Option Nat} {x2 : Int32} {x3 : Int32} {σ : cS} {H : Heap} {locs : List Loc} {ls : Array Slot} {q : cS} (X : cX p s m args meth c cX9_findVariables 4 none RX9 D Φ) (hP : cP D Φ σ H) (hS : va_S (cReg Φ) s.heap H locs) (hk40 : ∀ {x1 : Option Nat} {x2 : Int32} {σ : cS} {H : Heap} {locs : List Loc} {ls : Array Slot}, cP D Φ σ H → va_S (cReg Φ) s.heap H locs → lv_has ls 4 [(0, cv Φ (some x0)), (1, cv Φ x1), (2, .int x2)] → k40 x1 x2 σ = some q → cWw p l e 1 0 0 25 s m args below meth c D Φ q none H locs 0 0 (F0 m 40 ls [])) (hk49 : ∀ {x1 : Option Nat} {x2 : Int32} {x3 : Int32} {σ : cS} {H : Heap} {locs : List Loc} {ls : Array Slot}, cP D Φ σ H → va_S (cReg Φ) s.heap H locs → lv_has ls 4 [(0, cv Φ (some x0)), (1, cv Φ x1), (2, .int x2), (3, .int x3)] → k49 x1 x2 x3 σ = some q → cWw p l e 1 0 0 25 s m args below meth c D Φ q none H locs 0 0 (F0 m 49 ls [])) (hl : lv_has ls 4 [(0, cv Φ (some x0)), (1, cv Φ x1), (2, .int x2), (3, .int x3)]) (h : f_X9_findVariables_80 k40 k49 x0 x1 x2 x3 σ = some q) : cWw p l e 1 0 0 25 s m args below meth c D Φ q none H locs 0 0 (F0 m 80 ls []) := by
  have hx := X.1
  have hb := X.2.1
  have hown := X.2.2.2.1
  have hts := X.2.2.2.2.1
  have h : (k49 (x1) (x2) ((x3 + (1:Int32))) σ) = some q := h
  refine c_iinc (v := (x3 + (1:Int32))) hx hb dX9_findVariables_80 hl (k := 3) rfl rfl (Nat.le_of_ble_eq_true rfl) (lvKa rfl (lvKa rfl (lvKi (lvKa rfl lvK0)))) rfl (fun ls (hl : lv_has ls 4 [(3, .int (x3 + (1:Int32))), (0, cv Φ (some x0)), (1, cv Φ x1), (2, .int x2)]) => ?_)
  refine lv_goto (tgt := 49) hx hb dX9_findVariables_83 rfl ?_
  exact hk49 hP hS (lv_sub hl [1, 2, 3, 0] rfl) h
set_option maxRecDepth 20000 in
set_option maxHeartbeats 4000000 in
theorem N_X9_findVariables_49 {p : Program} {l : Launch} {e : Env} {s : State} {m : MethodId} {args : Array Value} {below : List Frame} {meth : Method} {c : Code} {D : cD} {Φ : cG} {x0 : Nat} {k40 : Option Nat → Int32 → cS → Option (cS)} {n : Nat} {x1 : Option Nat} {x2 : Int32} {x3 : Int32} {σ : cS} {H : Heap} {locs : List Loc} {ls : Array Slot} {q : cS} (X : cX p s m args meth c cX9_findVariables 4 none RX9 D Φ) (hP : cP D Φ σ H) (hS : va_S (cReg Φ) s.heap H locs) (hk40 : ∀ {x1 : Option Nat} {x2 : Int32} {σ : cS} {H : Heap} {locs : List Loc} {ls : Array Slot}, cP D Φ σ H → va_S (cReg Φ) s.heap H locs → lv_has ls 4 [(0, cv Φ (some x0)), (1, cv Φ x1), (2, .int x2)] → k40 x1 x2 σ = some q → cWw p l e 1 0 0 25 s m args below meth c D Φ q none H locs 0 0 (F0 m 40 ls [])) (hl : lv_has ls 4 [(0, cv Φ (some x0)), (1, cv Φ x1), (2, .int x2), (3, .int x3)]) (h : f_X9_findVariables_49 k40 x0 n x1 x2 x3 σ = some q) : cWw p l e 1 0 0 25 s m args below meth c D Φ q none H locs 0 0 (F0 m 49 ls []) := by
  have hx := X.1
  have hb := X.2.1
  have hown := X.2.2.2.1
  have hts := X.2.2.2.2.1
  induction n generalizing x1 x2 x3 σ H locs ls with
  | zero => exact absurd (show none = some q from h) (by simp)
  | succ n ih =>
    have h : (if (15:Int32) ≤ x3 then (k40 (x1) ((x2 + (1:Int32))) σ) else ((gR σ (some x0) 9 0).bind (fun v1 => (aI σ v1 x3).bind (fun v2 => if v2 = ((-1000002):Int32) then ((gR σ (some x0) 9 0).bind (fun v3 => (aR σ x1 36 x3).bind (fun v4 => (rc σ (some x0) 9).bind (fun v5 => (f_X9_findVariable v5 (x3) (v4) σ).bind (fun v6 => (sI σ v3 x3 v6).bind (fun v7 => f_X9_findVariables_80 k40 (f_X9_findVariables_49 k40 x0 n) x0 (x1) (x2) (x3) v7)))))) else (f_X9_findVariables_80 k40 (f_X9_findVariables_49 k40 x0 n) x0 (x1) (x2) (x3) σ))))) = some q := h
    refine lv_iload_n hx hb dX9_findVariables_49 rfl (lv_at hl 3 rfl) ?_
    refine lv_bipush (v := (15:Int32)) hx hb dX9_findVariables_50 (by decide) ?_
    refine lv_icmp_ge (tgt := 86) hx hb dX9_findVariables_52 rfl (fun hc => ?_) (fun hc => ?_)
    · have h := ip hc h
      refine c_iinc (v := (x2 + (1:Int32))) hx hb dX9_findVariables_86 hl (k := 2) rfl rfl (Nat.le_of_ble_eq_true rfl) (lvKa rfl (lvKr (lvKa rfl (lvKa rfl lvK0)))) rfl (fun ls (hl : lv_has ls 4 [(2, .int (x2 + (1:Int32))), (0, cv Φ (some x0)), (1, cv Φ x1), (3, .int x3)]) => ?_)
      refine lv_goto (tgt := 40) hx hb dX9_findVariables_89 rfl ?_
      exact hk40 hP hS (lv_sub hl [1, 2, 0] rfl) h
    · have h := ine hc h
      refine c_aload_n hx hb dX9_findVariables_55 rfl (lv_at hl 0 rfl) ?_
      obtain ⟨v1, hv1, h⟩ := ob h
      refine c_gR X hP hv1 (Nat.le_of_ble_eq_true rfl) (Nat.le_of_ble_eq_true rfl) rfl w_93 dX9_findVariables_56 ?_
      refine lv_iload_n hx hb dX9_findVariables_59 rfl (lv_at hl 3 rfl) ?_
      obtain ⟨v2, hv2, h⟩ := ob h
      refine c_ald X hP hv2 dX9_findVariables_60 ?_
      refine lv_ldc hx hb hown (hts _ w_1022) dX9_findVariables_61 ?_
      refine lv_icmp_ne (tgt := 80) hx hb dX9_findVariables_63 rfl (fun hc => ?_) (fun hc => ?_)
      · have h := ine hc h
        exact N_X9_findVariables_80 X hP hS hk40 ih (lv_sub hl [0, 1, 2, 3] rfl) h
      · have h := ip hc h
        refine c_aload_n hx hb dX9_findVariables_66 rfl (lv_at hl 0 rfl) ?_
        obtain ⟨v3, hv3, h⟩ := ob h
        refine c_gR X hP hv3 (Nat.le_of_ble_eq_true rfl) (Nat.le_of_ble_eq_true rfl) rfl w_93 dX9_findVariables_67 ?_
        refine lv_iload_n hx hb dX9_findVariables_70 rfl (lv_at hl 3 rfl) ?_
        refine c_aload_n hx hb dX9_findVariables_71 rfl (lv_at hl 0 rfl) ?_
        refine lv_iload_n hx hb dX9_findVariables_72 rfl (lv_at hl 3 rfl) ?_
        refine c_aload_n hx hb dX9_findVariables_73 rfl (lv_at hl 1 rfl) ?_
        refine lv_iload_n hx hb dX9_findVariables_74 rfl (lv_at hl 3 rfl) ?_
        obtain ⟨v4, hv4, h⟩ := ob h
        refine c_aldq X hP hv4 (ty := .object "Cascadery$Rule") rfl (by decide) rfl dX9_findVariables_75 ?_
        obtain ⟨v5, hv5, h⟩ := ob h
        obtain ⟨v6, hv6, h⟩ := ob h
        refine c_cr (c_runV X (K_X9_findVariable l D Φ σ v5 (x3) (v4) hv6) hv5 ⟨Nat.le_of_ble_eq_true rfl, by decide⟩ ⟨w_1023, ww_X9_findVariable⟩ rfl hy_X9_findVariable rfl ⟨(Nat.le_of_ble_eq_true rfl), (Nat.le_of_ble_eq_true rfl)⟩ hP hS hl.1 (Nat.le_of_ble_eq_true rfl) dX9_findVariables_76 rfl ⟨(Nat.le_of_ble_eq_true rfl), (Nat.le_of_ble_eq_true rfl)⟩) ?_
        obtain ⟨v7, hv7, h⟩ := ob h
        refine c_ast X hP hS hv7 dX9_findVariables_79 (fun H locs hP hS => ?_)
        exact N_X9_findVariables_80 X hP hS hk40 ih (lv_sub hl [0, 1, 2, 3] rfl) h
set_option maxRecDepth 20000 in
set_option maxHeartbeats 4000000 in
theorem N_X9_findVariables_40 {p : Program} {l : Launch} {e : Env} {s : State} {m : MethodId} {args : Array Value} {below : List Frame} {meth : Method} {c : Code} {D : cD} {Φ : cG} {x0 : Nat}  {n : Nat} {x1 : Option Nat} {x2 : Int32} {σ : cS} {H : Heap} {locs : List Loc} {ls : Array Slot} {q : cS} (X : cX p s m args meth c cX9_findVariables 4 none RX9 D Φ) (hP : cP D Φ σ H) (hS : va_S (cReg Φ) s.heap H locs)  (hl : lv_has ls 4 [(0, cv Φ (some x0)), (1, cv Φ x1), (2, .int x2)]) (h : f_X9_findVariables_40  x0 n x1 x2 σ = some q) : cWw p l e 1 0 0 25 s m args below meth c D Φ q none H locs 0 0 (F0 m 40 ls []) := by
  have hx := X.1
  have hb := X.2.1
  have hown := X.2.2.2.1
  have hts := X.2.2.2.2.1
  induction n generalizing x1 x2 σ H locs ls with
  | zero => exact absurd (show none = some q from h) (by simp)
  | succ n ih =>
    have h : (if (15:Int32) ≤ x2 then (some σ) else (f_X9_findVariables_49 (f_X9_findVariables_40 x0 n) x0 4000 (x1) (x2) ((12:Int32)) σ)) = some q := h
    refine lv_iload_n hx hb dX9_findVariables_40 rfl (lv_at hl 2 rfl) ?_
    refine lv_bipush (v := (15:Int32)) hx hb dX9_findVariables_41 (by decide) ?_
    refine lv_icmp_ge (tgt := 92) hx hb dX9_findVariables_43 rfl (fun hc => ?_) (fun hc => ?_)
    · have h := ip hc h
      obtain rfl := sj h
      exact c_wv X hP hS (Nat.le_of_ble_eq_true rfl) (Nat.le_of_ble_eq_true rfl) dX9_findVariables_92
    · have h := ine hc h
      refine lv_bipush (v := (12:Int32)) hx hb dX9_findVariables_46 (by decide) ?_
      refine c_istore_n hx hb dX9_findVariables_48 rfl hl (Nat.le_of_ble_eq_true rfl) (lvKa rfl (lvKa rfl (lvKi lvK0))) rfl (fun ls (hl : lv_has ls 4 [(3, .int (12:Int32)), (0, cv Φ (some x0)), (1, cv Φ x1), (2, .int x2)]) => ?_)
      exact N_X9_findVariables_49 X hP hS ih (lv_sub hl [1, 2, 3, 0] rfl) h
set_option maxRecDepth 20000 in
set_option maxHeartbeats 4000000 in
theorem N_X9_findVariables_30 {p : Program} {l : Launch} {e : Env} {s : State} {m : MethodId} {args : Array Value} {below : List Frame} {meth : Method} {c : Code} {D : cD} {Φ : cG} {x0 : Nat} {k3 : Option Nat → Int32 → cS → Option (cS)}  {x1 : Option Nat} {x2 : Int32} {y0 : Option Nat} {y1 : Int32} {y2 : Int32} {σ : cS} {H : Heap} {locs : List Loc} {ls : Array Slot} {q : cS} (X : cX p s m args meth c cX9_findVariables 4 none RX9 D Φ) (hP : cP D Φ σ H) (hS : va_S (cReg Φ) s.heap H locs) (hk3 : ∀ {x1 : Option Nat} {x2 : Int32} {σ : cS} {H : Heap} {locs : List Loc} {ls : Array Slot}, cP D Φ σ H → va_S (cReg Φ) s.heap H locs → lv_has ls 4 [(0, cv Φ (some x0)), (1, cv Φ x1), (2, .int x2)] → k3 x1 x2 σ = some q → cWw p l e 1 0 0 25 s m args below meth c D Φ q none H locs 0 0 (F0 m 3 ls [])) (hl : lv_has ls 4 [(0, cv Φ (some x0)), (1, cv Φ x1), (2, .int x2)]) (h : f_X9_findVariables_30 k3 x0 x1 x2 y0 y1 y2 σ = some q) : cWw p l e 1 0 0 25 s m args below meth c D Φ q none H locs 0 0 (F0 m 30 ls [.int y2, .int y1, cv Φ y0]) := by
  have hx := X.1
  have hb := X.2.1
  have hown := X.2.2.2.1
  have hts := X.2.2.2.2.1
  have h : ((sI σ y0 y1 y2).bind (fun v1 => k3 (x1) ((x2 + (1:Int32))) v1)) = some q := h
  obtain ⟨v1, hv1, h⟩ := ob h
  refine c_ast X hP hS hv1 dX9_findVariables_30 (fun H locs hP hS => ?_)
  refine c_iinc (v := (x2 + (1:Int32))) hx hb dX9_findVariables_31 hl (k := 2) rfl rfl (Nat.le_of_ble_eq_true rfl) (lvKa rfl (lvKr (lvKa rfl lvK0))) rfl (fun ls (hl : lv_has ls 4 [(2, .int (x2 + (1:Int32))), (0, cv Φ (some x0)), (1, cv Φ x1)]) => ?_)
  refine lv_goto (tgt := 3) hx hb dX9_findVariables_34 rfl ?_
  exact hk3 hP hS (lv_sub hl [1, 2, 0] rfl) h
set_option maxRecDepth 20000 in
set_option maxHeartbeats 4000000 in
theorem N_X9_findVariables_3 {p : Program} {l : Launch} {e : Env} {s : State} {m : MethodId} {args : Array Value} {below : List Frame} {meth : Method} {c : Code} {D : cD} {Φ : cG} {x0 : Nat}  {n : Nat} {x1 : Option Nat} {x2 : Int32} {σ : cS} {H : Heap} {locs : List Loc} {ls : Array Slot} {q : cS} (X : cX p s m args meth c cX9_findVariables 4 none RX9 D Φ) (hP : cP D Φ σ H) (hS : va_S (cReg Φ) s.heap H locs)  (hl : lv_has ls 4 [(0, cv Φ (some x0)), (1, cv Φ x1), (2, .int x2)]) (h : f_X9_findVariables_3  x0 n x1 x2 σ = some q) : cWw p l e 1 0 0 25 s m args below meth c D Φ q none H locs 0 0 (F0 m 3 ls []) := by
  have hx := X.1
  have hb := X.2.1
  have hown := X.2.2.2.1
  have hts := X.2.2.2.2.1
  induction n generalizing x1 x2 σ H locs ls with
  | zero => exact absurd (show none = some q from h) (by simp)
  | succ n ih =>
    have h : (if (15:Int32) ≤ x2 then (f_X9_findVariables_40 x0 4000 (x1) ((12:Int32)) σ) else ((gR σ (some x0) 9 0).bind (fun v1 => (rc σ (some x0) 9).bind (fun v2 => (f_X9_isCircular v2 (x2) (x1) σ).bind (fun v3 => if v3 = (0:Int32) then (f_X9_findVariables_30 (f_X9_findVariables_3 x0 n) x0 (x1) (x2) (v1) (x2) (((-1000002):Int32)) σ) else (f_X9_findVariables_30 (f_X9_findVariables_3 x0 n) x0 (x1) (x2) (v1) (x2) (((-1000001):Int32)) σ)))))) = some q := h
    refine lv_iload_n hx hb dX9_findVariables_3 rfl (lv_at hl 2 rfl) ?_
    refine lv_bipush (v := (15:Int32)) hx hb dX9_findVariables_4 (by decide) ?_
    refine lv_icmp_ge (tgt := 37) hx hb dX9_findVariables_6 rfl (fun hc => ?_) (fun hc => ?_)
    · have h := ip hc h
      refine lv_bipush (v := (12:Int32)) hx hb dX9_findVariables_37 (by decide) ?_
      refine c_istore_n hx hb dX9_findVariables_39 rfl hl (Nat.le_of_ble_eq_true rfl) (lvKa rfl (lvKr (lvKa rfl lvK0))) rfl (fun ls (hl : lv_has ls 4 [(2, .int (12:Int32)), (0, cv Φ (some x0)), (1, cv Φ x1)]) => ?_)
      exact N_X9_findVariables_40 X hP hS (lv_sub hl [1, 2, 0] rfl) h
    · have h := ine hc h
      refine c_aload_n hx hb dX9_findVariables_9 rfl (lv_at hl 0 rfl) ?_
      obtain ⟨v1, hv1, h⟩ := ob h
      refine c_gR X hP hv1 (Nat.le_of_ble_eq_true rfl) (Nat.le_of_ble_eq_true rfl) rfl w_93 dX9_findVariables_10 ?_
      refine lv_iload_n hx hb dX9_findVariables_13 rfl (lv_at hl 2 rfl) ?_
      refine c_aload_n hx hb dX9_findVariables_14 rfl (lv_at hl 0 rfl) ?_
      refine lv_iload_n hx hb dX9_findVariables_15 rfl (lv_at hl 2 rfl) ?_
      refine c_aload_n hx hb dX9_findVariables_16 rfl (lv_at hl 1 rfl) ?_
      obtain ⟨v2, hv2, h⟩ := ob h
      obtain ⟨v3, hv3, h⟩ := ob h
      refine c_cr (c_runV X (K_X9_isCircular l D Φ σ v2 (x2) (x1) hv3) hv2 ⟨Nat.le_of_ble_eq_true rfl, by decide⟩ ⟨w_1017, ww_X9_isCircular⟩ rfl hy_X9_isCircular rfl ⟨(Nat.le_of_ble_eq_true rfl), (Nat.le_of_ble_eq_true rfl)⟩ hP hS hl.1 (Nat.le_of_ble_eq_true rfl) dX9_findVariables_17 rfl ⟨(Nat.le_of_ble_eq_true rfl), (Nat.le_of_ble_eq_true rfl)⟩) ?_
      refine lv_if_eq (tgt := 28) hx hb dX9_findVariables_20 rfl (fun hc => ?_) (fun hc => ?_)
      · have h := ip hc h
        refine lv_ldc hx hb hown (hts _ w_1022) dX9_findVariables_28 ?_
        exact N_X9_findVariables_30 X hP hS ih (lv_sub hl [0, 1, 2] rfl) h
      · have h := ine hc h
        refine lv_ldc hx hb hown (hts _ w_1021) dX9_findVariables_23 ?_
        refine lv_goto (tgt := 30) hx hb dX9_findVariables_25 rfl ?_
        exact N_X9_findVariables_30 X hP hS ih (lv_sub hl [0, 1, 2] rfl) h
set_option maxRecDepth 20000 in
set_option maxHeartbeats 4000000 in
theorem K_X9_findVariables (l : Launch) (D : cD) (Φ : cG) (σ : cS) (x0 : Nat) (x1 : Option Nat) {q : cS} (h : f_X9_findVariables x0 x1 σ = some q) : Met l yX9_findVariables (Cond.code yX9_findVariables cX9_findVariables 4 none :: BG) (rA 1 0 0 25) (cPc D Φ σ [cv Φ (some x0), cv Φ x1]) (cQw D Φ q none) 0 0 (cReg Φ) := by
  refine Met.ofW (cc := cX9_findVariables) (maxL := 4) (ret := none) (by decide) rfl ?_
  intro p e s m args below meth c s₁ B hml hv
  obtain ⟨rfl, hP, hK, hZ⟩ := hv
  have X : cX p s m [cv Φ (some x0), cv Φ x1].toArray meth c cX9_findVariables 4 none RX9 D Φ := cX_of B hml hK hZ
  have hx := X.1
  have hb := X.2.1
  have hown := X.2.2.2.1
  have hts := X.2.2.2.2.1
  have hl := lv_entry [cv Φ (some x0), cv Φ x1] (n := 4) (by simp only [lgs_r, lgs_i, lgs_l, lgs_0, List.length]; exact Nat.le_of_ble_eq_true rfl)
  rw [lg_entry_eq]
  generalize (lg_sl [cv Φ (some x0), cv Φ x1] ++ List.replicate (4 - (lg_sl [cv Φ (some x0), cv Φ x1]).length) Slot.unset).toArray = ls at hl ⊢
  simp only [lv_args_r, lv_args_i, lv_args_l, lv_args_0] at hl
  have hl : lv_has ls 4 [(0, cv Φ (some x0)), (1, cv Φ x1)] := hl
  have hS : va_S (cReg Φ) s.heap s.heap [] := va_S.rf
  show cWw p l e 1 0 0 25 s m [cv Φ (some x0), cv Φ x1].toArray below meth c D Φ q none s.heap [] 0 0 (F0 m 0 ls [])
  have h : (f_X9_findVariables_3 x0 4000 (x1) ((12:Int32)) σ) = some q := h
  refine lv_bipush (v := (12:Int32)) hx hb dX9_findVariables_0 (by decide) ?_
  refine c_istore_n hx hb dX9_findVariables_2 rfl hl (Nat.le_of_ble_eq_true rfl) (lvKa rfl (lvKr lvK0)) rfl (fun ls (hl : lv_has ls 4 [(2, .int (12:Int32)), (0, cv Φ (some x0)), (1, cv Φ x1)]) => ?_)
  exact N_X9_findVariables_3 X hP hS (lv_sub hl [1, 2, 0] rfl) h
theorem ww_X9_findVariables : Cond.instanceMethod yX9_findVariables ∈ BG ∧ Cond.selects (yX9_findVariables).cls yX9_findVariables yX9_findVariables ∈ BG ∧ Cond.initialized (yX9_findVariables).cls ∈ BG ∧ Cond.code yX9_findVariables cX9_findVariables 4 none ∈ BG := ⟨w_1015, w_34, w_57, w_1016⟩
theorem hy_X9_findVariables : (yX9_findVariables).cls ≠ "java/lang/invoke/MethodHandle" ∧ (yX9_findVariables).cls ≠ "java/lang/invoke/VarHandle" ∧ (parseMethodDescriptor (yX9_findVariables).desc).map (fun d => d.parameters.length) = some 1 := ⟨by decide, by decide, by decide +kernel⟩
def f_X9_evaluated_189  (x0 : Nat) (y0 : Int32) (σ : cS) : Option (Int32) := some y0
def f_X9_evaluated_184  (x0 : Nat) (x1 : Int32) (σ : cS) : Option (Int32) := (aI σ (some 0) x1).bind (fun v1 => f_X9_evaluated_189 x0 (v1) σ)
def f_X9_evaluated_233  (x0 : Nat) (y0 : Int32) (σ : cS) : Option (Int32) := some y0
def f_X9_evaluated_190  (x0 : Nat) (x3 : Int32) (x5 : Int32) (σ : cS) : Option (Int32) := (ldv ((x3).toInt64 * (x5).toInt64) (100:Int64)).bind (fun v1 => if (0:Int32) ≤ (lg_cmp v1 ((-100000):Int64)) then (if (lg_cmp v1 (100000:Int64)) ≤ (0:Int32) then (f_X9_evaluated_233 x0 ((v1).toInt32) σ) else (f_X9_evaluated_233 x0 ((100000:Int32)) σ)) else (f_X9_evaluated_233 x0 (((-100000):Int32)) σ))
def f_X9_evaluated_96  (x0 : Nat) (x3 : Int32) (y0 : Int32) (σ : cS) : Option (Int32) := f_X9_evaluated_190 x0 (x3) (y0) σ
def f_X9_evaluated_143  (x0 : Nat) (x3 : Int32) (y0 : Int32) (σ : cS) : Option (Int32) := f_X9_evaluated_190 x0 (x3) (y0) σ
def f_X9_evaluated_127  (x0 : Nat) (x1 : Int32) (x3 : Int32) (σ : cS) : Option (Int32) := if x1 = (2:Int32) then ((gI σ (some x0) 9 11).bind (fun v2 => f_X9_evaluated_143 x0 (x3) (v2) σ)) else ((gI σ (some x0) 9 10).bind (fun v1 => f_X9_evaluated_143 x0 (x3) (v1) σ))
def f_X9_evaluated_26  (x0 : Nat) (x1 : Int32) (x2 : Int32) (x3 : Int32) (y0 : Int32) (σ : cS) : Option (Int32) := if x2 = (0:Int32) then (some x3) else (if x2 = (1:Int32) then (some x3) else (if x2 = (2:Int32) then (if x1 = (1:Int32) then ((gI σ (some x0) 9 10).bind (fun v3 => f_X9_evaluated_96 x0 (x3) (v3) σ)) else ((gR σ (some x0) 9 0).bind (fun v1 => (aI σ v1 (1:Int32)).bind (fun v2 => f_X9_evaluated_96 x0 (x3) (v2) σ)))) else (if x2 = (3:Int32) then ((gI σ (some x0) 9 12).bind (fun v4 => f_X9_evaluated_190 x0 (x3) (v4) σ)) else (if x2 = (4:Int32) then (if x1 = (2:Int32) then ((gI σ (some x0) 9 11).bind (fun v5 => if v5 = ((-1000000):Int32) then (some ((-1000000):Int32)) else (f_X9_evaluated_127 x0 (x1) (x3) σ))) else (f_X9_evaluated_127 x0 (x1) (x3) σ)) else (if x2 = (5:Int32) then ((gI σ (some x0) 9 13).bind (fun v6 => f_X9_evaluated_190 x0 (x3) (v6) σ)) else (if x2 = (6:Int32) then (some ((-1000000):Int32)) else (if y0 = (0:Int32) then (f_X9_evaluated_184 x0 (x1) σ) else ((gR σ (some x0) 9 9).bind (fun v7 => if v7 = none then (f_X9_evaluated_184 x0 (x1) σ) else ((gR σ (some x0) 9 9).bind (fun v8 => (gR σ v8 9 0).bind (fun v9 => (aI σ v9 x1).bind (fun v10 => f_X9_evaluated_189 x0 (v10) σ)))))))))))))
def f_X9_evaluated_21  (x0 : Nat) (x1 : Int32) (x2 : Int32) (x3 : Int32) (σ : cS) : Option (Int32) := f_X9_evaluated_26 x0 (x1) (x2) (x3) ((1:Int32)) σ
def f_X9_evaluated_25  (x0 : Nat) (x1 : Int32) (x2 : Int32) (x3 : Int32) (σ : cS) : Option (Int32) := f_X9_evaluated_26 x0 (x1) (x2) (x3) ((0:Int32)) σ
def f_X9_evaluated (x0 : Nat) (x1 : Int32) (x2 : Int32) (x3 : Int32) (σ : cS) : Option (Int32) := if x2 = (8:Int32) then (f_X9_evaluated_21 x0 (x1) (x2) (x3) σ) else (if x2 = (9:Int32) then (if x1 = (0:Int32) then (f_X9_evaluated_21 x0 (x1) (x2) (x3) σ) else (if x1 = (1:Int32) then (f_X9_evaluated_21 x0 (x1) (x2) (x3) σ) else (f_X9_evaluated_25 x0 (x1) (x2) (x3) σ))) else (f_X9_evaluated_25 x0 (x1) (x2) (x3) σ))
set_option maxRecDepth 20000 in
set_option maxHeartbeats 4000000 in
theorem N_X9_evaluated_189 {p : Program} {l : Launch} {e : Env} {s : State} {m : MethodId} {args : Array Value} {below : List Frame} {meth : Method} {c : Code} {D : cD} {Φ : cG} {x0 : Nat}   {y0 : Int32} {σ : cS} {ls : Array Slot} {r : Int32} (X : cX p s m args meth c cX9_evaluated 8 (some .int) RX9 D Φ) (hP : cP D Φ σ s.heap) (hS : va_S (cReg Φ) s.heap s.heap [])  (hl : lv_has ls 8 []) (h : f_X9_evaluated_189  x0 y0 σ = some r) : cWr p l e 0 0 s m args below meth c (some (.int r)) (F0 m 189 ls [.int y0]) := by
  have hx := X.1
  have hb := X.2.1
  have hown := X.2.2.2.1
  have hts := X.2.2.2.2.1
  have h : (some y0) = some r := h
  obtain rfl := sj h
  exact c_ri X dX9_evaluated_189
set_option maxRecDepth 20000 in
set_option maxHeartbeats 4000000 in
theorem N_X9_evaluated_184 {p : Program} {l : Launch} {e : Env} {s : State} {m : MethodId} {args : Array Value} {below : List Frame} {meth : Method} {c : Code} {D : cD} {Φ : cG} {x0 : Nat}   {x1 : Int32} {σ : cS} {ls : Array Slot} {r : Int32} (X : cX p s m args meth c cX9_evaluated 8 (some .int) RX9 D Φ) (hP : cP D Φ σ s.heap) (hS : va_S (cReg Φ) s.heap s.heap [])  (hl : lv_has ls 8 [(1, .int x1)]) (h : f_X9_evaluated_184  x0 x1 σ = some r) : cWr p l e 0 0 s m args below meth c (some (.int r)) (F0 m 184 ls []) := by
  have hx := X.1
  have hb := X.2.1
  have hown := X.2.2.2.1
  have hts := X.2.2.2.2.1
  have h : ((aI σ (some 0) x1).bind (fun v1 => f_X9_evaluated_189 x0 (v1) σ)) = some r := h
  refine c_getsN X hS cn_5 dX9_evaluated_184 ?_
  refine lv_iload_n hx hb dX9_evaluated_187 rfl (lv_at hl 0 rfl) ?_
  obtain ⟨v1, hv1, h⟩ := ob h
  refine c_ald X hP hv1 dX9_evaluated_188 ?_
  exact N_X9_evaluated_189 X hP hS (lv_sub hl [] rfl) h
set_option maxRecDepth 20000 in
set_option maxHeartbeats 4000000 in
theorem N_X9_evaluated_233 {p : Program} {l : Launch} {e : Env} {s : State} {m : MethodId} {args : Array Value} {below : List Frame} {meth : Method} {c : Code} {D : cD} {Φ : cG} {x0 : Nat}   {y0 : Int32} {σ : cS} {ls : Array Slot} {r : Int32} (X : cX p s m args meth c cX9_evaluated 8 (some .int) RX9 D Φ) (hP : cP D Φ σ s.heap) (hS : va_S (cReg Φ) s.heap s.heap [])  (hl : lv_has ls 8 []) (h : f_X9_evaluated_233  x0 y0 σ = some r) : cWr p l e 0 0 s m args below meth c (some (.int r)) (F0 m 233 ls [.int y0]) := by
  have hx := X.1
  have hb := X.2.1
  have hown := X.2.2.2.1
  have hts := X.2.2.2.2.1
  have h : (some y0) = some r := h
  obtain rfl := sj h
  exact c_ri X dX9_evaluated_233
set_option maxRecDepth 20000 in
set_option maxHeartbeats 4000000 in
theorem N_X9_evaluated_190 {p : Program} {l : Launch} {e : Env} {s : State} {m : MethodId} {args : Array Value} {below : List Frame} {meth : Method} {c : Code} {D : cD} {Φ : cG} {x0 : Nat}   {x3 : Int32} {x5 : Int32} {σ : cS} {ls : Array Slot} {r : Int32} (X : cX p s m args meth c cX9_evaluated 8 (some .int) RX9 D Φ) (hP : cP D Φ σ s.heap) (hS : va_S (cReg Φ) s.heap s.heap [])  (hl : lv_has ls 8 [(3, .int x3), (5, .int x5)]) (h : f_X9_evaluated_190  x0 x3 x5 σ = some r) : cWr p l e 0 0 s m args below meth c (some (.int r)) (F0 m 190 ls []) := by
  have hx := X.1
  have hb := X.2.1
  have hown := X.2.2.2.1
  have hts := X.2.2.2.2.1
  have h : ((ldv ((x3).toInt64 * (x5).toInt64) (100:Int64)).bind (fun v1 => if (0:Int32) ≤ (lg_cmp v1 ((-100000):Int64)) then (if (lg_cmp v1 (100000:Int64)) ≤ (0:Int32) then (f_X9_evaluated_233 x0 ((v1).toInt32) σ) else (f_X9_evaluated_233 x0 ((100000:Int32)) σ)) else (f_X9_evaluated_233 x0 (((-100000):Int32)) σ))) = some r := h
  refine lv_iload_n hx hb dX9_evaluated_190 rfl (lv_at hl 0 rfl) ?_
  refine lv_i2l hx hb dX9_evaluated_191 rfl ?_
  refine lv_iload hx hb dX9_evaluated_192 (lv_at hl 1 rfl) ?_
  refine lv_i2l hx hb dX9_evaluated_194 rfl ?_
  refine lv_lmul hx hb dX9_evaluated_195 ?_
  refine lv_ldc2 hx hb hown (hts _ w_1039) dX9_evaluated_196 ?_
  obtain ⟨v1, hv1, h⟩ := ob h
  obtain ⟨hnv1, hev1⟩ := ldv_spec hv1
  refine lv_ldiv hx hb dX9_evaluated_199 hnv1 ?_
  rw [hev1]
  refine c_lstore hx hb dX9_evaluated_200 hl (Nat.le_of_ble_eq_true rfl) (lvKa rfl (lvKi lvK0)) rfl (fun ls (hl : lv_has ls 8 [(6, .long v1), (3, .int x3), (5, .int x5)]) => ?_)
  refine lv_lload hx hb dX9_evaluated_202 (lv_at hl 0 rfl) ?_
  refine lv_ldc2 hx hb hown (hts _ w_1040) dX9_evaluated_204 ?_
  refine W.lcmp hx hb dX9_evaluated_207 ?_
  refine lv_if_ge (tgt := 216) hx hb dX9_evaluated_208 rfl (fun hc => ?_) (fun hc => ?_)
  · have h := ip hc h
    refine lv_lload hx hb dX9_evaluated_216 (lv_at hl 0 rfl) ?_
    refine lv_ldc2 hx hb hown (hts _ w_1042) dX9_evaluated_218 ?_
    refine W.lcmp hx hb dX9_evaluated_221 ?_
    refine lv_if_le (tgt := 230) hx hb dX9_evaluated_222 rfl (fun hc => ?_) (fun hc => ?_)
    · have h := ip hc h
      refine lv_lload hx hb dX9_evaluated_230 (lv_at hl 0 rfl) ?_
      refine lv_l2i hx hb dX9_evaluated_232 rfl ?_
      exact N_X9_evaluated_233 X hP hS (lv_sub hl [] rfl) h
    · have h := ine hc h
      refine lv_ldc hx hb hown (hts _ w_1027) dX9_evaluated_225 ?_
      refine lv_goto (tgt := 233) hx hb dX9_evaluated_227 rfl ?_
      exact N_X9_evaluated_233 X hP hS (lv_sub hl [] rfl) h
  · have h := ine hc h
    refine lv_ldc hx hb hown (hts _ w_1041) dX9_evaluated_211 ?_
    refine lv_goto (tgt := 233) hx hb dX9_evaluated_213 rfl ?_
    exact N_X9_evaluated_233 X hP hS (lv_sub hl [] rfl) h
set_option maxRecDepth 20000 in
set_option maxHeartbeats 4000000 in
theorem N_X9_evaluated_96 {p : Program} {l : Launch} {e : Env} {s : State} {m : MethodId} {args : Array Value} {below : List Frame} {meth : Method} {c : Code} {D : cD} {Φ : cG} {x0 : Nat}   {x3 : Int32} {y0 : Int32} {σ : cS} {ls : Array Slot} {r : Int32} (X : cX p s m args meth c cX9_evaluated 8 (some .int) RX9 D Φ) (hP : cP D Φ σ s.heap) (hS : va_S (cReg Φ) s.heap s.heap [])  (hl : lv_has ls 8 [(3, .int x3)]) (h : f_X9_evaluated_96  x0 x3 y0 σ = some r) : cWr p l e 0 0 s m args below meth c (some (.int r)) (F0 m 96 ls [.int y0]) := by
  have hx := X.1
  have hb := X.2.1
  have hown := X.2.2.2.1
  have hts := X.2.2.2.2.1
  have h : (f_X9_evaluated_190 x0 (x3) (y0) σ) = some r := h
  refine c_istore hx hb dX9_evaluated_96 hl (Nat.le_of_ble_eq_true rfl) (lvKa rfl lvK0) rfl (fun ls (hl : lv_has ls 8 [(5, .int y0), (3, .int x3)]) => ?_)
  refine lv_goto (tgt := 190) hx hb dX9_evaluated_98 rfl ?_
  exact N_X9_evaluated_190 X hP hS (lv_sub hl [1, 0] rfl) h
set_option maxRecDepth 20000 in
set_option maxHeartbeats 4000000 in
theorem N_X9_evaluated_143 {p : Program} {l : Launch} {e : Env} {s : State} {m : MethodId} {args : Array Value} {below : List Frame} {meth : Method} {c : Code} {D : cD} {Φ : cG} {x0 : Nat}   {x3 : Int32} {y0 : Int32} {σ : cS} {ls : Array Slot} {r : Int32} (X : cX p s m args meth c cX9_evaluated 8 (some .int) RX9 D Φ) (hP : cP D Φ σ s.heap) (hS : va_S (cReg Φ) s.heap s.heap [])  (hl : lv_has ls 8 [(3, .int x3)]) (h : f_X9_evaluated_143  x0 x3 y0 σ = some r) : cWr p l e 0 0 s m args below meth c (some (.int r)) (F0 m 143 ls [.int y0]) := by
  have hx := X.1
  have hb := X.2.1
  have hown := X.2.2.2.1
  have hts := X.2.2.2.2.1
  have h : (f_X9_evaluated_190 x0 (x3) (y0) σ) = some r := h
  refine c_istore hx hb dX9_evaluated_143 hl (Nat.le_of_ble_eq_true rfl) (lvKa rfl lvK0) rfl (fun ls (hl : lv_has ls 8 [(5, .int y0), (3, .int x3)]) => ?_)
  refine lv_goto (tgt := 190) hx hb dX9_evaluated_145 rfl ?_
  exact N_X9_evaluated_190 X hP hS (lv_sub hl [1, 0] rfl) h
set_option maxRecDepth 20000 in
set_option maxHeartbeats 4000000 in
theorem N_X9_evaluated_127 {p : Program} {l : Launch} {e : Env} {s : State} {m : MethodId} {args : Array Value} {below : List Frame} {meth : Method} {c : Code} {D : cD} {Φ : cG} {x0 : Nat}   {x1 : Int32} {x3 : Int32} {σ : cS} {ls : Array Slot} {r : Int32} (X : cX p s m args meth c cX9_evaluated 8 (some .int) RX9 D Φ) (hP : cP D Φ σ s.heap) (hS : va_S (cReg Φ) s.heap s.heap [])  (hl : lv_has ls 8 [(0, cv Φ (some x0)), (1, .int x1), (3, .int x3)]) (h : f_X9_evaluated_127  x0 x1 x3 σ = some r) : cWr p l e 0 0 s m args below meth c (some (.int r)) (F0 m 127 ls []) := by
  have hx := X.1
  have hb := X.2.1
  have hown := X.2.2.2.1
  have hts := X.2.2.2.2.1
  have h : (if x1 = (2:Int32) then ((gI σ (some x0) 9 11).bind (fun v2 => f_X9_evaluated_143 x0 (x3) (v2) σ)) else ((gI σ (some x0) 9 10).bind (fun v1 => f_X9_evaluated_143 x0 (x3) (v1) σ))) = some r := h
  refine lv_iload_n hx hb dX9_evaluated_127 rfl (lv_at hl 1 rfl) ?_
  refine lv_iconst (v := (2:Int32)) hx hb dX9_evaluated_128 (by decide) ?_
  refine lv_icmp_ne (tgt := 139) hx hb dX9_evaluated_129 rfl (fun hc => ?_) (fun hc => ?_)
  · have h := ine hc h
    refine c_aload_n hx hb dX9_evaluated_139 rfl (lv_at hl 0 rfl) ?_
    obtain ⟨v1, hv1, h⟩ := ob h
    refine c_gI X hP hv1 (Nat.le_of_ble_eq_true rfl) (Nat.le_of_ble_eq_true rfl) rfl w_108 dX9_evaluated_140 ?_
    exact N_X9_evaluated_143 X hP hS (lv_sub hl [2] rfl) h
  · have h := ip hc h
    refine c_aload_n hx hb dX9_evaluated_132 rfl (lv_at hl 0 rfl) ?_
    obtain ⟨v2, hv2, h⟩ := ob h
    refine c_gI X hP hv2 (Nat.le_of_ble_eq_true rfl) (Nat.le_of_ble_eq_true rfl) rfl w_109 dX9_evaluated_133 ?_
    refine lv_goto (tgt := 143) hx hb dX9_evaluated_136 rfl ?_
    exact N_X9_evaluated_143 X hP hS (lv_sub hl [2] rfl) h
set_option maxRecDepth 20000 in
set_option maxHeartbeats 4000000 in
theorem N_X9_evaluated_26 {p : Program} {l : Launch} {e : Env} {s : State} {m : MethodId} {args : Array Value} {below : List Frame} {meth : Method} {c : Code} {D : cD} {Φ : cG} {x0 : Nat}   {x1 : Int32} {x2 : Int32} {x3 : Int32} {y0 : Int32} {σ : cS} {ls : Array Slot} {r : Int32} (X : cX p s m args meth c cX9_evaluated 8 (some .int) RX9 D Φ) (hP : cP D Φ σ s.heap) (hS : va_S (cReg Φ) s.heap s.heap [])  (hl : lv_has ls 8 [(0, cv Φ (some x0)), (1, .int x1), (2, .int x2), (3, .int x3)]) (h : f_X9_evaluated_26  x0 x1 x2 x3 y0 σ = some r) : cWr p l e 0 0 s m args below meth c (some (.int r)) (F0 m 26 ls [.int y0]) := by
  have hx := X.1
  have hb := X.2.1
  have hown := X.2.2.2.1
  have hts := X.2.2.2.2.1
  have h : (if x2 = (0:Int32) then (some x3) else (if x2 = (1:Int32) then (some x3) else (if x2 = (2:Int32) then (if x1 = (1:Int32) then ((gI σ (some x0) 9 10).bind (fun v3 => f_X9_evaluated_96 x0 (x3) (v3) σ)) else ((gR σ (some x0) 9 0).bind (fun v1 => (aI σ v1 (1:Int32)).bind (fun v2 => f_X9_evaluated_96 x0 (x3) (v2) σ)))) else (if x2 = (3:Int32) then ((gI σ (some x0) 9 12).bind (fun v4 => f_X9_evaluated_190 x0 (x3) (v4) σ)) else (if x2 = (4:Int32) then (if x1 = (2:Int32) then ((gI σ (some x0) 9 11).bind (fun v5 => if v5 = ((-1000000):Int32) then (some ((-1000000):Int32)) else (f_X9_evaluated_127 x0 (x1) (x3) σ))) else (f_X9_evaluated_127 x0 (x1) (x3) σ)) else (if x2 = (5:Int32) then ((gI σ (some x0) 9 13).bind (fun v6 => f_X9_evaluated_190 x0 (x3) (v6) σ)) else (if x2 = (6:Int32) then (some ((-1000000):Int32)) else (if y0 = (0:Int32) then (f_X9_evaluated_184 x0 (x1) σ) else ((gR σ (some x0) 9 9).bind (fun v7 => if v7 = none then (f_X9_evaluated_184 x0 (x1) σ) else ((gR σ (some x0) 9 9).bind (fun v8 => (gR σ v8 9 0).bind (fun v9 => (aI σ v9 x1).bind (fun v10 => f_X9_evaluated_189 x0 (v10) σ)))))))))))))) = some r := h
  refine c_istore hx hb dX9_evaluated_26 hl (Nat.le_of_ble_eq_true rfl) (lvKa rfl (lvKa rfl (lvKa rfl (lvKi lvK0)))) rfl (fun ls (hl : lv_has ls 8 [(4, .int y0), (0, cv Φ (some x0)), (1, .int x1), (2, .int x2), (3, .int x3)]) => ?_)
  refine lv_iconst (v := (0:Int32)) hx hb dX9_evaluated_28 (by decide) ?_
  refine c_istore hx hb dX9_evaluated_29 hl (Nat.le_of_ble_eq_true rfl) (lvKi (lvKa rfl (lvKa rfl (lvKa rfl (lvKa rfl lvK0))))) rfl (fun ls (hl : lv_has ls 8 [(5, .int (0:Int32)), (4, .int y0), (0, cv Φ (some x0)), (1, .int x1), (2, .int x2), (3, .int x3)]) => ?_)
  refine lv_iload_n hx hb dX9_evaluated_31 rfl (lv_at hl 4 rfl) ?_
  by_cases hc0 : x2 = (0:Int32)
  · have h := ip hc0 h
    refine lv_tableIn (tgt := 76) (off := 44) hx hb dX9_evaluated_32 (by rw [hc0]; decide) (by rw [hc0]; decide) (by rw [hc0]; rfl) rfl ?_
    refine lv_iload_n hx hb dX9_evaluated_76 rfl (lv_at hl 5 rfl) ?_
    obtain rfl := sj h
    exact c_ri X dX9_evaluated_77
  · have h := ine hc0 h
    by_cases hc1 : x2 = (1:Int32)
    · have h := ip hc1 h
      refine lv_tableIn (tgt := 76) (off := 44) hx hb dX9_evaluated_32 (by rw [hc1]; decide) (by rw [hc1]; decide) (by rw [hc1]; rfl) rfl ?_
      refine lv_iload_n hx hb dX9_evaluated_76 rfl (lv_at hl 5 rfl) ?_
      obtain rfl := sj h
      exact c_ri X dX9_evaluated_77
    · have h := ine hc1 h
      by_cases hc2 : x2 = (2:Int32)
      · have h := ip hc2 h
        refine lv_tableIn (tgt := 78) (off := 46) hx hb dX9_evaluated_32 (by rw [hc2]; decide) (by rw [hc2]; decide) (by rw [hc2]; rfl) rfl ?_
        refine lv_iload_n hx hb dX9_evaluated_78 rfl (lv_at hl 3 rfl) ?_
        refine lv_iconst (v := (1:Int32)) hx hb dX9_evaluated_79 (by decide) ?_
        refine lv_icmp_ne (tgt := 90) hx hb dX9_evaluated_80 rfl (fun hc => ?_) (fun hc => ?_)
        · have h := ine hc h
          refine c_aload_n hx hb dX9_evaluated_90 rfl (lv_at hl 2 rfl) ?_
          obtain ⟨v1, hv1, h⟩ := ob h
          refine c_gR X hP hv1 (Nat.le_of_ble_eq_true rfl) (Nat.le_of_ble_eq_true rfl) rfl w_93 dX9_evaluated_91 ?_
          refine lv_iconst (v := (1:Int32)) hx hb dX9_evaluated_94 (by decide) ?_
          obtain ⟨v2, hv2, h⟩ := ob h
          refine c_ald X hP hv2 dX9_evaluated_95 ?_
          exact N_X9_evaluated_96 X hP hS (lv_sub hl [5] rfl) h
        · have h := ip hc h
          refine c_aload_n hx hb dX9_evaluated_83 rfl (lv_at hl 2 rfl) ?_
          obtain ⟨v3, hv3, h⟩ := ob h
          refine c_gI X hP hv3 (Nat.le_of_ble_eq_true rfl) (Nat.le_of_ble_eq_true rfl) rfl w_108 dX9_evaluated_84 ?_
          refine lv_goto (tgt := 96) hx hb dX9_evaluated_87 rfl ?_
          exact N_X9_evaluated_96 X hP hS (lv_sub hl [5] rfl) h
      · have h := ine hc2 h
        by_cases hc3 : x2 = (3:Int32)
        · have h := ip hc3 h
          refine lv_tableIn (tgt := 101) (off := 69) hx hb dX9_evaluated_32 (by rw [hc3]; decide) (by rw [hc3]; decide) (by rw [hc3]; rfl) rfl ?_
          refine c_aload_n hx hb dX9_evaluated_101 rfl (lv_at hl 2 rfl) ?_
          obtain ⟨v4, hv4, h⟩ := ob h
          refine c_gI X hP hv4 (Nat.le_of_ble_eq_true rfl) (Nat.le_of_ble_eq_true rfl) rfl w_110 dX9_evaluated_102 ?_
          refine c_istore hx hb dX9_evaluated_105 hl (Nat.le_of_ble_eq_true rfl) (lvKa rfl (lvKi (lvKa rfl (lvKa rfl (lvKa rfl (lvKa rfl lvK0)))))) rfl (fun ls (hl : lv_has ls 8 [(5, .int v4), (4, .int y0), (0, cv Φ (some x0)), (1, .int x1), (2, .int x2), (3, .int x3)]) => ?_)
          refine lv_goto (tgt := 190) hx hb dX9_evaluated_107 rfl ?_
          exact N_X9_evaluated_190 X hP hS (lv_sub hl [5, 0] rfl) h
        · have h := ine hc3 h
          by_cases hc4 : x2 = (4:Int32)
          · have h := ip hc4 h
            refine lv_tableIn (tgt := 110) (off := 78) hx hb dX9_evaluated_32 (by rw [hc4]; decide) (by rw [hc4]; decide) (by rw [hc4]; rfl) rfl ?_
            refine lv_iload_n hx hb dX9_evaluated_110 rfl (lv_at hl 3 rfl) ?_
            refine lv_iconst (v := (2:Int32)) hx hb dX9_evaluated_111 (by decide) ?_
            refine lv_icmp_ne (tgt := 127) hx hb dX9_evaluated_112 rfl (fun hc => ?_) (fun hc => ?_)
            · have h := ine hc h
              exact N_X9_evaluated_127 X hP hS (lv_sub hl [2, 3, 5] rfl) h
            · have h := ip hc h
              refine c_aload_n hx hb dX9_evaluated_115 rfl (lv_at hl 2 rfl) ?_
              obtain ⟨v5, hv5, h⟩ := ob h
              refine c_gI X hP hv5 (Nat.le_of_ble_eq_true rfl) (Nat.le_of_ble_eq_true rfl) rfl w_109 dX9_evaluated_116 ?_
              refine lv_ldc hx hb hown (hts _ w_1036) dX9_evaluated_119 ?_
              refine lv_icmp_ne (tgt := 127) hx hb dX9_evaluated_121 rfl (fun hc => ?_) (fun hc => ?_)
              · have h := ine hc h
                exact N_X9_evaluated_127 X hP hS (lv_sub hl [2, 3, 5] rfl) h
              · have h := ip hc h
                refine lv_ldc hx hb hown (hts _ w_1036) dX9_evaluated_124 ?_
                obtain rfl := sj h
                exact c_ri X dX9_evaluated_126
          · have h := ine hc4 h
            by_cases hc5 : x2 = (5:Int32)
            · have h := ip hc5 h
              refine lv_tableIn (tgt := 148) (off := 116) hx hb dX9_evaluated_32 (by rw [hc5]; decide) (by rw [hc5]; decide) (by rw [hc5]; rfl) rfl ?_
              refine c_aload_n hx hb dX9_evaluated_148 rfl (lv_at hl 2 rfl) ?_
              obtain ⟨v6, hv6, h⟩ := ob h
              refine c_gI X hP hv6 (Nat.le_of_ble_eq_true rfl) (Nat.le_of_ble_eq_true rfl) rfl w_111 dX9_evaluated_149 ?_
              refine c_istore hx hb dX9_evaluated_152 hl (Nat.le_of_ble_eq_true rfl) (lvKa rfl (lvKi (lvKa rfl (lvKa rfl (lvKa rfl (lvKa rfl lvK0)))))) rfl (fun ls (hl : lv_has ls 8 [(5, .int v6), (4, .int y0), (0, cv Φ (some x0)), (1, .int x1), (2, .int x2), (3, .int x3)]) => ?_)
              refine lv_goto (tgt := 190) hx hb dX9_evaluated_154 rfl ?_
              exact N_X9_evaluated_190 X hP hS (lv_sub hl [5, 0] rfl) h
            · have h := ine hc5 h
              by_cases hc6 : x2 = (6:Int32)
              · have h := ip hc6 h
                refine lv_tableIn (tgt := 157) (off := 125) hx hb dX9_evaluated_32 (by rw [hc6]; decide) (by rw [hc6]; decide) (by rw [hc6]; rfl) rfl ?_
                refine lv_ldc hx hb hown (hts _ w_1036) dX9_evaluated_157 ?_
                obtain rfl := sj h
                exact c_ri X dX9_evaluated_159
              · have h := ine hc6 h
                refine lv_tableOut (tgt := 160) hx hb dX9_evaluated_32 (sw_out (lo := 0) (hi := 6) (fun k h1 h2 => by
                  have h3 : k = 0 ∨ k = 1 ∨ k = 2 ∨ k = 3 ∨ k = 4 ∨ k = 5 ∨ k = 6 := by omega
                  rcases h3 with rfl | rfl | rfl | rfl | rfl | rfl | rfl
                  · exact hc0
                  · exact hc1
                  · exact hc2
                  · exact hc3
                  · exact hc4
                  · exact hc5
                  · exact hc6)) rfl ?_
                refine lv_iload hx hb dX9_evaluated_160 (lv_at hl 1 rfl) ?_
                refine lv_if_eq (tgt := 184) hx hb dX9_evaluated_162 rfl (fun hc => ?_) (fun hc => ?_)
                · have h := ip hc h
                  exact N_X9_evaluated_184 X hP hS (lv_sub hl [3] rfl) h
                · have h := ine hc h
                  refine c_aload_n hx hb dX9_evaluated_165 rfl (lv_at hl 2 rfl) ?_
                  obtain ⟨v7, hv7, h⟩ := ob h
                  refine c_gR X hP hv7 (Nat.le_of_ble_eq_true rfl) (Nat.le_of_ble_eq_true rfl) rfl w_107 dX9_evaluated_166 ?_
                  refine c_ifnull (Φ := Φ) (tgt := 184) hx hb dX9_evaluated_169 rfl (fun hc => ?_) (fun hc => ?_)
                  · have h := ip hc h
                    exact N_X9_evaluated_184 X hP hS (lv_sub hl [3] rfl) h
                  · have h := ine hc h
                    refine c_aload_n hx hb dX9_evaluated_172 rfl (lv_at hl 2 rfl) ?_
                    obtain ⟨v8, hv8, h⟩ := ob h
                    refine c_gR X hP hv8 (Nat.le_of_ble_eq_true rfl) (Nat.le_of_ble_eq_true rfl) rfl w_107 dX9_evaluated_173 ?_
                    obtain ⟨v9, hv9, h⟩ := ob h
                    refine c_gR X hP hv9 (Nat.le_of_ble_eq_true rfl) (Nat.le_of_ble_eq_true rfl) rfl w_93 dX9_evaluated_176 ?_
                    refine lv_iload_n hx hb dX9_evaluated_179 rfl (lv_at hl 3 rfl) ?_
                    obtain ⟨v10, hv10, h⟩ := ob h
                    refine c_ald X hP hv10 dX9_evaluated_180 ?_
                    refine lv_goto (tgt := 189) hx hb dX9_evaluated_181 rfl ?_
                    exact N_X9_evaluated_189 X hP hS (lv_sub hl [] rfl) h
set_option maxRecDepth 20000 in
set_option maxHeartbeats 4000000 in
theorem N_X9_evaluated_21 {p : Program} {l : Launch} {e : Env} {s : State} {m : MethodId} {args : Array Value} {below : List Frame} {meth : Method} {c : Code} {D : cD} {Φ : cG} {x0 : Nat}   {x1 : Int32} {x2 : Int32} {x3 : Int32} {σ : cS} {ls : Array Slot} {r : Int32} (X : cX p s m args meth c cX9_evaluated 8 (some .int) RX9 D Φ) (hP : cP D Φ σ s.heap) (hS : va_S (cReg Φ) s.heap s.heap [])  (hl : lv_has ls 8 [(0, cv Φ (some x0)), (1, .int x1), (2, .int x2), (3, .int x3)]) (h : f_X9_evaluated_21  x0 x1 x2 x3 σ = some r) : cWr p l e 0 0 s m args below meth c (some (.int r)) (F0 m 21 ls []) := by
  have hx := X.1
  have hb := X.2.1
  have hown := X.2.2.2.1
  have hts := X.2.2.2.2.1
  have h : (f_X9_evaluated_26 x0 (x1) (x2) (x3) ((1:Int32)) σ) = some r := h
  refine lv_iconst (v := (1:Int32)) hx hb dX9_evaluated_21 (by decide) ?_
  refine lv_goto (tgt := 26) hx hb dX9_evaluated_22 rfl ?_
  exact N_X9_evaluated_26 X hP hS (lv_sub hl [0, 1, 2, 3] rfl) h
set_option maxRecDepth 20000 in
set_option maxHeartbeats 4000000 in
theorem N_X9_evaluated_25 {p : Program} {l : Launch} {e : Env} {s : State} {m : MethodId} {args : Array Value} {below : List Frame} {meth : Method} {c : Code} {D : cD} {Φ : cG} {x0 : Nat}   {x1 : Int32} {x2 : Int32} {x3 : Int32} {σ : cS} {ls : Array Slot} {r : Int32} (X : cX p s m args meth c cX9_evaluated 8 (some .int) RX9 D Φ) (hP : cP D Φ σ s.heap) (hS : va_S (cReg Φ) s.heap s.heap [])  (hl : lv_has ls 8 [(0, cv Φ (some x0)), (1, .int x1), (2, .int x2), (3, .int x3)]) (h : f_X9_evaluated_25  x0 x1 x2 x3 σ = some r) : cWr p l e 0 0 s m args below meth c (some (.int r)) (F0 m 25 ls []) := by
  have hx := X.1
  have hb := X.2.1
  have hown := X.2.2.2.1
  have hts := X.2.2.2.2.1
  have h : (f_X9_evaluated_26 x0 (x1) (x2) (x3) ((0:Int32)) σ) = some r := h
  refine lv_iconst (v := (0:Int32)) hx hb dX9_evaluated_25 (by decide) ?_
  exact N_X9_evaluated_26 X hP hS (lv_sub hl [0, 1, 2, 3] rfl) h
set_option maxRecDepth 20000 in
set_option maxHeartbeats 4000000 in
theorem K_X9_evaluated (l : Launch) (D : cD) (Φ : cG) (σ : cS) (x0 : Nat) (x1 : Int32) (x2 : Int32) (x3 : Int32) {r : Int32} (h : f_X9_evaluated x0 x1 x2 x3 σ = some r) : Met l yX9_evaluated (Cond.code yX9_evaluated cX9_evaluated 8 (some .int) :: BG) (rA 0 0 0 0) (cPc D Φ σ [cv Φ (some x0), .int x1, .int x2, .int x3]) (cQr (some (.int r))) 0 0 (fun _ => False) := by
  refine Met.ofW (cc := cX9_evaluated) (maxL := 8) (ret := (some .int)) (by decide) rfl ?_
  intro p e s m args below meth c s₁ B hml hv
  obtain ⟨rfl, hP, hK, hZ⟩ := hv
  have X : cX p s m [cv Φ (some x0), .int x1, .int x2, .int x3].toArray meth c cX9_evaluated 8 (some .int) RX9 D Φ := cX_of B hml hK hZ
  have hx := X.1
  have hb := X.2.1
  have hown := X.2.2.2.1
  have hts := X.2.2.2.2.1
  have hl := lv_entry [cv Φ (some x0), .int x1, .int x2, .int x3] (n := 8) (by simp only [lgs_r, lgs_i, lgs_l, lgs_0, List.length]; exact Nat.le_of_ble_eq_true rfl)
  rw [lg_entry_eq]
  generalize (lg_sl [cv Φ (some x0), .int x1, .int x2, .int x3] ++ List.replicate (8 - (lg_sl [cv Φ (some x0), .int x1, .int x2, .int x3]).length) Slot.unset).toArray = ls at hl ⊢
  simp only [lv_args_r, lv_args_i, lv_args_l, lv_args_0] at hl
  have hl : lv_has ls 8 [(0, cv Φ (some x0)), (1, .int x1), (2, .int x2), (3, .int x3)] := hl
  have hS : va_S (cReg Φ) s.heap s.heap [] := va_S.rf
  show cWr p l e 0 0 s m [cv Φ (some x0), .int x1, .int x2, .int x3].toArray below meth c (some (.int r)) (F0 m 0 ls [])
  have h : (if x2 = (8:Int32) then (f_X9_evaluated_21 x0 (x1) (x2) (x3) σ) else (if x2 = (9:Int32) then (if x1 = (0:Int32) then (f_X9_evaluated_21 x0 (x1) (x2) (x3) σ) else (if x1 = (1:Int32) then (f_X9_evaluated_21 x0 (x1) (x2) (x3) σ) else (f_X9_evaluated_25 x0 (x1) (x2) (x3) σ))) else (f_X9_evaluated_25 x0 (x1) (x2) (x3) σ))) = some r := h
  refine lv_iload_n hx hb dX9_evaluated_0 rfl (lv_at hl 2 rfl) ?_
  refine lv_bipush (v := (8:Int32)) hx hb dX9_evaluated_1 (by decide) ?_
  refine lv_icmp_eq (tgt := 21) hx hb dX9_evaluated_3 rfl (fun hc => ?_) (fun hc => ?_)
  · have h := ip hc h
    exact N_X9_evaluated_21 X hP hS (lv_sub hl [0, 1, 2, 3] rfl) h
  · have h := ine hc h
    refine lv_iload_n hx hb dX9_evaluated_6 rfl (lv_at hl 2 rfl) ?_
    refine lv_bipush (v := (9:Int32)) hx hb dX9_evaluated_7 (by decide) ?_
    refine lv_icmp_ne (tgt := 25) hx hb dX9_evaluated_9 rfl (fun hc => ?_) (fun hc => ?_)
    · have h := ine hc h
      exact N_X9_evaluated_25 X hP hS (lv_sub hl [0, 1, 2, 3] rfl) h
    · have h := ip hc h
      refine lv_iload_n hx hb dX9_evaluated_12 rfl (lv_at hl 1 rfl) ?_
      refine lv_if_eq (tgt := 21) hx hb dX9_evaluated_13 rfl (fun hc => ?_) (fun hc => ?_)
      · have h := ip hc h
        exact N_X9_evaluated_21 X hP hS (lv_sub hl [0, 1, 2, 3] rfl) h
      · have h := ine hc h
        refine lv_iload_n hx hb dX9_evaluated_16 rfl (lv_at hl 1 rfl) ?_
        refine lv_iconst (v := (1:Int32)) hx hb dX9_evaluated_17 (by decide) ?_
        refine lv_icmp_ne (tgt := 25) hx hb dX9_evaluated_18 rfl (fun hc => ?_) (fun hc => ?_)
        · have h := ine hc h
          exact N_X9_evaluated_25 X hP hS (lv_sub hl [0, 1, 2, 3] rfl) h
        · have h := ip hc h
          exact N_X9_evaluated_21 X hP hS (lv_sub hl [0, 1, 2, 3] rfl) h
theorem ww_X9_evaluated : Cond.instanceMethod yX9_evaluated ∈ BG ∧ Cond.selects (yX9_evaluated).cls yX9_evaluated yX9_evaluated ∈ BG ∧ Cond.initialized (yX9_evaluated).cls ∈ BG ∧ Cond.code yX9_evaluated cX9_evaluated 8 (some .int) ∈ BG := ⟨w_1034, w_38, w_57, w_1035⟩
theorem hy_X9_evaluated : (yX9_evaluated).cls ≠ "java/lang/invoke/MethodHandle" ∧ (yX9_evaluated).cls ≠ "java/lang/invoke/VarHandle" ∧ (parseMethodDescriptor (yX9_evaluated).desc).map (fun d => d.parameters.length) = some 3 := ⟨by decide, by decide, by decide +kernel⟩
def f_X11_suits_12     : Option (Int32) := rz (1:Int32)
def f_X11_suits_73   (y0 : Int32)  : Option (Int32) := rz y0
def f_X11_suits_89   (y0 : Int32)  : Option (Int32) := rz y0
def f_X11_suits_84     : Option (Int32) := f_X11_suits_89 ((1:Int32))
def f_X11_suits_100   (y0 : Int32)  : Option (Int32) := rz y0
def f_X11_suits_29   (x0 : Int32) (x1 : Int32) (y0 : Int32)  : Option (Int32) := if x1 = (0:Int32) then (if y0 = (0:Int32) then (f_X11_suits_73 ((1:Int32))) else (f_X11_suits_73 ((0:Int32)))) else (if x1 = (4:Int32) then (if x0 = (1:Int32) then (f_X11_suits_84) else (if x0 = (2:Int32) then (f_X11_suits_84) else (f_X11_suits_89 ((0:Int32))))) else (if x1 = (6:Int32) then (if x0 = (2:Int32) then (f_X11_suits_100 ((1:Int32))) else (f_X11_suits_100 ((0:Int32)))) else (rz y0)))
def f_X11_suits_28   (x0 : Int32) (x1 : Int32)  : Option (Int32) := f_X11_suits_29 (x0) (x1) ((0:Int32))
def f_X11_suits  (x0 : Int32) (x1 : Int32)  : Option (Int32) := if (12:Int32) ≤ x0 then (f_X11_suits_12) else (if x1 < (7:Int32) then (if x0 < (1:Int32) then (f_X11_suits_28 (x0) (x1)) else (if (4:Int32) < x0 then (f_X11_suits_28 (x0) (x1)) else (f_X11_suits_29 (x0) (x1) ((1:Int32))))) else (f_X11_suits_12))
set_option maxRecDepth 20000 in
set_option maxHeartbeats 4000000 in
theorem N_X11_suits_12 {p : Program} {l : Launch} {e : Env} {s : State} {m : MethodId} {args : Array Value} {below : List Frame} {meth : Method} {c : Code} {D : cD} {Φ : cG}     {σ : cS} {ls : Array Slot} {r : Int32} (X : cX p s m args meth c cX11_suits 3 (some .boolean) RX11 D Φ) (hP : cP D Φ σ s.heap) (hS : va_S (cReg Φ) s.heap s.heap [])  (hl : lv_has ls 3 []) (h : f_X11_suits_12    = some r) : cWr p l e 0 0 s m args below meth c (some (.int r)) (F0 m 12 ls []) := by
  have hx := X.1
  have hb := X.2.1
  have hown := X.2.2.2.1
  have hts := X.2.2.2.2.1
  have h : (rz (1:Int32)) = some r := h
  refine lv_iconst (v := (1:Int32)) hx hb dX11_suits_12 (by decide) ?_
  obtain ⟨hz, rfl⟩ := rz_spec h
  exact c_rz X hz dX11_suits_13
set_option maxRecDepth 20000 in
set_option maxHeartbeats 4000000 in
theorem N_X11_suits_73 {p : Program} {l : Launch} {e : Env} {s : State} {m : MethodId} {args : Array Value} {below : List Frame} {meth : Method} {c : Code} {D : cD} {Φ : cG}    {y0 : Int32} {σ : cS} {ls : Array Slot} {r : Int32} (X : cX p s m args meth c cX11_suits 3 (some .boolean) RX11 D Φ) (hP : cP D Φ σ s.heap) (hS : va_S (cReg Φ) s.heap s.heap [])  (hl : lv_has ls 3 []) (h : f_X11_suits_73   y0 = some r) : cWr p l e 0 0 s m args below meth c (some (.int r)) (F0 m 73 ls [.int y0]) := by
  have hx := X.1
  have hb := X.2.1
  have hown := X.2.2.2.1
  have hts := X.2.2.2.2.1
  have h : (rz y0) = some r := h
  obtain ⟨hz, rfl⟩ := rz_spec h
  exact c_rz X hz dX11_suits_73
set_option maxRecDepth 20000 in
set_option maxHeartbeats 4000000 in
theorem N_X11_suits_89 {p : Program} {l : Launch} {e : Env} {s : State} {m : MethodId} {args : Array Value} {below : List Frame} {meth : Method} {c : Code} {D : cD} {Φ : cG}    {y0 : Int32} {σ : cS} {ls : Array Slot} {r : Int32} (X : cX p s m args meth c cX11_suits 3 (some .boolean) RX11 D Φ) (hP : cP D Φ σ s.heap) (hS : va_S (cReg Φ) s.heap s.heap [])  (hl : lv_has ls 3 []) (h : f_X11_suits_89   y0 = some r) : cWr p l e 0 0 s m args below meth c (some (.int r)) (F0 m 89 ls [.int y0]) := by
  have hx := X.1
  have hb := X.2.1
  have hown := X.2.2.2.1
  have hts := X.2.2.2.2.1
  have h : (rz y0) = some r := h
  obtain ⟨hz, rfl⟩ := rz_spec h
  exact c_rz X hz dX11_suits_89
set_option maxRecDepth 20000 in
set_option maxHeartbeats 4000000 in
theorem N_X11_suits_84 {p : Program} {l : Launch} {e : Env} {s : State} {m : MethodId} {args : Array Value} {below : List Frame} {meth : Method} {c : Code} {D : cD} {Φ : cG}     {σ : cS} {ls : Array Slot} {r : Int32} (X : cX p s m args meth c cX11_suits 3 (some .boolean) RX11 D Φ) (hP : cP D Φ σ s.heap) (hS : va_S (cReg Φ) s.heap s.heap [])  (hl : lv_has ls 3 []) (h : f_X11_suits_84    = some r) : cWr p l e 0 0 s m args below meth c (some (.int r)) (F0 m 84 ls []) := by
  have hx := X.1
  have hb := X.2.1
  have hown := X.2.2.2.1
  have hts := X.2.2.2.2.1
  have h : (f_X11_suits_89 ((1:Int32))) = some r := h
  refine lv_iconst (v := (1:Int32)) hx hb dX11_suits_84 (by decide) ?_
  refine lv_goto (tgt := 89) hx hb dX11_suits_85 rfl ?_
  exact N_X11_suits_89 X hP hS (lv_sub hl [] rfl) h
set_option maxRecDepth 20000 in
set_option maxHeartbeats 4000000 in
theorem N_X11_suits_100 {p : Program} {l : Launch} {e : Env} {s : State} {m : MethodId} {args : Array Value} {below : List Frame} {meth : Method} {c : Code} {D : cD} {Φ : cG}    {y0 : Int32} {σ : cS} {ls : Array Slot} {r : Int32} (X : cX p s m args meth c cX11_suits 3 (some .boolean) RX11 D Φ) (hP : cP D Φ σ s.heap) (hS : va_S (cReg Φ) s.heap s.heap [])  (hl : lv_has ls 3 []) (h : f_X11_suits_100   y0 = some r) : cWr p l e 0 0 s m args below meth c (some (.int r)) (F0 m 100 ls [.int y0]) := by
  have hx := X.1
  have hb := X.2.1
  have hown := X.2.2.2.1
  have hts := X.2.2.2.2.1
  have h : (rz y0) = some r := h
  obtain ⟨hz, rfl⟩ := rz_spec h
  exact c_rz X hz dX11_suits_100
set_option maxRecDepth 20000 in
set_option maxHeartbeats 4000000 in
theorem N_X11_suits_29 {p : Program} {l : Launch} {e : Env} {s : State} {m : MethodId} {args : Array Value} {below : List Frame} {meth : Method} {c : Code} {D : cD} {Φ : cG}    {x0 : Int32} {x1 : Int32} {y0 : Int32} {σ : cS} {ls : Array Slot} {r : Int32} (X : cX p s m args meth c cX11_suits 3 (some .boolean) RX11 D Φ) (hP : cP D Φ σ s.heap) (hS : va_S (cReg Φ) s.heap s.heap [])  (hl : lv_has ls 3 [(0, .int x0), (1, .int x1)]) (h : f_X11_suits_29   x0 x1 y0 = some r) : cWr p l e 0 0 s m args below meth c (some (.int r)) (F0 m 29 ls [.int y0]) := by
  have hx := X.1
  have hb := X.2.1
  have hown := X.2.2.2.1
  have hts := X.2.2.2.2.1
  have h : (if x1 = (0:Int32) then (if y0 = (0:Int32) then (f_X11_suits_73 ((1:Int32))) else (f_X11_suits_73 ((0:Int32)))) else (if x1 = (4:Int32) then (if x0 = (1:Int32) then (f_X11_suits_84) else (if x0 = (2:Int32) then (f_X11_suits_84) else (f_X11_suits_89 ((0:Int32))))) else (if x1 = (6:Int32) then (if x0 = (2:Int32) then (f_X11_suits_100 ((1:Int32))) else (f_X11_suits_100 ((0:Int32)))) else (rz y0)))) = some r := h
  refine c_istore_n hx hb dX11_suits_29 rfl hl (Nat.le_of_ble_eq_true rfl) (lvKa rfl (lvKi lvK0)) rfl (fun ls (hl : lv_has ls 3 [(2, .int y0), (0, .int x0), (1, .int x1)]) => ?_)
  refine lv_iload_n hx hb dX11_suits_30 rfl (lv_at hl 2 rfl) ?_
  by_cases hc0 : x1 = (0:Int32)
  · have h := ip hc0 h
    refine lv_lookup (tgt := 64) (off := 33) hx hb dX11_suits_31 rfl (by rw [hc0]; rfl) rfl ?_
    refine lv_iload_n hx hb dX11_suits_64 rfl (lv_at hl 0 rfl) ?_
    refine lv_if_ne (tgt := 72) hx hb dX11_suits_65 rfl (fun hc => ?_) (fun hc => ?_)
    · have h := ine hc h
      refine lv_iconst (v := (0:Int32)) hx hb dX11_suits_72 (by decide) ?_
      exact N_X11_suits_73 X hP hS (lv_sub hl [] rfl) h
    · have h := ip hc h
      refine lv_iconst (v := (1:Int32)) hx hb dX11_suits_68 (by decide) ?_
      refine lv_goto (tgt := 73) hx hb dX11_suits_69 rfl ?_
      exact N_X11_suits_73 X hP hS (lv_sub hl [] rfl) h
  · have h := ine hc0 h
    by_cases hc1 : x1 = (4:Int32)
    · have h := ip hc1 h
      refine lv_lookup (tgt := 74) (off := 43) hx hb dX11_suits_31 rfl (by rw [hc1]; rfl) rfl ?_
      refine lv_iload_n hx hb dX11_suits_74 rfl (lv_at hl 1 rfl) ?_
      refine lv_iconst (v := (1:Int32)) hx hb dX11_suits_75 (by decide) ?_
      refine lv_icmp_eq (tgt := 84) hx hb dX11_suits_76 rfl (fun hc => ?_) (fun hc => ?_)
      · have h := ip hc h
        exact N_X11_suits_84 X hP hS (lv_sub hl [] rfl) h
      · have h := ine hc h
        refine lv_iload_n hx hb dX11_suits_79 rfl (lv_at hl 1 rfl) ?_
        refine lv_iconst (v := (2:Int32)) hx hb dX11_suits_80 (by decide) ?_
        refine lv_icmp_ne (tgt := 88) hx hb dX11_suits_81 rfl (fun hc => ?_) (fun hc => ?_)
        · have h := ine hc h
          refine lv_iconst (v := (0:Int32)) hx hb dX11_suits_88 (by decide) ?_
          exact N_X11_suits_89 X hP hS (lv_sub hl [] rfl) h
        · have h := ip hc h
          exact N_X11_suits_84 X hP hS (lv_sub hl [] rfl) h
    · have h := ine hc1 h
      by_cases hc2 : x1 = (6:Int32)
      · have h := ip hc2 h
        refine lv_lookup (tgt := 90) (off := 59) hx hb dX11_suits_31 rfl (by rw [hc2]; rfl) rfl ?_
        refine lv_iload_n hx hb dX11_suits_90 rfl (lv_at hl 1 rfl) ?_
        refine lv_iconst (v := (2:Int32)) hx hb dX11_suits_91 (by decide) ?_
        refine lv_icmp_ne (tgt := 99) hx hb dX11_suits_92 rfl (fun hc => ?_) (fun hc => ?_)
        · have h := ine hc h
          refine lv_iconst (v := (0:Int32)) hx hb dX11_suits_99 (by decide) ?_
          exact N_X11_suits_100 X hP hS (lv_sub hl [] rfl) h
        · have h := ip hc h
          refine lv_iconst (v := (1:Int32)) hx hb dX11_suits_95 (by decide) ?_
          refine lv_goto (tgt := 100) hx hb dX11_suits_96 rfl ?_
          exact N_X11_suits_100 X hP hS (lv_sub hl [] rfl) h
      · have h := ine hc2 h
        refine lv_lookup (tgt := 101) (off := 70) hx hb dX11_suits_31 rfl ((lv_osw hc0 rfl).trans ((lv_osw hc1 rfl).trans ((lv_osw hc2 rfl).trans rfl))) rfl ?_
        refine lv_iload_n hx hb dX11_suits_101 rfl (lv_at hl 0 rfl) ?_
        obtain ⟨hz, rfl⟩ := rz_spec h
        exact c_rz X hz dX11_suits_102
set_option maxRecDepth 20000 in
set_option maxHeartbeats 4000000 in
theorem N_X11_suits_28 {p : Program} {l : Launch} {e : Env} {s : State} {m : MethodId} {args : Array Value} {below : List Frame} {meth : Method} {c : Code} {D : cD} {Φ : cG}    {x0 : Int32} {x1 : Int32} {σ : cS} {ls : Array Slot} {r : Int32} (X : cX p s m args meth c cX11_suits 3 (some .boolean) RX11 D Φ) (hP : cP D Φ σ s.heap) (hS : va_S (cReg Φ) s.heap s.heap [])  (hl : lv_has ls 3 [(0, .int x0), (1, .int x1)]) (h : f_X11_suits_28   x0 x1 = some r) : cWr p l e 0 0 s m args below meth c (some (.int r)) (F0 m 28 ls []) := by
  have hx := X.1
  have hb := X.2.1
  have hown := X.2.2.2.1
  have hts := X.2.2.2.2.1
  have h : (f_X11_suits_29 (x0) (x1) ((0:Int32))) = some r := h
  refine lv_iconst (v := (0:Int32)) hx hb dX11_suits_28 (by decide) ?_
  exact N_X11_suits_29 X hP hS (lv_sub hl [0, 1] rfl) h
set_option maxRecDepth 20000 in
set_option maxHeartbeats 4000000 in
theorem K_X11_suits (l : Launch) (D : cD) (Φ : cG) (σ : cS)  (x0 : Int32) (x1 : Int32) {r : Int32} (h : f_X11_suits  x0 x1 = some r) : Met l yX11_suits (Cond.code yX11_suits cX11_suits 3 (some .boolean) :: BG) (rA 0 0 0 0) (cPc D Φ σ [.int x0, .int x1]) (cQr (some (.int r))) 0 0 (fun _ => False) := by
  refine Met.ofW (cc := cX11_suits) (maxL := 3) (ret := (some .boolean)) (by decide) rfl ?_
  intro p e s m args below meth c s₁ B hml hv
  obtain ⟨rfl, hP, hK, hZ⟩ := hv
  have X : cX p s m [.int x0, .int x1].toArray meth c cX11_suits 3 (some .boolean) RX11 D Φ := cX_of B hml hK hZ
  have hx := X.1
  have hb := X.2.1
  have hown := X.2.2.2.1
  have hts := X.2.2.2.2.1
  have hl := lv_entry [.int x0, .int x1] (n := 3) (by simp only [lgs_r, lgs_i, lgs_l, lgs_0, List.length]; exact Nat.le_of_ble_eq_true rfl)
  rw [lg_entry_eq]
  generalize (lg_sl [.int x0, .int x1] ++ List.replicate (3 - (lg_sl [.int x0, .int x1]).length) Slot.unset).toArray = ls at hl ⊢
  simp only [lv_args_r, lv_args_i, lv_args_l, lv_args_0] at hl
  have hl : lv_has ls 3 [(0, .int x0), (1, .int x1)] := hl
  have hS : va_S (cReg Φ) s.heap s.heap [] := va_S.rf
  show cWr p l e 0 0 s m [.int x0, .int x1].toArray below meth c (some (.int r)) (F0 m 0 ls [])
  have h : (if (12:Int32) ≤ x0 then (f_X11_suits_12) else (if x1 < (7:Int32) then (if x0 < (1:Int32) then (f_X11_suits_28 (x0) (x1)) else (if (4:Int32) < x0 then (f_X11_suits_28 (x0) (x1)) else (f_X11_suits_29 (x0) (x1) ((1:Int32))))) else (f_X11_suits_12))) = some r := h
  refine lv_iload_n hx hb dX11_suits_0 rfl (lv_at hl 0 rfl) ?_
  refine lv_bipush (v := (12:Int32)) hx hb dX11_suits_1 (by decide) ?_
  refine lv_icmp_ge (tgt := 12) hx hb dX11_suits_3 rfl (fun hc => ?_) (fun hc => ?_)
  · have h := ip hc h
    exact N_X11_suits_12 X hP hS (lv_sub hl [] rfl) h
  · have h := ine hc h
    refine lv_iload_n hx hb dX11_suits_6 rfl (lv_at hl 1 rfl) ?_
    refine lv_bipush (v := (7:Int32)) hx hb dX11_suits_7 (by decide) ?_
    refine lv_icmp_lt (tgt := 14) hx hb dX11_suits_9 rfl (fun hc => ?_) (fun hc => ?_)
    · have h := ip hc h
      refine lv_iload_n hx hb dX11_suits_14 rfl (lv_at hl 0 rfl) ?_
      refine lv_iconst (v := (1:Int32)) hx hb dX11_suits_15 (by decide) ?_
      refine lv_icmp_lt (tgt := 28) hx hb dX11_suits_16 rfl (fun hc => ?_) (fun hc => ?_)
      · have h := ip hc h
        exact N_X11_suits_28 X hP hS (lv_sub hl [0, 1] rfl) h
      · have h := ine hc h
        refine lv_iload_n hx hb dX11_suits_19 rfl (lv_at hl 0 rfl) ?_
        refine lv_iconst (v := (4:Int32)) hx hb dX11_suits_20 (by decide) ?_
        refine lv_icmp_gt (tgt := 28) hx hb dX11_suits_21 rfl (fun hc => ?_) (fun hc => ?_)
        · have h := ip hc h
          exact N_X11_suits_28 X hP hS (lv_sub hl [0, 1] rfl) h
        · have h := ine hc h
          refine lv_iconst (v := (1:Int32)) hx hb dX11_suits_24 (by decide) ?_
          refine lv_goto (tgt := 29) hx hb dX11_suits_25 rfl ?_
          exact N_X11_suits_29 X hP hS (lv_sub hl [0, 1] rfl) h
    · have h := ine hc h
      exact N_X11_suits_12 X hP hS (lv_sub hl [] rfl) h
theorem ww_X11_suits : Cond.static yX11_suits ∈ BG ∧ Cond.initialized (yX11_suits).cls ∈ BG ∧ Cond.code yX11_suits cX11_suits 3 (some .boolean) ∈ BG := ⟨w_1045, w_56, w_1046⟩
theorem hy_X11_suits : (yX11_suits).cls ≠ "java/lang/invoke/MethodHandle" ∧ (yX11_suits).cls ≠ "java/lang/invoke/VarHandle" ∧ (parseMethodDescriptor (yX11_suits).desc).map (fun d => d.parameters.length) = some 2 := ⟨by decide, by decide, by decide +kernel⟩
def f_X9_findValue_125  (x0 : Nat) (x1 : Int32) (x3 : Int32) (x4 : Int32) (σ : cS) : Option (Int32) := (rc σ (some x0) 9).bind (fun v1 => (f_X9_evaluated v1 (x1) (x3) (x4) σ).bind (fun v2 => some v2))
def f_X9_findValue_124  (x0 : Nat) (x1 : Int32) (x4 : Int32) (y0 : Int32) (σ : cS) : Option (Int32) := f_X9_findValue_125 x0 (x1) (y0) (x4) σ
def f_X9_findValue_118  (x0 : Nat) (x1 : Int32) (x4 : Int32) (σ : cS) : Option (Int32) := f_X9_findValue_124 x0 (x1) (x4) ((9:Int32)) σ
def f_X9_findValue_105  (x0 : Nat) (x1 : Int32) (x3 : Int32) (x4 : Int32) (σ : cS) : Option (Int32) := if x3 = ((-1):Int32) then (f_X9_findValue_118 x0 (x1) (x4) σ) else ((f_X11_suits (x1) (x3)).bind (fun v1 => if v1 = (0:Int32) then (f_X9_findValue_118 x0 (x1) (x4) σ) else (f_X9_findValue_124 x0 (x1) (x4) (x3) σ)))
def f_X9_findValue_68  (x0 : Nat) (x1 : Int32) (x2 : Option Nat) (x4 : Int32) (y0 : Int32) (σ : cS) : Option (Int32) := if y0 = ((-1000001):Int32) then ((gR σ x2 6 11).bind (fun v2 => (aI σ v2 x1).bind (fun v3 => f_X9_findValue_105 x0 (x1) (v3) (x4) σ))) else ((dv (y0 + (50000:Int32)) (100000:Int32)).bind (fun v1 => f_X9_findValue_105 x0 (x1) (v1) ((y0 - ((100000:Int32) * v1))) σ))
def f_X9_findValue_56  (x0 : Nat) (x1 : Int32) (x2 : Option Nat) (x4 : Int32) (σ : cS) : Option (Int32) := f_X9_findValue_68 x0 (x1) (x2) (x4) (((-1000001):Int32)) σ
def f_X9_findValue (x0 : Nat) (x1 : Int32) (x2 : Option Nat) (σ : cS) : Option (Int32) := if x2 = none then ((rc σ (some x0) 9).bind (fun v9 => (f_X9_evaluated v9 (x1) ((9:Int32)) ((0:Int32)) σ).bind (fun v10 => some v10))) else ((gR σ x2 6 8).bind (fun v1 => (aI σ v1 x1).bind (fun v2 => (gR σ x2 6 9).bind (fun v3 => (aI σ v3 x1).bind (fun v4 => if v2 = (11:Int32) then ((gR σ x2 6 10).bind (fun v5 => (aI σ v5 x1).bind (fun v6 => if v6 < (12:Int32) then (f_X9_findValue_56 x0 (x1) (x2) (v4) σ) else (if v6 < (15:Int32) then ((gR σ (some x0) 9 0).bind (fun v7 => (aI σ v7 v6).bind (fun v8 => f_X9_findValue_68 x0 (x1) (x2) (v4) (v8) σ))) else (f_X9_findValue_56 x0 (x1) (x2) (v4) σ))))) else (f_X9_findValue_125 x0 (x1) (v2) (v4) σ))))))
set_option maxRecDepth 20000 in
set_option maxHeartbeats 4000000 in
theorem N_X9_findValue_125 {p : Program} {l : Launch} {e : Env} {s : State} {m : MethodId} {args : Array Value} {below : List Frame} {meth : Method} {c : Code} {D : cD} {Φ : cG} {x0 : Nat}   {x1 : Int32} {x3 : Int32} {x4 : Int32} {σ : cS} {ls : Array Slot} {r : Int32} (X : cX p s m args meth c cX9_findValue 7 (some .int) RX9 D Φ) (hP : cP D Φ σ s.heap) (hS : va_S (cReg Φ) s.heap s.heap [])  (hl : lv_has ls 7 [(0, cv Φ (some x0)), (1, .int x1), (3, .int x3), (4, .int x4)]) (h : f_X9_findValue_125  x0 x1 x3 x4 σ = some r) : cWr p l e 1 27 s m args below meth c (some (.int r)) (F0 m 125 ls []) := by
  have hx := X.1
  have hb := X.2.1
  have hown := X.2.2.2.1
  have hts := X.2.2.2.2.1
  have h : ((rc σ (some x0) 9).bind (fun v1 => (f_X9_evaluated v1 (x1) (x3) (x4) σ).bind (fun v2 => some v2))) = some r := h
  refine c_aload_n hx hb dX9_findValue_125 rfl (lv_at hl 0 rfl) ?_
  refine lv_iload_n hx hb dX9_findValue_126 rfl (lv_at hl 1 rfl) ?_
  refine lv_iload_n hx hb dX9_findValue_127 rfl (lv_at hl 2 rfl) ?_
  refine lv_iload hx hb dX9_findValue_128 (lv_at hl 3 rfl) ?_
  obtain ⟨v1, hv1, h⟩ := ob h
  obtain ⟨v2, hv2, h⟩ := ob h
  refine c_cr (c_runV X (K_X9_evaluated l D Φ σ v1 (x1) (x3) (x4) hv2) hv1 ⟨Nat.le_of_ble_eq_true rfl, by decide⟩ ⟨w_1032, ww_X9_evaluated⟩ rfl hy_X9_evaluated rfl ⟨(Nat.le_of_ble_eq_true rfl), (Nat.le_of_ble_eq_true rfl)⟩ hP hS hl.1 (Nat.le_of_ble_eq_true rfl) dX9_findValue_130 rfl ⟨(Nat.le_of_ble_eq_true rfl), (Nat.le_of_ble_eq_true rfl)⟩) ?_
  obtain rfl := sj h
  exact c_ri X dX9_findValue_133
set_option maxRecDepth 20000 in
set_option maxHeartbeats 4000000 in
theorem N_X9_findValue_124 {p : Program} {l : Launch} {e : Env} {s : State} {m : MethodId} {args : Array Value} {below : List Frame} {meth : Method} {c : Code} {D : cD} {Φ : cG} {x0 : Nat}   {x1 : Int32} {x4 : Int32} {y0 : Int32} {σ : cS} {ls : Array Slot} {r : Int32} (X : cX p s m args meth c cX9_findValue 7 (some .int) RX9 D Φ) (hP : cP D Φ σ s.heap) (hS : va_S (cReg Φ) s.heap s.heap [])  (hl : lv_has ls 7 [(0, cv Φ (some x0)), (1, .int x1), (4, .int x4)]) (h : f_X9_findValue_124  x0 x1 x4 y0 σ = some r) : cWr p l e 1 27 s m args below meth c (some (.int r)) (F0 m 124 ls [.int y0]) := by
  have hx := X.1
  have hb := X.2.1
  have hown := X.2.2.2.1
  have hts := X.2.2.2.2.1
  have h : (f_X9_findValue_125 x0 (x1) (y0) (x4) σ) = some r := h
  refine c_istore_n hx hb dX9_findValue_124 rfl hl (Nat.le_of_ble_eq_true rfl) (lvKa rfl (lvKa rfl (lvKa rfl lvK0))) rfl (fun ls (hl : lv_has ls 7 [(3, .int y0), (0, cv Φ (some x0)), (1, .int x1), (4, .int x4)]) => ?_)
  exact N_X9_findValue_125 X hP hS (lv_sub hl [1, 2, 0, 3] rfl) h
set_option maxRecDepth 20000 in
set_option maxHeartbeats 4000000 in
theorem N_X9_findValue_118 {p : Program} {l : Launch} {e : Env} {s : State} {m : MethodId} {args : Array Value} {below : List Frame} {meth : Method} {c : Code} {D : cD} {Φ : cG} {x0 : Nat}   {x1 : Int32} {x4 : Int32} {σ : cS} {ls : Array Slot} {r : Int32} (X : cX p s m args meth c cX9_findValue 7 (some .int) RX9 D Φ) (hP : cP D Φ σ s.heap) (hS : va_S (cReg Φ) s.heap s.heap [])  (hl : lv_has ls 7 [(0, cv Φ (some x0)), (1, .int x1), (4, .int x4)]) (h : f_X9_findValue_118  x0 x1 x4 σ = some r) : cWr p l e 1 27 s m args below meth c (some (.int r)) (F0 m 118 ls []) := by
  have hx := X.1
  have hb := X.2.1
  have hown := X.2.2.2.1
  have hts := X.2.2.2.2.1
  have h : (f_X9_findValue_124 x0 (x1) (x4) ((9:Int32)) σ) = some r := h
  refine lv_bipush (v := (9:Int32)) hx hb dX9_findValue_118 (by decide) ?_
  refine lv_goto (tgt := 124) hx hb dX9_findValue_120 rfl ?_
  exact N_X9_findValue_124 X hP hS (lv_sub hl [0, 1, 2] rfl) h
set_option maxRecDepth 20000 in
set_option maxHeartbeats 4000000 in
theorem N_X9_findValue_105 {p : Program} {l : Launch} {e : Env} {s : State} {m : MethodId} {args : Array Value} {below : List Frame} {meth : Method} {c : Code} {D : cD} {Φ : cG} {x0 : Nat}   {x1 : Int32} {x3 : Int32} {x4 : Int32} {σ : cS} {ls : Array Slot} {r : Int32} (X : cX p s m args meth c cX9_findValue 7 (some .int) RX9 D Φ) (hP : cP D Φ σ s.heap) (hS : va_S (cReg Φ) s.heap s.heap [])  (hl : lv_has ls 7 [(0, cv Φ (some x0)), (1, .int x1), (3, .int x3), (4, .int x4)]) (h : f_X9_findValue_105  x0 x1 x3 x4 σ = some r) : cWr p l e 1 27 s m args below meth c (some (.int r)) (F0 m 105 ls []) := by
  have hx := X.1
  have hb := X.2.1
  have hown := X.2.2.2.1
  have hts := X.2.2.2.2.1
  have h : (if x3 = ((-1):Int32) then (f_X9_findValue_118 x0 (x1) (x4) σ) else ((f_X11_suits (x1) (x3)).bind (fun v1 => if v1 = (0:Int32) then (f_X9_findValue_118 x0 (x1) (x4) σ) else (f_X9_findValue_124 x0 (x1) (x4) (x3) σ)))) = some r := h
  refine lv_iload_n hx hb dX9_findValue_105 rfl (lv_at hl 2 rfl) ?_
  refine lv_iconst (v := ((-1):Int32)) hx hb dX9_findValue_106 (by decide) ?_
  refine lv_icmp_eq (tgt := 118) hx hb dX9_findValue_107 rfl (fun hc => ?_) (fun hc => ?_)
  · have h := ip hc h
    exact N_X9_findValue_118 X hP hS (lv_sub hl [0, 1, 3] rfl) h
  · have h := ine hc h
    refine lv_iload_n hx hb dX9_findValue_110 rfl (lv_at hl 1 rfl) ?_
    refine lv_iload_n hx hb dX9_findValue_111 rfl (lv_at hl 2 rfl) ?_
    obtain ⟨v1, hv1, h⟩ := ob h
    refine c_cr (c_runSN X (K_X11_suits l D Φ σ (x1) (x3) hv1) ⟨cn_6, ww_X11_suits⟩ hy_X11_suits rfl ⟨(Nat.le_of_ble_eq_true rfl), (Nat.le_of_ble_eq_true rfl)⟩ hP hS hl.1 (Nat.le_of_ble_eq_true rfl) dX9_findValue_112 rfl ⟨(Nat.le_of_ble_eq_true rfl), (Nat.le_of_ble_eq_true rfl)⟩) ?_
    refine lv_if_ne (tgt := 123) hx hb dX9_findValue_115 rfl (fun hc => ?_) (fun hc => ?_)
    · have h := ine hc h
      refine lv_iload_n hx hb dX9_findValue_123 rfl (lv_at hl 2 rfl) ?_
      exact N_X9_findValue_124 X hP hS (lv_sub hl [0, 1, 3] rfl) h
    · have h := ip hc h
      exact N_X9_findValue_118 X hP hS (lv_sub hl [0, 1, 3] rfl) h
set_option maxRecDepth 20000 in
set_option maxHeartbeats 4000000 in
theorem N_X9_findValue_68 {p : Program} {l : Launch} {e : Env} {s : State} {m : MethodId} {args : Array Value} {below : List Frame} {meth : Method} {c : Code} {D : cD} {Φ : cG} {x0 : Nat}   {x1 : Int32} {x2 : Option Nat} {x4 : Int32} {y0 : Int32} {σ : cS} {ls : Array Slot} {r : Int32} (X : cX p s m args meth c cX9_findValue 7 (some .int) RX9 D Φ) (hP : cP D Φ σ s.heap) (hS : va_S (cReg Φ) s.heap s.heap [])  (hl : lv_has ls 7 [(0, cv Φ (some x0)), (1, .int x1), (2, cv Φ x2), (4, .int x4)]) (h : f_X9_findValue_68  x0 x1 x2 x4 y0 σ = some r) : cWr p l e 1 27 s m args below meth c (some (.int r)) (F0 m 68 ls [.int y0]) := by
  have hx := X.1
  have hb := X.2.1
  have hown := X.2.2.2.1
  have hts := X.2.2.2.2.1
  have h : (if y0 = ((-1000001):Int32) then ((gR σ x2 6 11).bind (fun v2 => (aI σ v2 x1).bind (fun v3 => f_X9_findValue_105 x0 (x1) (v3) (x4) σ))) else ((dv (y0 + (50000:Int32)) (100000:Int32)).bind (fun v1 => f_X9_findValue_105 x0 (x1) (v1) ((y0 - ((100000:Int32) * v1))) σ))) = some r := h
  refine c_istore hx hb dX9_findValue_68 hl (Nat.le_of_ble_eq_true rfl) (lvKa rfl (lvKa rfl (lvKa rfl (lvKa rfl lvK0)))) rfl (fun ls (hl : lv_has ls 7 [(6, .int y0), (0, cv Φ (some x0)), (1, .int x1), (2, cv Φ x2), (4, .int x4)]) => ?_)
  refine lv_iload hx hb dX9_findValue_70 (lv_at hl 0 rfl) ?_
  refine lv_ldc hx hb hown (hts _ w_1021) dX9_findValue_72 ?_
  refine lv_icmp_ne (tgt := 87) hx hb dX9_findValue_74 rfl (fun hc => ?_) (fun hc => ?_)
  · have h := ine hc h
    refine lv_iload hx hb dX9_findValue_87 (lv_at hl 0 rfl) ?_
    refine lv_ldc hx hb hown (hts _ w_1043) dX9_findValue_89 ?_
    refine lv_iadd hx hb dX9_findValue_91 ?_
    refine lv_ldc hx hb hown (hts _ w_1027) dX9_findValue_92 ?_
    obtain ⟨v1, hv1, h⟩ := ob h
    obtain ⟨hnv1, hev1⟩ := dv_spec hv1
    refine lv_idiv hx hb dX9_findValue_94 hnv1 ?_
    rw [hev1]
    refine c_istore_n hx hb dX9_findValue_95 rfl hl (Nat.le_of_ble_eq_true rfl) (lvKa rfl (lvKa rfl (lvKa rfl (lvKr (lvKa rfl lvK0))))) rfl (fun ls (hl : lv_has ls 7 [(3, .int v1), (6, .int y0), (0, cv Φ (some x0)), (1, .int x1), (2, cv Φ x2), (4, .int x4)]) => ?_)
    refine lv_iload hx hb dX9_findValue_96 (lv_at hl 1 rfl) ?_
    refine lv_ldc hx hb hown (hts _ w_1027) dX9_findValue_98 ?_
    refine lv_iload_n hx hb dX9_findValue_100 rfl (lv_at hl 0 rfl) ?_
    refine lv_imul hx hb dX9_findValue_101 ?_
    refine lv_isub hx hb dX9_findValue_102 ?_
    refine c_istore hx hb dX9_findValue_103 hl (Nat.le_of_ble_eq_true rfl) (lvKi (lvKa rfl (lvKa rfl (lvKa rfl (lvKa rfl (lvKa rfl lvK0)))))) rfl (fun ls (hl : lv_has ls 7 [(4, .int (y0 - ((100000:Int32) * v1))), (3, .int v1), (6, .int y0), (0, cv Φ (some x0)), (1, .int x1), (2, cv Φ x2)]) => ?_)
    exact N_X9_findValue_105 X hP hS (lv_sub hl [3, 4, 1, 0] rfl) h
  · have h := ip hc h
    refine c_aload_n hx hb dX9_findValue_77 rfl (lv_at hl 3 rfl) ?_
    obtain ⟨v2, hv2, h⟩ := ob h
    refine c_gR X hP hv2 (Nat.le_of_ble_eq_true rfl) (Nat.le_of_ble_eq_true rfl) rfl w_186 dX9_findValue_78 ?_
    refine lv_iload_n hx hb dX9_findValue_81 rfl (lv_at hl 2 rfl) ?_
    obtain ⟨v3, hv3, h⟩ := ob h
    refine c_ald X hP hv3 dX9_findValue_82 ?_
    refine c_istore_n hx hb dX9_findValue_83 rfl hl (Nat.le_of_ble_eq_true rfl) (lvKa rfl (lvKa rfl (lvKa rfl (lvKr (lvKa rfl lvK0))))) rfl (fun ls (hl : lv_has ls 7 [(3, .int v3), (6, .int y0), (0, cv Φ (some x0)), (1, .int x1), (2, cv Φ x2), (4, .int x4)]) => ?_)
    refine lv_goto (tgt := 105) hx hb dX9_findValue_84 rfl ?_
    exact N_X9_findValue_105 X hP hS (lv_sub hl [2, 3, 0, 5] rfl) h
set_option maxRecDepth 20000 in
set_option maxHeartbeats 4000000 in
theorem N_X9_findValue_56 {p : Program} {l : Launch} {e : Env} {s : State} {m : MethodId} {args : Array Value} {below : List Frame} {meth : Method} {c : Code} {D : cD} {Φ : cG} {x0 : Nat}   {x1 : Int32} {x2 : Option Nat} {x4 : Int32} {σ : cS} {ls : Array Slot} {r : Int32} (X : cX p s m args meth c cX9_findValue 7 (some .int) RX9 D Φ) (hP : cP D Φ σ s.heap) (hS : va_S (cReg Φ) s.heap s.heap [])  (hl : lv_has ls 7 [(0, cv Φ (some x0)), (1, .int x1), (2, cv Φ x2), (4, .int x4)]) (h : f_X9_findValue_56  x0 x1 x2 x4 σ = some r) : cWr p l e 1 27 s m args below meth c (some (.int r)) (F0 m 56 ls []) := by
  have hx := X.1
  have hb := X.2.1
  have hown := X.2.2.2.1
  have hts := X.2.2.2.2.1
  have h : (f_X9_findValue_68 x0 (x1) (x2) (x4) (((-1000001):Int32)) σ) = some r := h
  refine lv_ldc hx hb hown (hts _ w_1021) dX9_findValue_56 ?_
  refine lv_goto (tgt := 68) hx hb dX9_findValue_58 rfl ?_
  exact N_X9_findValue_68 X hP hS (lv_sub hl [0, 1, 2, 3] rfl) h
set_option maxRecDepth 20000 in
set_option maxHeartbeats 4000000 in
theorem K_X9_findValue (l : Launch) (D : cD) (Φ : cG) (σ : cS) (x0 : Nat) (x1 : Int32) (x2 : Option Nat) {r : Int32} (h : f_X9_findValue x0 x1 x2 σ = some r) : Met l yX9_findValue (Cond.code yX9_findValue cX9_findValue 7 (some .int) :: BG) (rA 1 0 0 27) (cPc D Φ σ [cv Φ (some x0), .int x1, cv Φ x2]) (cQr (some (.int r))) 0 0 (fun _ => False) := by
  refine Met.ofW (cc := cX9_findValue) (maxL := 7) (ret := (some .int)) (by decide) rfl ?_
  intro p e s m args below meth c s₁ B hml hv
  obtain ⟨rfl, hP, hK, hZ⟩ := hv
  have X : cX p s m [cv Φ (some x0), .int x1, cv Φ x2].toArray meth c cX9_findValue 7 (some .int) RX9 D Φ := cX_of B hml hK hZ
  have hx := X.1
  have hb := X.2.1
  have hown := X.2.2.2.1
  have hts := X.2.2.2.2.1
  have hl := lv_entry [cv Φ (some x0), .int x1, cv Φ x2] (n := 7) (by simp only [lgs_r, lgs_i, lgs_l, lgs_0, List.length]; exact Nat.le_of_ble_eq_true rfl)
  rw [lg_entry_eq]
  generalize (lg_sl [cv Φ (some x0), .int x1, cv Φ x2] ++ List.replicate (7 - (lg_sl [cv Φ (some x0), .int x1, cv Φ x2]).length) Slot.unset).toArray = ls at hl ⊢
  simp only [lv_args_r, lv_args_i, lv_args_l, lv_args_0] at hl
  have hl : lv_has ls 7 [(0, cv Φ (some x0)), (1, .int x1), (2, cv Φ x2)] := hl
  have hS : va_S (cReg Φ) s.heap s.heap [] := va_S.rf
  show cWr p l e 1 27 s m [cv Φ (some x0), .int x1, cv Φ x2].toArray below meth c (some (.int r)) (F0 m 0 ls [])
  have h : (if x2 = none then ((rc σ (some x0) 9).bind (fun v9 => (f_X9_evaluated v9 (x1) ((9:Int32)) ((0:Int32)) σ).bind (fun v10 => some v10))) else ((gR σ x2 6 8).bind (fun v1 => (aI σ v1 x1).bind (fun v2 => (gR σ x2 6 9).bind (fun v3 => (aI σ v3 x1).bind (fun v4 => if v2 = (11:Int32) then ((gR σ x2 6 10).bind (fun v5 => (aI σ v5 x1).bind (fun v6 => if v6 < (12:Int32) then (f_X9_findValue_56 x0 (x1) (x2) (v4) σ) else (if v6 < (15:Int32) then ((gR σ (some x0) 9 0).bind (fun v7 => (aI σ v7 v6).bind (fun v8 => f_X9_findValue_68 x0 (x1) (x2) (v4) (v8) σ))) else (f_X9_findValue_56 x0 (x1) (x2) (v4) σ))))) else (f_X9_findValue_125 x0 (x1) (v2) (v4) σ))))))) = some r := h
  refine c_aload_n hx hb dX9_findValue_0 rfl (lv_at hl 2 rfl) ?_
  refine c_ifnonnull (Φ := Φ) (tgt := 13) hx hb dX9_findValue_1 rfl (fun hc => ?_) (fun hc => ?_)
  · have h := ine hc h
    refine c_aload_n hx hb dX9_findValue_13 rfl (lv_at hl 2 rfl) ?_
    obtain ⟨v1, hv1, h⟩ := ob h
    refine c_gR X hP hv1 (Nat.le_of_ble_eq_true rfl) (Nat.le_of_ble_eq_true rfl) rfl w_179 dX9_findValue_14 ?_
    refine lv_iload_n hx hb dX9_findValue_17 rfl (lv_at hl 1 rfl) ?_
    obtain ⟨v2, hv2, h⟩ := ob h
    refine c_ald X hP hv2 dX9_findValue_18 ?_
    refine c_istore_n hx hb dX9_findValue_19 rfl hl (Nat.le_of_ble_eq_true rfl) (lvKa rfl (lvKa rfl (lvKr lvK0))) rfl (fun ls (hl : lv_has ls 7 [(3, .int v2), (0, cv Φ (some x0)), (1, .int x1), (2, cv Φ x2)]) => ?_)
    refine c_aload_n hx hb dX9_findValue_20 rfl (lv_at hl 3 rfl) ?_
    obtain ⟨v3, hv3, h⟩ := ob h
    refine c_gR X hP hv3 (Nat.le_of_ble_eq_true rfl) (Nat.le_of_ble_eq_true rfl) rfl w_182 dX9_findValue_21 ?_
    refine lv_iload_n hx hb dX9_findValue_24 rfl (lv_at hl 2 rfl) ?_
    obtain ⟨v4, hv4, h⟩ := ob h
    refine c_ald X hP hv4 dX9_findValue_25 ?_
    refine c_istore hx hb dX9_findValue_26 hl (Nat.le_of_ble_eq_true rfl) (lvKi (lvKa rfl (lvKa rfl (lvKa rfl lvK0)))) rfl (fun ls (hl : lv_has ls 7 [(4, .int v4), (3, .int v2), (0, cv Φ (some x0)), (1, .int x1), (2, cv Φ x2)]) => ?_)
    refine lv_iload_n hx hb dX9_findValue_28 rfl (lv_at hl 1 rfl) ?_
    refine lv_bipush (v := (11:Int32)) hx hb dX9_findValue_29 (by decide) ?_
    refine lv_icmp_ne (tgt := 125) hx hb dX9_findValue_31 rfl (fun hc => ?_) (fun hc => ?_)
    · have h := ine hc h
      exact N_X9_findValue_125 X hP hS (lv_sub hl [2, 3, 1, 0] rfl) h
    · have h := ip hc h
      refine c_aload_n hx hb dX9_findValue_34 rfl (lv_at hl 4 rfl) ?_
      obtain ⟨v5, hv5, h⟩ := ob h
      refine c_gR X hP hv5 (Nat.le_of_ble_eq_true rfl) (Nat.le_of_ble_eq_true rfl) rfl w_184 dX9_findValue_35 ?_
      refine lv_iload_n hx hb dX9_findValue_38 rfl (lv_at hl 3 rfl) ?_
      obtain ⟨v6, hv6, h⟩ := ob h
      refine c_ald X hP hv6 dX9_findValue_39 ?_
      refine c_istore hx hb dX9_findValue_40 hl (Nat.le_of_ble_eq_true rfl) (lvKi (lvKa rfl (lvKa rfl (lvKa rfl (lvKa rfl lvK0))))) rfl (fun ls (hl : lv_has ls 7 [(5, .int v6), (4, .int v4), (3, .int v2), (0, cv Φ (some x0)), (1, .int x1), (2, cv Φ x2)]) => ?_)
      refine lv_iload hx hb dX9_findValue_42 (lv_at hl 0 rfl) ?_
      refine lv_bipush (v := (12:Int32)) hx hb dX9_findValue_44 (by decide) ?_
      refine lv_icmp_lt (tgt := 56) hx hb dX9_findValue_46 rfl (fun hc => ?_) (fun hc => ?_)
      · have h := ip hc h
        exact N_X9_findValue_56 X hP hS (lv_sub hl [3, 4, 5, 1] rfl) h
      · have h := ine hc h
        refine lv_iload hx hb dX9_findValue_49 (lv_at hl 0 rfl) ?_
        refine lv_bipush (v := (15:Int32)) hx hb dX9_findValue_51 (by decide) ?_
        refine lv_icmp_lt (tgt := 61) hx hb dX9_findValue_53 rfl (fun hc => ?_) (fun hc => ?_)
        · have h := ip hc h
          refine c_aload_n hx hb dX9_findValue_61 rfl (lv_at hl 3 rfl) ?_
          obtain ⟨v7, hv7, h⟩ := ob h
          refine c_gR X hP hv7 (Nat.le_of_ble_eq_true rfl) (Nat.le_of_ble_eq_true rfl) rfl w_93 dX9_findValue_62 ?_
          refine lv_iload hx hb dX9_findValue_65 (lv_at hl 0 rfl) ?_
          obtain ⟨v8, hv8, h⟩ := ob h
          refine c_ald X hP hv8 dX9_findValue_67 ?_
          exact N_X9_findValue_68 X hP hS (lv_sub hl [3, 4, 5, 1] rfl) h
        · have h := ine hc h
          exact N_X9_findValue_56 X hP hS (lv_sub hl [3, 4, 5, 1] rfl) h
  · have h := ip hc h
    refine c_aload_n hx hb dX9_findValue_4 rfl (lv_at hl 0 rfl) ?_
    refine lv_iload_n hx hb dX9_findValue_5 rfl (lv_at hl 1 rfl) ?_
    refine lv_bipush (v := (9:Int32)) hx hb dX9_findValue_6 (by decide) ?_
    refine lv_iconst (v := (0:Int32)) hx hb dX9_findValue_8 (by decide) ?_
    obtain ⟨v9, hv9, h⟩ := ob h
    obtain ⟨v10, hv10, h⟩ := ob h
    refine c_cr (c_runV X (K_X9_evaluated l D Φ σ v9 (x1) ((9:Int32)) ((0:Int32)) hv10) hv9 ⟨Nat.le_of_ble_eq_true rfl, by decide⟩ ⟨w_1032, ww_X9_evaluated⟩ rfl hy_X9_evaluated rfl ⟨(Nat.le_of_ble_eq_true rfl), (Nat.le_of_ble_eq_true rfl)⟩ hP hS hl.1 (Nat.le_of_ble_eq_true rfl) dX9_findValue_9 rfl ⟨(Nat.le_of_ble_eq_true rfl), (Nat.le_of_ble_eq_true rfl)⟩) ?_
    obtain rfl := sj h
    exact c_ri X dX9_findValue_12
theorem ww_X9_findValue : Cond.instanceMethod yX9_findValue ∈ BG ∧ Cond.selects (yX9_findValue).cls yX9_findValue yX9_findValue ∈ BG ∧ Cond.initialized (yX9_findValue).cls ∈ BG ∧ Cond.code yX9_findValue cX9_findValue 7 (some .int) ∈ BG := ⟨w_1030, w_37, w_57, w_1031⟩
theorem hy_X9_findValue : (yX9_findValue).cls ≠ "java/lang/invoke/MethodHandle" ∧ (yX9_findValue).cls ≠ "java/lang/invoke/VarHandle" ∧ (parseMethodDescriptor (yX9_findValue).desc).map (fun d => d.parameters.length) = some 2 := ⟨by decide, by decide, by decide +kernel⟩
def f_X9_findFrom_11  (x0 : Nat)  (σ : cS) : Option (cS) := some σ
def f_X9_findFrom_221 (k156 : Option Nat → Int32 → cS → Option (cS)) (x0 : Nat) (x1 : Option Nat) (x6 : Int32) (y0 : Option Nat) (y1 : Int32) (y2 : Int32) (σ : cS) : Option (cS) := (pI σ y0 9 3 (y1 ||| y2)).bind (fun v1 => k156 (x1) ((x6 + (1:Int32))) v1)
def f_X9_findFrom_197 (k156 : Option Nat → Int32 → cS → Option (cS)) (x0 : Nat) (x1 : Option Nat) (x6 : Int32) (x7 : Option Nat) (σ : cS) : Option (cS) := (gI σ (some x0) 9 3).bind (fun v1 => if x7 = none then (f_X9_findFrom_221 k156 x0 (x1) (x6) ((some x0)) (v1) ((0:Int32)) σ) else ((gI σ x7 6 7).bind (fun v2 => f_X9_findFrom_221 k156 x0 (x1) (x6) ((some x0)) (v1) ((v2 &&& ((1:Int32) <<< (x6 &&& 31)))) σ)))
def f_X9_findFrom_156  (x0 : Nat) : Nat → Option Nat → Int32 → cS → Option (cS)
  | 0, _, _, _ => none
  | n + 1, x1, x6, σ => if (15:Int32) ≤ x6 then (some σ) else ((aR σ x1 36 x6).bind (fun v1 => if (12:Int32) ≤ x6 then (f_X9_findFrom_197 (f_X9_findFrom_156 x0 n) x0 (x1) (x6) (v1) σ) else (if x6 = (1:Int32) then (f_X9_findFrom_197 (f_X9_findFrom_156 x0 n) x0 (x1) (x6) (v1) σ) else ((gR σ (some x0) 9 0).bind (fun v2 => (rc σ (some x0) 9).bind (fun v3 => (f_X9_findValue v3 (x6) (v1) σ).bind (fun v4 => (sI σ v2 x6 v4).bind (fun v5 => f_X9_findFrom_197 (f_X9_findFrom_156 x0 n) x0 (x1) (x6) (v1) v5))))))))
def f_X9_findFrom_153  (x0 : Nat) (x1 : Option Nat) (σ : cS) : Option (cS) := f_X9_findFrom_156 x0 4000 (x1) ((0:Int32)) σ
def f_X9_findFrom_109  (x0 : Nat) (x1 : Option Nat) (y0 : Option Nat) (y1 : Int32) (σ : cS) : Option (cS) := (pI σ y0 9 13 y1).bind (fun v1 => (pI v1 (some x0) 9 3 (0:Int32)).bind (fun v2 => (rc v2 (some x0) 9).bind (fun v3 => (f_X9_findVariables v3 (x1) v2).bind (fun v4 => (gR v4 (some x0) 9 0).bind (fun v5 => (aR v4 x1 36 (1:Int32)).bind (fun v6 => (rc v4 (some x0) 9).bind (fun v7 => (f_X9_findValue v7 ((1:Int32)) (v6) v4).bind (fun v8 => (sI v4 v5 (1:Int32) v8).bind (fun v9 => (gR v9 (some x0) 9 9).bind (fun v10 => if v10 = none then ((gR v9 (some x0) 9 0).bind (fun v11 => (aI v9 v11 (1:Int32)).bind (fun v12 => (pI v9 (some x0) 9 12 v12).bind (fun v13 => f_X9_findFrom_153 x0 (x1) v13)))) else (f_X9_findFrom_153 x0 (x1) v9)))))))))))
def f_X9_findFrom_90  (x0 : Nat) (x1 : Option Nat) (x4 : Option Nat) (x5 : Int32) (y0 : Option Nat) (y1 : Int32) (σ : cS) : Option (cS) := (pI σ y0 9 12 y1).bind (fun v1 => if x4 = none then (f_X9_findFrom_109 x0 (x1) ((some x0)) (x5) v1) else ((gI v1 x4 9 2).bind (fun v2 => f_X9_findFrom_109 x0 (x1) ((some x0)) (v2) v1)))
def f_X9_findFrom_79  (x0 : Nat) (x1 : Option Nat) (x4 : Option Nat) (x5 : Int32) (y0 : Option Nat) (σ : cS) : Option (cS) := f_X9_findFrom_90 x0 (x1) (x4) (x5) (y0) ((16:Int32)) σ
def f_X9_findFrom_64  (x0 : Nat) (x1 : Option Nat) (x3 : Option Nat) (x4 : Option Nat) (x5 : Int32) (y0 : Option Nat) (y1 : Int32) (σ : cS) : Option (cS) := (pI σ y0 9 11 y1).bind (fun v1 => (gR v1 (some x0) 9 9).bind (fun v2 => if v2 = none then (f_X9_findFrom_79 x0 (x1) (x4) (x5) ((some x0)) v1) else (if x3 = none then (f_X9_findFrom_79 x0 (x1) (x4) (x5) ((some x0)) v1) else ((gR v1 x3 9 0).bind (fun v3 => (aI v1 v3 (1:Int32)).bind (fun v4 => f_X9_findFrom_90 x0 (x1) (x4) (x5) ((some x0)) (v4) v1))))))
def f_X9_findFrom_39  (x0 : Nat) (x1 : Option Nat) (x3 : Option Nat) (x4 : Option Nat) (x5 : Int32) (y0 : Option Nat) (y1 : Int32) (σ : cS) : Option (cS) := (pI σ y0 9 10 y1).bind (fun v1 => (gR v1 (some x0) 9 9).bind (fun v2 => if v2 = none then (f_X9_findFrom_64 x0 (x1) (x3) (x4) (x5) ((some x0)) (x5) v1) else ((gR v1 (some x0) 9 9).bind (fun v3 => (gR v1 v3 9 0).bind (fun v4 => (aI v1 v4 (2:Int32)).bind (fun v5 => f_X9_findFrom_64 x0 (x1) (x3) (x4) (x5) ((some x0)) (v5) v1))))))
def f_X9_findFrom (x0 : Nat) (x1 : Option Nat) (x2 : Option Nat) (x3 : Option Nat) (x4 : Option Nat) (x5 : Int32) (σ : cS) : Option (cS) := if x1 = none then (f_X9_findFrom_11 x0 σ) else ((aL σ x1 36).bind (fun v1 => if (15:Int32) ≤ v1 then ((pR σ (some x0) 9 9 x2).bind (fun v2 => (gR v2 (some x0) 9 9).bind (fun v3 => if v3 = none then (f_X9_findFrom_39 x0 (x1) (x3) (x4) (x5) ((some x0)) ((16:Int32)) v2) else ((gR v2 (some x0) 9 9).bind (fun v4 => (gR v2 v4 9 0).bind (fun v5 => (aI v2 v5 (1:Int32)).bind (fun v6 => f_X9_findFrom_39 x0 (x1) (x3) (x4) (x5) ((some x0)) (v6) v2))))))) else (f_X9_findFrom_11 x0 σ)))
set_option maxRecDepth 20000 in
set_option maxHeartbeats 4000000 in
theorem N_X9_findFrom_11 {p : Program} {l : Launch} {e : Env} {s : State} {m : MethodId} {args : Array Value} {below : List Frame} {meth : Method} {c : Code} {D : cD} {Φ : cG} {x0 : Nat}    {σ : cS} {H : Heap} {locs : List Loc} {ls : Array Slot} {q : cS} (X : cX p s m args meth c cX9_findFrom 8 none RX9 D Φ) (hP : cP D Φ σ H) (hS : va_S (cReg Φ) s.heap H locs)  (hl : lv_has ls 8 []) (h : f_X9_findFrom_11  x0  σ = some q) : cWw p l e 2 0 0 53 s m args below meth c D Φ q none H locs 0 0 (F0 m 11 ls []) := by
  have hx := X.1
  have hb := X.2.1
  have hown := X.2.2.2.1
  have hts := X.2.2.2.2.1
  have h : (some σ) = some q := h
  obtain rfl := sj h
  exact c_wv X hP hS (Nat.le_of_ble_eq_true rfl) (Nat.le_of_ble_eq_true rfl) dX9_findFrom_11
set_option maxRecDepth 20000 in
set_option maxHeartbeats 4000000 in
theorem N_X9_findFrom_221 {p : Program} {l : Launch} {e : Env} {s : State} {m : MethodId} {args : Array Value} {below : List Frame} {meth : Method} {c : Code} {D : cD} {Φ : cG} {x0 : Nat} {k156 : Option Nat → Int32 → cS → Option (cS)}  {x1 : Option Nat} {x6 : Int32} {y0 : Option Nat} {y1 : Int32} {y2 : Int32} {σ : cS} {H : Heap} {locs : List Loc} {ls : Array Slot} {q : cS} (X : cX p s m args meth c cX9_findFrom 8 none RX9 D Φ) (hP : cP D Φ σ H) (hS : va_S (cReg Φ) s.heap H locs) (hk156 : ∀ {x1 : Option Nat} {x6 : Int32} {σ : cS} {H : Heap} {locs : List Loc} {ls : Array Slot}, cP D Φ σ H → va_S (cReg Φ) s.heap H locs → lv_has ls 8 [(0, cv Φ (some x0)), (1, cv Φ x1), (6, .int x6)] → k156 x1 x6 σ = some q → cWw p l e 2 0 0 53 s m args below meth c D Φ q none H locs 0 0 (F0 m 156 ls [])) (hl : lv_has ls 8 [(0, cv Φ (some x0)), (1, cv Φ x1), (6, .int x6)]) (h : f_X9_findFrom_221 k156 x0 x1 x6 y0 y1 y2 σ = some q) : cWw p l e 2 0 0 53 s m args below meth c D Φ q none H locs 0 0 (F0 m 221 ls [.int y2, .int y1, cv Φ y0]) := by
  have hx := X.1
  have hb := X.2.1
  have hown := X.2.2.2.1
  have hts := X.2.2.2.2.1
  have h : ((pI σ y0 9 3 (y1 ||| y2)).bind (fun v1 => k156 (x1) ((x6 + (1:Int32))) v1)) = some q := h
  refine lv_ior hx hb dX9_findFrom_221 ?_
  obtain ⟨v1, hv1, h⟩ := ob h
  refine c_pI X hP hS hv1 (Nat.le_of_ble_eq_true rfl) (Nat.le_of_ble_eq_true rfl) rfl rfl (Or.inl rfl) w_100 dX9_findFrom_222 (fun H locs hP hS => ?_)
  refine c_iinc (v := (x6 + (1:Int32))) hx hb dX9_findFrom_225 hl (k := 2) rfl rfl (Nat.le_of_ble_eq_true rfl) (lvKa rfl (lvKa rfl (lvKa rfl lvK0))) rfl (fun ls (hl : lv_has ls 8 [(6, .int (x6 + (1:Int32))), (0, cv Φ (some x0)), (1, cv Φ x1)]) => ?_)
  refine lv_goto (tgt := 156) hx hb dX9_findFrom_228 rfl ?_
  exact hk156 hP hS (lv_sub hl [1, 2, 0] rfl) h
set_option maxRecDepth 20000 in
set_option maxHeartbeats 4000000 in
theorem N_X9_findFrom_197 {p : Program} {l : Launch} {e : Env} {s : State} {m : MethodId} {args : Array Value} {below : List Frame} {meth : Method} {c : Code} {D : cD} {Φ : cG} {x0 : Nat} {k156 : Option Nat → Int32 → cS → Option (cS)}  {x1 : Option Nat} {x6 : Int32} {x7 : Option Nat} {σ : cS} {H : Heap} {locs : List Loc} {ls : Array Slot} {q : cS} (X : cX p s m args meth c cX9_findFrom 8 none RX9 D Φ) (hP : cP D Φ σ H) (hS : va_S (cReg Φ) s.heap H locs) (hk156 : ∀ {x1 : Option Nat} {x6 : Int32} {σ : cS} {H : Heap} {locs : List Loc} {ls : Array Slot}, cP D Φ σ H → va_S (cReg Φ) s.heap H locs → lv_has ls 8 [(0, cv Φ (some x0)), (1, cv Φ x1), (6, .int x6)] → k156 x1 x6 σ = some q → cWw p l e 2 0 0 53 s m args below meth c D Φ q none H locs 0 0 (F0 m 156 ls [])) (hl : lv_has ls 8 [(0, cv Φ (some x0)), (1, cv Φ x1), (6, .int x6), (7, cv Φ x7)]) (h : f_X9_findFrom_197 k156 x0 x1 x6 x7 σ = some q) : cWw p l e 2 0 0 53 s m args below meth c D Φ q none H locs 0 0 (F0 m 197 ls []) := by
  have hx := X.1
  have hb := X.2.1
  have hown := X.2.2.2.1
  have hts := X.2.2.2.2.1
  have h : ((gI σ (some x0) 9 3).bind (fun v1 => if x7 = none then (f_X9_findFrom_221 k156 x0 (x1) (x6) ((some x0)) (v1) ((0:Int32)) σ) else ((gI σ x7 6 7).bind (fun v2 => f_X9_findFrom_221 k156 x0 (x1) (x6) ((some x0)) (v1) ((v2 &&& ((1:Int32) <<< (x6 &&& 31)))) σ)))) = some q := h
  refine c_aload_n hx hb dX9_findFrom_197 rfl (lv_at hl 0 rfl) ?_
  refine c_dupq hx hb dX9_findFrom_198 ?_
  obtain ⟨v1, hv1, h⟩ := ob h
  refine c_gI X hP hv1 (Nat.le_of_ble_eq_true rfl) (Nat.le_of_ble_eq_true rfl) rfl w_100 dX9_findFrom_199 ?_
  refine c_aload hx hb dX9_findFrom_202 (lv_at hl 3 rfl) ?_
  refine c_ifnonnull (Φ := Φ) (tgt := 211) hx hb dX9_findFrom_204 rfl (fun hc => ?_) (fun hc => ?_)
  · have h := ine hc h
    refine c_aload hx hb dX9_findFrom_211 (lv_at hl 3 rfl) ?_
    obtain ⟨v2, hv2, h⟩ := ob h
    refine c_gI X hP hv2 (Nat.le_of_ble_eq_true rfl) (Nat.le_of_ble_eq_true rfl) rfl w_176 dX9_findFrom_213 ?_
    refine lv_iconst (v := (1:Int32)) hx hb dX9_findFrom_216 (by decide) ?_
    refine lv_iload hx hb dX9_findFrom_217 (lv_at hl 2 rfl) ?_
    refine lv_ishl hx hb dX9_findFrom_219 ?_
    refine lv_iand hx hb dX9_findFrom_220 ?_
    exact N_X9_findFrom_221 X hP hS hk156 (lv_sub hl [0, 1, 2] rfl) h
  · have h := ip hc h
    refine lv_iconst (v := (0:Int32)) hx hb dX9_findFrom_207 (by decide) ?_
    refine lv_goto (tgt := 221) hx hb dX9_findFrom_208 rfl ?_
    exact N_X9_findFrom_221 X hP hS hk156 (lv_sub hl [0, 1, 2] rfl) h
set_option maxRecDepth 20000 in
set_option maxHeartbeats 4000000 in
theorem N_X9_findFrom_156 {p : Program} {l : Launch} {e : Env} {s : State} {m : MethodId} {args : Array Value} {below : List Frame} {meth : Method} {c : Code} {D : cD} {Φ : cG} {x0 : Nat}  {n : Nat} {x1 : Option Nat} {x6 : Int32} {σ : cS} {H : Heap} {locs : List Loc} {ls : Array Slot} {q : cS} (X : cX p s m args meth c cX9_findFrom 8 none RX9 D Φ) (hP : cP D Φ σ H) (hS : va_S (cReg Φ) s.heap H locs)  (hl : lv_has ls 8 [(0, cv Φ (some x0)), (1, cv Φ x1), (6, .int x6)]) (h : f_X9_findFrom_156  x0 n x1 x6 σ = some q) : cWw p l e 2 0 0 53 s m args below meth c D Φ q none H locs 0 0 (F0 m 156 ls []) := by
  have hx := X.1
  have hb := X.2.1
  have hown := X.2.2.2.1
  have hts := X.2.2.2.2.1
  induction n generalizing x1 x6 σ H locs ls with
  | zero => exact absurd (show none = some q from h) (by simp)
  | succ n ih =>
    have h : (if (15:Int32) ≤ x6 then (some σ) else ((aR σ x1 36 x6).bind (fun v1 => if (12:Int32) ≤ x6 then (f_X9_findFrom_197 (f_X9_findFrom_156 x0 n) x0 (x1) (x6) (v1) σ) else (if x6 = (1:Int32) then (f_X9_findFrom_197 (f_X9_findFrom_156 x0 n) x0 (x1) (x6) (v1) σ) else ((gR σ (some x0) 9 0).bind (fun v2 => (rc σ (some x0) 9).bind (fun v3 => (f_X9_findValue v3 (x6) (v1) σ).bind (fun v4 => (sI σ v2 x6 v4).bind (fun v5 => f_X9_findFrom_197 (f_X9_findFrom_156 x0 n) x0 (x1) (x6) (v1) v5))))))))) = some q := h
    refine lv_iload hx hb dX9_findFrom_156 (lv_at hl 2 rfl) ?_
    refine lv_bipush (v := (15:Int32)) hx hb dX9_findFrom_158 (by decide) ?_
    refine lv_icmp_ge (tgt := 231) hx hb dX9_findFrom_160 rfl (fun hc => ?_) (fun hc => ?_)
    · have h := ip hc h
      obtain rfl := sj h
      exact c_wv X hP hS (Nat.le_of_ble_eq_true rfl) (Nat.le_of_ble_eq_true rfl) dX9_findFrom_231
    · have h := ine hc h
      refine c_aload_n hx hb dX9_findFrom_163 rfl (lv_at hl 1 rfl) ?_
      refine lv_iload hx hb dX9_findFrom_164 (lv_at hl 2 rfl) ?_
      obtain ⟨v1, hv1, h⟩ := ob h
      refine c_aldq X hP hv1 (ty := .object "Cascadery$Rule") rfl (by decide) rfl dX9_findFrom_166 ?_
      refine c_astore hx hb dX9_findFrom_167 hl (Nat.le_of_ble_eq_true rfl) (lvKa rfl (lvKa rfl (lvKi lvK0))) rfl (fun ls (hl : lv_has ls 8 [(7, cv Φ v1), (0, cv Φ (some x0)), (1, cv Φ x1), (6, .int x6)]) => ?_)
      refine lv_iload hx hb dX9_findFrom_169 (lv_at hl 3 rfl) ?_
      refine lv_bipush (v := (12:Int32)) hx hb dX9_findFrom_171 (by decide) ?_
      refine lv_icmp_ge (tgt := 197) hx hb dX9_findFrom_173 rfl (fun hc => ?_) (fun hc => ?_)
      · have h := ip hc h
        exact N_X9_findFrom_197 X hP hS ih (lv_sub hl [1, 2, 3, 0] rfl) h
      · have h := ine hc h
        refine lv_iload hx hb dX9_findFrom_176 (lv_at hl 3 rfl) ?_
        refine lv_iconst (v := (1:Int32)) hx hb dX9_findFrom_178 (by decide) ?_
        refine lv_icmp_eq (tgt := 197) hx hb dX9_findFrom_179 rfl (fun hc => ?_) (fun hc => ?_)
        · have h := ip hc h
          exact N_X9_findFrom_197 X hP hS ih (lv_sub hl [1, 2, 3, 0] rfl) h
        · have h := ine hc h
          refine c_aload_n hx hb dX9_findFrom_182 rfl (lv_at hl 1 rfl) ?_
          obtain ⟨v2, hv2, h⟩ := ob h
          refine c_gR X hP hv2 (Nat.le_of_ble_eq_true rfl) (Nat.le_of_ble_eq_true rfl) rfl w_93 dX9_findFrom_183 ?_
          refine lv_iload hx hb dX9_findFrom_186 (lv_at hl 3 rfl) ?_
          refine c_aload_n hx hb dX9_findFrom_188 rfl (lv_at hl 1 rfl) ?_
          refine lv_iload hx hb dX9_findFrom_189 (lv_at hl 3 rfl) ?_
          refine c_aload hx hb dX9_findFrom_191 (lv_at hl 0 rfl) ?_
          obtain ⟨v3, hv3, h⟩ := ob h
          obtain ⟨v4, hv4, h⟩ := ob h
          refine c_cr (c_runV X (K_X9_findValue l D Φ σ v3 (x6) (v1) hv4) hv3 ⟨Nat.le_of_ble_eq_true rfl, by decide⟩ ⟨w_1028, ww_X9_findValue⟩ rfl hy_X9_findValue rfl ⟨(Nat.le_of_ble_eq_true rfl), (Nat.le_of_ble_eq_true rfl)⟩ hP hS hl.1 (Nat.le_of_ble_eq_true rfl) dX9_findFrom_193 rfl ⟨(Nat.le_of_ble_eq_true rfl), (Nat.le_of_ble_eq_true rfl)⟩) ?_
          obtain ⟨v5, hv5, h⟩ := ob h
          refine c_ast X hP hS hv5 dX9_findFrom_196 (fun H locs hP hS => ?_)
          exact N_X9_findFrom_197 X hP hS ih (lv_sub hl [1, 2, 3, 0] rfl) h
set_option maxRecDepth 20000 in
set_option maxHeartbeats 4000000 in
theorem N_X9_findFrom_153 {p : Program} {l : Launch} {e : Env} {s : State} {m : MethodId} {args : Array Value} {below : List Frame} {meth : Method} {c : Code} {D : cD} {Φ : cG} {x0 : Nat}   {x1 : Option Nat} {σ : cS} {H : Heap} {locs : List Loc} {ls : Array Slot} {q : cS} (X : cX p s m args meth c cX9_findFrom 8 none RX9 D Φ) (hP : cP D Φ σ H) (hS : va_S (cReg Φ) s.heap H locs)  (hl : lv_has ls 8 [(0, cv Φ (some x0)), (1, cv Φ x1)]) (h : f_X9_findFrom_153  x0 x1 σ = some q) : cWw p l e 2 0 0 53 s m args below meth c D Φ q none H locs 0 0 (F0 m 153 ls []) := by
  have hx := X.1
  have hb := X.2.1
  have hown := X.2.2.2.1
  have hts := X.2.2.2.2.1
  have h : (f_X9_findFrom_156 x0 4000 (x1) ((0:Int32)) σ) = some q := h
  refine lv_iconst (v := (0:Int32)) hx hb dX9_findFrom_153 (by decide) ?_
  refine c_istore hx hb dX9_findFrom_154 hl (Nat.le_of_ble_eq_true rfl) (lvKa rfl (lvKa rfl lvK0)) rfl (fun ls (hl : lv_has ls 8 [(6, .int (0:Int32)), (0, cv Φ (some x0)), (1, cv Φ x1)]) => ?_)
  exact N_X9_findFrom_156 X hP hS (lv_sub hl [1, 2, 0] rfl) h
set_option maxRecDepth 20000 in
set_option maxHeartbeats 4000000 in
theorem N_X9_findFrom_109 {p : Program} {l : Launch} {e : Env} {s : State} {m : MethodId} {args : Array Value} {below : List Frame} {meth : Method} {c : Code} {D : cD} {Φ : cG} {x0 : Nat}   {x1 : Option Nat} {y0 : Option Nat} {y1 : Int32} {σ : cS} {H : Heap} {locs : List Loc} {ls : Array Slot} {q : cS} (X : cX p s m args meth c cX9_findFrom 8 none RX9 D Φ) (hP : cP D Φ σ H) (hS : va_S (cReg Φ) s.heap H locs)  (hl : lv_has ls 8 [(0, cv Φ (some x0)), (1, cv Φ x1)]) (h : f_X9_findFrom_109  x0 x1 y0 y1 σ = some q) : cWw p l e 2 0 0 53 s m args below meth c D Φ q none H locs 0 0 (F0 m 109 ls [.int y1, cv Φ y0]) := by
  have hx := X.1
  have hb := X.2.1
  have hown := X.2.2.2.1
  have hts := X.2.2.2.2.1
  have h : ((pI σ y0 9 13 y1).bind (fun v1 => (pI v1 (some x0) 9 3 (0:Int32)).bind (fun v2 => (rc v2 (some x0) 9).bind (fun v3 => (f_X9_findVariables v3 (x1) v2).bind (fun v4 => (gR v4 (some x0) 9 0).bind (fun v5 => (aR v4 x1 36 (1:Int32)).bind (fun v6 => (rc v4 (some x0) 9).bind (fun v7 => (f_X9_findValue v7 ((1:Int32)) (v6) v4).bind (fun v8 => (sI v4 v5 (1:Int32) v8).bind (fun v9 => (gR v9 (some x0) 9 9).bind (fun v10 => if v10 = none then ((gR v9 (some x0) 9 0).bind (fun v11 => (aI v9 v11 (1:Int32)).bind (fun v12 => (pI v9 (some x0) 9 12 v12).bind (fun v13 => f_X9_findFrom_153 x0 (x1) v13)))) else (f_X9_findFrom_153 x0 (x1) v9)))))))))))) = some q := h
  obtain ⟨v1, hv1, h⟩ := ob h
  refine c_pI X hP hS hv1 (Nat.le_of_ble_eq_true rfl) (Nat.le_of_ble_eq_true rfl) rfl rfl (Or.inl rfl) w_111 dX9_findFrom_109 (fun H locs hP hS => ?_)
  refine c_aload_n hx hb dX9_findFrom_112 rfl (lv_at hl 0 rfl) ?_
  refine lv_iconst (v := (0:Int32)) hx hb dX9_findFrom_113 (by decide) ?_
  obtain ⟨v2, hv2, h⟩ := ob h
  refine c_pI X hP hS hv2 (Nat.le_of_ble_eq_true rfl) (Nat.le_of_ble_eq_true rfl) rfl rfl (Or.inl rfl) w_100 dX9_findFrom_114 (fun H locs hP hS => ?_)
  refine c_aload_n hx hb dX9_findFrom_117 rfl (lv_at hl 0 rfl) ?_
  refine c_aload_n hx hb dX9_findFrom_118 rfl (lv_at hl 1 rfl) ?_
  obtain ⟨v3, hv3, h⟩ := ob h
  obtain ⟨v4, hv4, h⟩ := ob h
  refine c_cw (c_runV X (K_X9_findVariables l D Φ v2 v3 (x1) hv4) hv3 ⟨Nat.le_of_ble_eq_true rfl, by decide⟩ ⟨w_1013, ww_X9_findVariables⟩ rfl hy_X9_findVariables rfl ⟨(Nat.le_of_ble_eq_true rfl), (Nat.le_of_ble_eq_true rfl)⟩ hP hS hl.1 (Nat.le_of_ble_eq_true rfl) dX9_findFrom_119 rfl ⟨(Nat.le_of_ble_eq_true rfl), (Nat.le_of_ble_eq_true rfl)⟩) hS (fun H locs hP hS => ?_)
  refine W.eq (g2 := F0 m 122 ls []) rfl ?_
  refine c_aload_n hx hb dX9_findFrom_122 rfl (lv_at hl 0 rfl) ?_
  obtain ⟨v5, hv5, h⟩ := ob h
  refine c_gR X hP hv5 (Nat.le_of_ble_eq_true rfl) (Nat.le_of_ble_eq_true rfl) rfl w_93 dX9_findFrom_123 ?_
  refine lv_iconst (v := (1:Int32)) hx hb dX9_findFrom_126 (by decide) ?_
  refine c_aload_n hx hb dX9_findFrom_127 rfl (lv_at hl 0 rfl) ?_
  refine lv_iconst (v := (1:Int32)) hx hb dX9_findFrom_128 (by decide) ?_
  refine c_aload_n hx hb dX9_findFrom_129 rfl (lv_at hl 1 rfl) ?_
  refine lv_iconst (v := (1:Int32)) hx hb dX9_findFrom_130 (by decide) ?_
  obtain ⟨v6, hv6, h⟩ := ob h
  refine c_aldq X hP hv6 (ty := .object "Cascadery$Rule") rfl (by decide) rfl dX9_findFrom_131 ?_
  obtain ⟨v7, hv7, h⟩ := ob h
  obtain ⟨v8, hv8, h⟩ := ob h
  refine c_cr (c_runV X (K_X9_findValue l D Φ v4 v7 ((1:Int32)) (v6) hv8) hv7 ⟨Nat.le_of_ble_eq_true rfl, by decide⟩ ⟨w_1028, ww_X9_findValue⟩ rfl hy_X9_findValue rfl ⟨(Nat.le_of_ble_eq_true rfl), (Nat.le_of_ble_eq_true rfl)⟩ hP hS hl.1 (Nat.le_of_ble_eq_true rfl) dX9_findFrom_132 rfl ⟨(Nat.le_of_ble_eq_true rfl), (Nat.le_of_ble_eq_true rfl)⟩) ?_
  obtain ⟨v9, hv9, h⟩ := ob h
  refine c_ast X hP hS hv9 dX9_findFrom_135 (fun H locs hP hS => ?_)
  refine c_aload_n hx hb dX9_findFrom_136 rfl (lv_at hl 0 rfl) ?_
  obtain ⟨v10, hv10, h⟩ := ob h
  refine c_gR X hP hv10 (Nat.le_of_ble_eq_true rfl) (Nat.le_of_ble_eq_true rfl) rfl w_107 dX9_findFrom_137 ?_
  refine c_ifnonnull (Φ := Φ) (tgt := 153) hx hb dX9_findFrom_140 rfl (fun hc => ?_) (fun hc => ?_)
  · have h := ine hc h
    exact N_X9_findFrom_153 X hP hS (lv_sub hl [0, 1] rfl) h
  · have h := ip hc h
    refine c_aload_n hx hb dX9_findFrom_143 rfl (lv_at hl 0 rfl) ?_
    refine c_aload_n hx hb dX9_findFrom_144 rfl (lv_at hl 0 rfl) ?_
    obtain ⟨v11, hv11, h⟩ := ob h
    refine c_gR X hP hv11 (Nat.le_of_ble_eq_true rfl) (Nat.le_of_ble_eq_true rfl) rfl w_93 dX9_findFrom_145 ?_
    refine lv_iconst (v := (1:Int32)) hx hb dX9_findFrom_148 (by decide) ?_
    obtain ⟨v12, hv12, h⟩ := ob h
    refine c_ald X hP hv12 dX9_findFrom_149 ?_
    obtain ⟨v13, hv13, h⟩ := ob h
    refine c_pI X hP hS hv13 (Nat.le_of_ble_eq_true rfl) (Nat.le_of_ble_eq_true rfl) rfl rfl (Or.inl rfl) w_110 dX9_findFrom_150 (fun H locs hP hS => ?_)
    exact N_X9_findFrom_153 X hP hS (lv_sub hl [0, 1] rfl) h
set_option maxRecDepth 20000 in
set_option maxHeartbeats 4000000 in
theorem N_X9_findFrom_90 {p : Program} {l : Launch} {e : Env} {s : State} {m : MethodId} {args : Array Value} {below : List Frame} {meth : Method} {c : Code} {D : cD} {Φ : cG} {x0 : Nat}   {x1 : Option Nat} {x4 : Option Nat} {x5 : Int32} {y0 : Option Nat} {y1 : Int32} {σ : cS} {H : Heap} {locs : List Loc} {ls : Array Slot} {q : cS} (X : cX p s m args meth c cX9_findFrom 8 none RX9 D Φ) (hP : cP D Φ σ H) (hS : va_S (cReg Φ) s.heap H locs)  (hl : lv_has ls 8 [(0, cv Φ (some x0)), (1, cv Φ x1), (4, cv Φ x4), (5, .int x5)]) (h : f_X9_findFrom_90  x0 x1 x4 x5 y0 y1 σ = some q) : cWw p l e 2 0 0 53 s m args below meth c D Φ q none H locs 0 0 (F0 m 90 ls [.int y1, cv Φ y0]) := by
  have hx := X.1
  have hb := X.2.1
  have hown := X.2.2.2.1
  have hts := X.2.2.2.2.1
  have h : ((pI σ y0 9 12 y1).bind (fun v1 => if x4 = none then (f_X9_findFrom_109 x0 (x1) ((some x0)) (x5) v1) else ((gI v1 x4 9 2).bind (fun v2 => f_X9_findFrom_109 x0 (x1) ((some x0)) (v2) v1)))) = some q := h
  obtain ⟨v1, hv1, h⟩ := ob h
  refine c_pI X hP hS hv1 (Nat.le_of_ble_eq_true rfl) (Nat.le_of_ble_eq_true rfl) rfl rfl (Or.inl rfl) w_110 dX9_findFrom_90 (fun H locs hP hS => ?_)
  refine c_aload_n hx hb dX9_findFrom_93 rfl (lv_at hl 0 rfl) ?_
  refine c_aload hx hb dX9_findFrom_94 (lv_at hl 2 rfl) ?_
  refine c_ifnonnull (Φ := Φ) (tgt := 104) hx hb dX9_findFrom_96 rfl (fun hc => ?_) (fun hc => ?_)
  · have h := ine hc h
    refine c_aload hx hb dX9_findFrom_104 (lv_at hl 2 rfl) ?_
    obtain ⟨v2, hv2, h⟩ := ob h
    refine c_gI X hP hv2 (Nat.le_of_ble_eq_true rfl) (Nat.le_of_ble_eq_true rfl) rfl w_97 dX9_findFrom_106 ?_
    exact N_X9_findFrom_109 X hP hS (lv_sub hl [0, 1] rfl) h
  · have h := ip hc h
    refine lv_iload hx hb dX9_findFrom_99 (lv_at hl 3 rfl) ?_
    refine lv_goto (tgt := 109) hx hb dX9_findFrom_101 rfl ?_
    exact N_X9_findFrom_109 X hP hS (lv_sub hl [0, 1] rfl) h
set_option maxRecDepth 20000 in
set_option maxHeartbeats 4000000 in
theorem N_X9_findFrom_79 {p : Program} {l : Launch} {e : Env} {s : State} {m : MethodId} {args : Array Value} {below : List Frame} {meth : Method} {c : Code} {D : cD} {Φ : cG} {x0 : Nat}   {x1 : Option Nat} {x4 : Option Nat} {x5 : Int32} {y0 : Option Nat} {σ : cS} {H : Heap} {locs : List Loc} {ls : Array Slot} {q : cS} (X : cX p s m args meth c cX9_findFrom 8 none RX9 D Φ) (hP : cP D Φ σ H) (hS : va_S (cReg Φ) s.heap H locs)  (hl : lv_has ls 8 [(0, cv Φ (some x0)), (1, cv Φ x1), (4, cv Φ x4), (5, .int x5)]) (h : f_X9_findFrom_79  x0 x1 x4 x5 y0 σ = some q) : cWw p l e 2 0 0 53 s m args below meth c D Φ q none H locs 0 0 (F0 m 79 ls [cv Φ y0]) := by
  have hx := X.1
  have hb := X.2.1
  have hown := X.2.2.2.1
  have hts := X.2.2.2.2.1
  have h : (f_X9_findFrom_90 x0 (x1) (x4) (x5) (y0) ((16:Int32)) σ) = some q := h
  refine lv_bipush (v := (16:Int32)) hx hb dX9_findFrom_79 (by decide) ?_
  refine lv_goto (tgt := 90) hx hb dX9_findFrom_81 rfl ?_
  exact N_X9_findFrom_90 X hP hS (lv_sub hl [0, 1, 2, 3] rfl) h
set_option maxRecDepth 20000 in
set_option maxHeartbeats 4000000 in
theorem N_X9_findFrom_64 {p : Program} {l : Launch} {e : Env} {s : State} {m : MethodId} {args : Array Value} {below : List Frame} {meth : Method} {c : Code} {D : cD} {Φ : cG} {x0 : Nat}   {x1 : Option Nat} {x3 : Option Nat} {x4 : Option Nat} {x5 : Int32} {y0 : Option Nat} {y1 : Int32} {σ : cS} {H : Heap} {locs : List Loc} {ls : Array Slot} {q : cS} (X : cX p s m args meth c cX9_findFrom 8 none RX9 D Φ) (hP : cP D Φ σ H) (hS : va_S (cReg Φ) s.heap H locs)  (hl : lv_has ls 8 [(0, cv Φ (some x0)), (1, cv Φ x1), (3, cv Φ x3), (4, cv Φ x4), (5, .int x5)]) (h : f_X9_findFrom_64  x0 x1 x3 x4 x5 y0 y1 σ = some q) : cWw p l e 2 0 0 53 s m args below meth c D Φ q none H locs 0 0 (F0 m 64 ls [.int y1, cv Φ y0]) := by
  have hx := X.1
  have hb := X.2.1
  have hown := X.2.2.2.1
  have hts := X.2.2.2.2.1
  have h : ((pI σ y0 9 11 y1).bind (fun v1 => (gR v1 (some x0) 9 9).bind (fun v2 => if v2 = none then (f_X9_findFrom_79 x0 (x1) (x4) (x5) ((some x0)) v1) else (if x3 = none then (f_X9_findFrom_79 x0 (x1) (x4) (x5) ((some x0)) v1) else ((gR v1 x3 9 0).bind (fun v3 => (aI v1 v3 (1:Int32)).bind (fun v4 => f_X9_findFrom_90 x0 (x1) (x4) (x5) ((some x0)) (v4) v1))))))) = some q := h
  obtain ⟨v1, hv1, h⟩ := ob h
  refine c_pI X hP hS hv1 (Nat.le_of_ble_eq_true rfl) (Nat.le_of_ble_eq_true rfl) rfl rfl (Or.inl rfl) w_109 dX9_findFrom_64 (fun H locs hP hS => ?_)
  refine c_aload_n hx hb dX9_findFrom_67 rfl (lv_at hl 0 rfl) ?_
  refine c_aload_n hx hb dX9_findFrom_68 rfl (lv_at hl 0 rfl) ?_
  obtain ⟨v2, hv2, h⟩ := ob h
  refine c_gR X hP hv2 (Nat.le_of_ble_eq_true rfl) (Nat.le_of_ble_eq_true rfl) rfl w_107 dX9_findFrom_69 ?_
  refine c_ifnull (Φ := Φ) (tgt := 79) hx hb dX9_findFrom_72 rfl (fun hc => ?_) (fun hc => ?_)
  · have h := ip hc h
    exact N_X9_findFrom_79 X hP hS (lv_sub hl [0, 1, 3, 4] rfl) h
  · have h := ine hc h
    refine c_aload_n hx hb dX9_findFrom_75 rfl (lv_at hl 2 rfl) ?_
    refine c_ifnonnull (Φ := Φ) (tgt := 84) hx hb dX9_findFrom_76 rfl (fun hc => ?_) (fun hc => ?_)
    · have h := ine hc h
      refine c_aload_n hx hb dX9_findFrom_84 rfl (lv_at hl 2 rfl) ?_
      obtain ⟨v3, hv3, h⟩ := ob h
      refine c_gR X hP hv3 (Nat.le_of_ble_eq_true rfl) (Nat.le_of_ble_eq_true rfl) rfl w_93 dX9_findFrom_85 ?_
      refine lv_iconst (v := (1:Int32)) hx hb dX9_findFrom_88 (by decide) ?_
      obtain ⟨v4, hv4, h⟩ := ob h
      refine c_ald X hP hv4 dX9_findFrom_89 ?_
      exact N_X9_findFrom_90 X hP hS (lv_sub hl [0, 1, 3, 4] rfl) h
    · have h := ip hc h
      exact N_X9_findFrom_79 X hP hS (lv_sub hl [0, 1, 3, 4] rfl) h
set_option maxRecDepth 20000 in
set_option maxHeartbeats 4000000 in
theorem N_X9_findFrom_39 {p : Program} {l : Launch} {e : Env} {s : State} {m : MethodId} {args : Array Value} {below : List Frame} {meth : Method} {c : Code} {D : cD} {Φ : cG} {x0 : Nat}   {x1 : Option Nat} {x3 : Option Nat} {x4 : Option Nat} {x5 : Int32} {y0 : Option Nat} {y1 : Int32} {σ : cS} {H : Heap} {locs : List Loc} {ls : Array Slot} {q : cS} (X : cX p s m args meth c cX9_findFrom 8 none RX9 D Φ) (hP : cP D Φ σ H) (hS : va_S (cReg Φ) s.heap H locs)  (hl : lv_has ls 8 [(0, cv Φ (some x0)), (1, cv Φ x1), (3, cv Φ x3), (4, cv Φ x4), (5, .int x5)]) (h : f_X9_findFrom_39  x0 x1 x3 x4 x5 y0 y1 σ = some q) : cWw p l e 2 0 0 53 s m args below meth c D Φ q none H locs 0 0 (F0 m 39 ls [.int y1, cv Φ y0]) := by
  have hx := X.1
  have hb := X.2.1
  have hown := X.2.2.2.1
  have hts := X.2.2.2.2.1
  have h : ((pI σ y0 9 10 y1).bind (fun v1 => (gR v1 (some x0) 9 9).bind (fun v2 => if v2 = none then (f_X9_findFrom_64 x0 (x1) (x3) (x4) (x5) ((some x0)) (x5) v1) else ((gR v1 (some x0) 9 9).bind (fun v3 => (gR v1 v3 9 0).bind (fun v4 => (aI v1 v4 (2:Int32)).bind (fun v5 => f_X9_findFrom_64 x0 (x1) (x3) (x4) (x5) ((some x0)) (v5) v1))))))) = some q := h
  obtain ⟨v1, hv1, h⟩ := ob h
  refine c_pI X hP hS hv1 (Nat.le_of_ble_eq_true rfl) (Nat.le_of_ble_eq_true rfl) rfl rfl (Or.inl rfl) w_108 dX9_findFrom_39 (fun H locs hP hS => ?_)
  refine c_aload_n hx hb dX9_findFrom_42 rfl (lv_at hl 0 rfl) ?_
  refine c_aload_n hx hb dX9_findFrom_43 rfl (lv_at hl 0 rfl) ?_
  obtain ⟨v2, hv2, h⟩ := ob h
  refine c_gR X hP hv2 (Nat.le_of_ble_eq_true rfl) (Nat.le_of_ble_eq_true rfl) rfl w_107 dX9_findFrom_44 ?_
  refine c_ifnonnull (Φ := Φ) (tgt := 55) hx hb dX9_findFrom_47 rfl (fun hc => ?_) (fun hc => ?_)
  · have h := ine hc h
    refine c_aload_n hx hb dX9_findFrom_55 rfl (lv_at hl 0 rfl) ?_
    obtain ⟨v3, hv3, h⟩ := ob h
    refine c_gR X hP hv3 (Nat.le_of_ble_eq_true rfl) (Nat.le_of_ble_eq_true rfl) rfl w_107 dX9_findFrom_56 ?_
    obtain ⟨v4, hv4, h⟩ := ob h
    refine c_gR X hP hv4 (Nat.le_of_ble_eq_true rfl) (Nat.le_of_ble_eq_true rfl) rfl w_93 dX9_findFrom_59 ?_
    refine lv_iconst (v := (2:Int32)) hx hb dX9_findFrom_62 (by decide) ?_
    obtain ⟨v5, hv5, h⟩ := ob h
    refine c_ald X hP hv5 dX9_findFrom_63 ?_
    exact N_X9_findFrom_64 X hP hS (lv_sub hl [0, 1, 2, 3, 4] rfl) h
  · have h := ip hc h
    refine lv_iload hx hb dX9_findFrom_50 (lv_at hl 4 rfl) ?_
    refine lv_goto (tgt := 64) hx hb dX9_findFrom_52 rfl ?_
    exact N_X9_findFrom_64 X hP hS (lv_sub hl [0, 1, 2, 3, 4] rfl) h
set_option maxRecDepth 20000 in
set_option maxHeartbeats 4000000 in
theorem K_X9_findFrom (l : Launch) (D : cD) (Φ : cG) (σ : cS) (x0 : Nat) (x1 : Option Nat) (x2 : Option Nat) (x3 : Option Nat) (x4 : Option Nat) (x5 : Int32) {q : cS} (h : f_X9_findFrom x0 x1 x2 x3 x4 x5 σ = some q) : Met l yX9_findFrom (Cond.code yX9_findFrom cX9_findFrom 8 none :: BG) (rA 2 0 0 53) (cPc D Φ σ [cv Φ (some x0), cv Φ x1, cv Φ x2, cv Φ x3, cv Φ x4, .int x5]) (cQw D Φ q none) 0 0 (cReg Φ) := by
  refine Met.ofW (cc := cX9_findFrom) (maxL := 8) (ret := none) (by decide) rfl ?_
  intro p e s m args below meth c s₁ B hml hv
  obtain ⟨rfl, hP, hK, hZ⟩ := hv
  have X : cX p s m [cv Φ (some x0), cv Φ x1, cv Φ x2, cv Φ x3, cv Φ x4, .int x5].toArray meth c cX9_findFrom 8 none RX9 D Φ := cX_of B hml hK hZ
  have hx := X.1
  have hb := X.2.1
  have hown := X.2.2.2.1
  have hts := X.2.2.2.2.1
  have hl := lv_entry [cv Φ (some x0), cv Φ x1, cv Φ x2, cv Φ x3, cv Φ x4, .int x5] (n := 8) (by simp only [lgs_r, lgs_i, lgs_l, lgs_0, List.length]; exact Nat.le_of_ble_eq_true rfl)
  rw [lg_entry_eq]
  generalize (lg_sl [cv Φ (some x0), cv Φ x1, cv Φ x2, cv Φ x3, cv Φ x4, .int x5] ++ List.replicate (8 - (lg_sl [cv Φ (some x0), cv Φ x1, cv Φ x2, cv Φ x3, cv Φ x4, .int x5]).length) Slot.unset).toArray = ls at hl ⊢
  simp only [lv_args_r, lv_args_i, lv_args_l, lv_args_0] at hl
  have hl : lv_has ls 8 [(0, cv Φ (some x0)), (1, cv Φ x1), (2, cv Φ x2), (3, cv Φ x3), (4, cv Φ x4), (5, .int x5)] := hl
  have hS : va_S (cReg Φ) s.heap s.heap [] := va_S.rf
  show cWw p l e 2 0 0 53 s m [cv Φ (some x0), cv Φ x1, cv Φ x2, cv Φ x3, cv Φ x4, .int x5].toArray below meth c D Φ q none s.heap [] 0 0 (F0 m 0 ls [])
  have h : (if x1 = none then (f_X9_findFrom_11 x0 σ) else ((aL σ x1 36).bind (fun v1 => if (15:Int32) ≤ v1 then ((pR σ (some x0) 9 9 x2).bind (fun v2 => (gR v2 (some x0) 9 9).bind (fun v3 => if v3 = none then (f_X9_findFrom_39 x0 (x1) (x3) (x4) (x5) ((some x0)) ((16:Int32)) v2) else ((gR v2 (some x0) 9 9).bind (fun v4 => (gR v2 v4 9 0).bind (fun v5 => (aI v2 v5 (1:Int32)).bind (fun v6 => f_X9_findFrom_39 x0 (x1) (x3) (x4) (x5) ((some x0)) (v6) v2))))))) else (f_X9_findFrom_11 x0 σ)))) = some q := h
  refine c_aload_n hx hb dX9_findFrom_0 rfl (lv_at hl 1 rfl) ?_
  refine c_ifnull (Φ := Φ) (tgt := 11) hx hb dX9_findFrom_1 rfl (fun hc => ?_) (fun hc => ?_)
  · have h := ip hc h
    exact N_X9_findFrom_11 X hP hS (lv_sub hl [] rfl) h
  · have h := ine hc h
    refine c_aload_n hx hb dX9_findFrom_4 rfl (lv_at hl 1 rfl) ?_
    obtain ⟨v1, hv1, h⟩ := ob h
    refine c_alen X hP hv1 (ty := .object "Cascadery$Rule") rfl (by decide) dX9_findFrom_5 ?_
    refine lv_bipush (v := (15:Int32)) hx hb dX9_findFrom_6 (by decide) ?_
    refine lv_icmp_ge (tgt := 12) hx hb dX9_findFrom_8 rfl (fun hc => ?_) (fun hc => ?_)
    · have h := ip hc h
      refine c_aload_n hx hb dX9_findFrom_12 rfl (lv_at hl 0 rfl) ?_
      refine c_aload_n hx hb dX9_findFrom_13 rfl (lv_at hl 2 rfl) ?_
      obtain ⟨v2, hv2, h⟩ := ob h
      refine c_pR X hP hS hv2 (Nat.le_of_ble_eq_true rfl) (Nat.le_of_ble_eq_true rfl) rfl (Or.inl rfl) w_107 dX9_findFrom_14 (fun H locs hP hS => ?_)
      refine c_aload_n hx hb dX9_findFrom_17 rfl (lv_at hl 0 rfl) ?_
      refine c_aload_n hx hb dX9_findFrom_18 rfl (lv_at hl 0 rfl) ?_
      obtain ⟨v3, hv3, h⟩ := ob h
      refine c_gR X hP hv3 (Nat.le_of_ble_eq_true rfl) (Nat.le_of_ble_eq_true rfl) rfl w_107 dX9_findFrom_19 ?_
      refine c_ifnonnull (Φ := Φ) (tgt := 30) hx hb dX9_findFrom_22 rfl (fun hc => ?_) (fun hc => ?_)
      · have h := ine hc h
        refine c_aload_n hx hb dX9_findFrom_30 rfl (lv_at hl 0 rfl) ?_
        obtain ⟨v4, hv4, h⟩ := ob h
        refine c_gR X hP hv4 (Nat.le_of_ble_eq_true rfl) (Nat.le_of_ble_eq_true rfl) rfl w_107 dX9_findFrom_31 ?_
        obtain ⟨v5, hv5, h⟩ := ob h
        refine c_gR X hP hv5 (Nat.le_of_ble_eq_true rfl) (Nat.le_of_ble_eq_true rfl) rfl w_93 dX9_findFrom_34 ?_
        refine lv_iconst (v := (1:Int32)) hx hb dX9_findFrom_37 (by decide) ?_
        obtain ⟨v6, hv6, h⟩ := ob h
        refine c_ald X hP hv6 dX9_findFrom_38 ?_
        exact N_X9_findFrom_39 X hP hS (lv_sub hl [0, 1, 3, 4, 5] rfl) h
      · have h := ip hc h
        refine lv_bipush (v := (16:Int32)) hx hb dX9_findFrom_25 (by decide) ?_
        refine lv_goto (tgt := 39) hx hb dX9_findFrom_27 rfl ?_
        exact N_X9_findFrom_39 X hP hS (lv_sub hl [0, 1, 3, 4, 5] rfl) h
    · have h := ine hc h
      exact N_X9_findFrom_11 X hP hS (lv_sub hl [] rfl) h
theorem ww_X9_findFrom : Cond.instanceMethod yX9_findFrom ∈ BG ∧ Cond.selects (yX9_findFrom).cls yX9_findFrom yX9_findFrom ∈ BG ∧ Cond.initialized (yX9_findFrom).cls ∈ BG ∧ Cond.code yX9_findFrom cX9_findFrom 8 none ∈ BG := ⟨w_1010, w_1011, w_57, w_1012⟩
theorem hy_X9_findFrom : (yX9_findFrom).cls ≠ "java/lang/invoke/MethodHandle" ∧ (yX9_findFrom).cls ≠ "java/lang/invoke/VarHandle" ∧ (parseMethodDescriptor (yX9_findFrom).desc).map (fun d => d.parameters.length) = some 5 := ⟨by decide, by decide, by decide +kernel⟩
def f_X9_seenAt_80  (x0 : Nat) (x1 : Int32) (σ : cS) : Option (Int32) := (gR σ (some x0) 9 0).bind (fun v1 => (aI σ v1 x1).bind (fun v2 => some v2))
def f_X9_seenAt_65  (x0 : Nat) (x1 : Int32) (x2 : Int32) (x3 : Option Nat) (σ : cS) : Option (Int32) := if x3 = none then (f_X9_seenAt_80 x0 (x1) σ) else ((gI σ (some x0) 9 3).bind (fun v1 => if ((v1 >>> (x1 &&& 31)) &&& (1:Int32)) = (0:Int32) then ((gI σ (some x0) 9 8).bind (fun v2 => (gR σ (some x0) 9 0).bind (fun v3 => (aI σ v3 x1).bind (fun v4 => (rc σ x3 0).bind (fun v5 => (f_X0_shownAt v5 (x1) ((x2 - v2)) (v4) σ).bind (fun v6 => some v6)))))) else (f_X9_seenAt_80 x0 (x1) σ)))
def f_X9_seenAt (x0 : Nat) (x1 : Int32) (x2 : Int32) (x3 : Option Nat) (σ : cS) : Option (Int32) := (gR σ (some x0) 9 6).bind (fun v1 => (aI σ v1 x1).bind (fun v2 => (gR σ (some x0) 9 7).bind (fun v3 => (aI σ v3 x1).bind (fun v4 => if v4 ≤ (0:Int32) then (f_X9_seenAt_65 x0 (x1) (x2) (x3) σ) else ((gR σ (some x0) 9 7).bind (fun v5 => (aI σ v5 x1).bind (fun v6 => if v6 ≤ (x2 - v2) then (f_X9_seenAt_65 x0 (x1) (x2) (x3) σ) else ((gR σ (some x0) 9 5).bind (fun v7 => (aI σ v7 x1).bind (fun v8 => (gR σ (some x0) 9 0).bind (fun v9 => (aI σ v9 x1).bind (fun v10 => (gR σ (some x0) 9 5).bind (fun v11 => (aI σ v11 x1).bind (fun v12 => (gR σ (some x0) 9 7).bind (fun v13 => (aI σ v13 x1).bind (fun v14 => (ldv (((v10 - v12)).toInt64 * ((x2 - v2)).toInt64) (v14).toInt64).bind (fun v15 => some (v8 + (v15).toInt32))))))))))))))))))
set_option maxRecDepth 20000 in
set_option maxHeartbeats 4000000 in
theorem N_X9_seenAt_80 {p : Program} {l : Launch} {e : Env} {s : State} {m : MethodId} {args : Array Value} {below : List Frame} {meth : Method} {c : Code} {D : cD} {Φ : cG} {x0 : Nat}   {x1 : Int32} {σ : cS} {ls : Array Slot} {r : Int32} (X : cX p s m args meth c cX9_seenAt 5 (some .int) RX9 D Φ) (hP : cP D Φ σ s.heap) (hS : va_S (cReg Φ) s.heap s.heap [])  (hl : lv_has ls 5 [(0, cv Φ (some x0)), (1, .int x1)]) (h : f_X9_seenAt_80  x0 x1 σ = some r) : cWr p l e 1 32 s m args below meth c (some (.int r)) (F0 m 80 ls []) := by
  have hx := X.1
  have hb := X.2.1
  have hown := X.2.2.2.1
  have hts := X.2.2.2.2.1
  have h : ((gR σ (some x0) 9 0).bind (fun v1 => (aI σ v1 x1).bind (fun v2 => some v2))) = some r := h
  refine c_aload_n hx hb dX9_seenAt_80 rfl (lv_at hl 0 rfl) ?_
  obtain ⟨v1, hv1, h⟩ := ob h
  refine c_gR X hP hv1 (Nat.le_of_ble_eq_true rfl) (Nat.le_of_ble_eq_true rfl) rfl w_93 dX9_seenAt_81 ?_
  refine lv_iload_n hx hb dX9_seenAt_84 rfl (lv_at hl 1 rfl) ?_
  obtain ⟨v2, hv2, h⟩ := ob h
  refine c_ald X hP hv2 dX9_seenAt_85 ?_
  obtain rfl := sj h
  exact c_ri X dX9_seenAt_86
set_option maxRecDepth 20000 in
set_option maxHeartbeats 4000000 in
theorem N_X9_seenAt_65 {p : Program} {l : Launch} {e : Env} {s : State} {m : MethodId} {args : Array Value} {below : List Frame} {meth : Method} {c : Code} {D : cD} {Φ : cG} {x0 : Nat}   {x1 : Int32} {x2 : Int32} {x3 : Option Nat} {σ : cS} {ls : Array Slot} {r : Int32} (X : cX p s m args meth c cX9_seenAt 5 (some .int) RX9 D Φ) (hP : cP D Φ σ s.heap) (hS : va_S (cReg Φ) s.heap s.heap [])  (hl : lv_has ls 5 [(0, cv Φ (some x0)), (1, .int x1), (2, .int x2), (3, cv Φ x3)]) (h : f_X9_seenAt_65  x0 x1 x2 x3 σ = some r) : cWr p l e 1 32 s m args below meth c (some (.int r)) (F0 m 65 ls []) := by
  have hx := X.1
  have hb := X.2.1
  have hown := X.2.2.2.1
  have hts := X.2.2.2.2.1
  have h : (if x3 = none then (f_X9_seenAt_80 x0 (x1) σ) else ((gI σ (some x0) 9 3).bind (fun v1 => if ((v1 >>> (x1 &&& 31)) &&& (1:Int32)) = (0:Int32) then ((gI σ (some x0) 9 8).bind (fun v2 => (gR σ (some x0) 9 0).bind (fun v3 => (aI σ v3 x1).bind (fun v4 => (rc σ x3 0).bind (fun v5 => (f_X0_shownAt v5 (x1) ((x2 - v2)) (v4) σ).bind (fun v6 => some v6)))))) else (f_X9_seenAt_80 x0 (x1) σ)))) = some r := h
  refine c_aload_n hx hb dX9_seenAt_65 rfl (lv_at hl 3 rfl) ?_
  refine c_ifnull (Φ := Φ) (tgt := 80) hx hb dX9_seenAt_66 rfl (fun hc => ?_) (fun hc => ?_)
  · have h := ip hc h
    exact N_X9_seenAt_80 X hP hS (lv_sub hl [0, 1] rfl) h
  · have h := ine hc h
    refine c_aload_n hx hb dX9_seenAt_69 rfl (lv_at hl 0 rfl) ?_
    obtain ⟨v1, hv1, h⟩ := ob h
    refine c_gI X hP hv1 (Nat.le_of_ble_eq_true rfl) (Nat.le_of_ble_eq_true rfl) rfl w_100 dX9_seenAt_70 ?_
    refine lv_iload_n hx hb dX9_seenAt_73 rfl (lv_at hl 1 rfl) ?_
    refine lv_ishr hx hb dX9_seenAt_74 ?_
    refine lv_iconst (v := (1:Int32)) hx hb dX9_seenAt_75 (by decide) ?_
    refine lv_iand hx hb dX9_seenAt_76 ?_
    refine lv_if_eq (tgt := 87) hx hb dX9_seenAt_77 rfl (fun hc => ?_) (fun hc => ?_)
    · have h := ip hc h
      refine c_aload_n hx hb dX9_seenAt_87 rfl (lv_at hl 3 rfl) ?_
      refine lv_iload_n hx hb dX9_seenAt_88 rfl (lv_at hl 1 rfl) ?_
      refine lv_iload_n hx hb dX9_seenAt_89 rfl (lv_at hl 2 rfl) ?_
      refine c_aload_n hx hb dX9_seenAt_90 rfl (lv_at hl 0 rfl) ?_
      obtain ⟨v2, hv2, h⟩ := ob h
      refine c_gI X hP hv2 (Nat.le_of_ble_eq_true rfl) (Nat.le_of_ble_eq_true rfl) rfl w_106 dX9_seenAt_91 ?_
      refine lv_isub hx hb dX9_seenAt_94 ?_
      refine c_aload_n hx hb dX9_seenAt_95 rfl (lv_at hl 0 rfl) ?_
      obtain ⟨v3, hv3, h⟩ := ob h
      refine c_gR X hP hv3 (Nat.le_of_ble_eq_true rfl) (Nat.le_of_ble_eq_true rfl) rfl w_93 dX9_seenAt_96 ?_
      refine lv_iload_n hx hb dX9_seenAt_99 rfl (lv_at hl 1 rfl) ?_
      obtain ⟨v4, hv4, h⟩ := ob h
      refine c_ald X hP hv4 dX9_seenAt_100 ?_
      obtain ⟨v5, hv5, h⟩ := ob h
      obtain ⟨v6, hv6, h⟩ := ob h
      refine c_cr (c_runV X (K_X0_shownAt l D Φ σ v5 (x1) ((x2 - v2)) (v4) hv6) hv5 ⟨Nat.le_of_ble_eq_true rfl, by decide⟩ ⟨w_1067, ww_X0_shownAt⟩ rfl hy_X0_shownAt rfl ⟨(Nat.le_of_ble_eq_true rfl), (Nat.le_of_ble_eq_true rfl)⟩ hP hS hl.1 (Nat.le_of_ble_eq_true rfl) dX9_seenAt_101 rfl ⟨(Nat.le_of_ble_eq_true rfl), (Nat.le_of_ble_eq_true rfl)⟩) ?_
      obtain rfl := sj h
      exact c_ri X dX9_seenAt_104
    · have h := ine hc h
      exact N_X9_seenAt_80 X hP hS (lv_sub hl [0, 1] rfl) h
set_option maxRecDepth 20000 in
set_option maxHeartbeats 4000000 in
theorem K_X9_seenAt (l : Launch) (D : cD) (Φ : cG) (σ : cS) (x0 : Nat) (x1 : Int32) (x2 : Int32) (x3 : Option Nat) {r : Int32} (h : f_X9_seenAt x0 x1 x2 x3 σ = some r) : Met l yX9_seenAt (Cond.code yX9_seenAt cX9_seenAt 5 (some .int) :: BG) (rA 1 0 0 32) (cPc D Φ σ [cv Φ (some x0), .int x1, .int x2, cv Φ x3]) (cQr (some (.int r))) 0 0 (fun _ => False) := by
  refine Met.ofW (cc := cX9_seenAt) (maxL := 5) (ret := (some .int)) (by decide) rfl ?_
  intro p e s m args below meth c s₁ B hml hv
  obtain ⟨rfl, hP, hK, hZ⟩ := hv
  have X : cX p s m [cv Φ (some x0), .int x1, .int x2, cv Φ x3].toArray meth c cX9_seenAt 5 (some .int) RX9 D Φ := cX_of B hml hK hZ
  have hx := X.1
  have hb := X.2.1
  have hown := X.2.2.2.1
  have hts := X.2.2.2.2.1
  have hl := lv_entry [cv Φ (some x0), .int x1, .int x2, cv Φ x3] (n := 5) (by simp only [lgs_r, lgs_i, lgs_l, lgs_0, List.length]; exact Nat.le_of_ble_eq_true rfl)
  rw [lg_entry_eq]
  generalize (lg_sl [cv Φ (some x0), .int x1, .int x2, cv Φ x3] ++ List.replicate (5 - (lg_sl [cv Φ (some x0), .int x1, .int x2, cv Φ x3]).length) Slot.unset).toArray = ls at hl ⊢
  simp only [lv_args_r, lv_args_i, lv_args_l, lv_args_0] at hl
  have hl : lv_has ls 5 [(0, cv Φ (some x0)), (1, .int x1), (2, .int x2), (3, cv Φ x3)] := hl
  have hS : va_S (cReg Φ) s.heap s.heap [] := va_S.rf
  show cWr p l e 1 32 s m [cv Φ (some x0), .int x1, .int x2, cv Φ x3].toArray below meth c (some (.int r)) (F0 m 0 ls [])
  have h : ((gR σ (some x0) 9 6).bind (fun v1 => (aI σ v1 x1).bind (fun v2 => (gR σ (some x0) 9 7).bind (fun v3 => (aI σ v3 x1).bind (fun v4 => if v4 ≤ (0:Int32) then (f_X9_seenAt_65 x0 (x1) (x2) (x3) σ) else ((gR σ (some x0) 9 7).bind (fun v5 => (aI σ v5 x1).bind (fun v6 => if v6 ≤ (x2 - v2) then (f_X9_seenAt_65 x0 (x1) (x2) (x3) σ) else ((gR σ (some x0) 9 5).bind (fun v7 => (aI σ v7 x1).bind (fun v8 => (gR σ (some x0) 9 0).bind (fun v9 => (aI σ v9 x1).bind (fun v10 => (gR σ (some x0) 9 5).bind (fun v11 => (aI σ v11 x1).bind (fun v12 => (gR σ (some x0) 9 7).bind (fun v13 => (aI σ v13 x1).bind (fun v14 => (ldv (((v10 - v12)).toInt64 * ((x2 - v2)).toInt64) (v14).toInt64).bind (fun v15 => some (v8 + (v15).toInt32))))))))))))))))))) = some r := h
  refine lv_iload_n hx hb dX9_seenAt_0 rfl (lv_at hl 2 rfl) ?_
  refine c_aload_n hx hb dX9_seenAt_1 rfl (lv_at hl 0 rfl) ?_
  obtain ⟨v1, hv1, h⟩ := ob h
  refine c_gR X hP hv1 (Nat.le_of_ble_eq_true rfl) (Nat.le_of_ble_eq_true rfl) rfl w_104 dX9_seenAt_2 ?_
  refine lv_iload_n hx hb dX9_seenAt_5 rfl (lv_at hl 1 rfl) ?_
  obtain ⟨v2, hv2, h⟩ := ob h
  refine c_ald X hP hv2 dX9_seenAt_6 ?_
  refine lv_isub hx hb dX9_seenAt_7 ?_
  refine c_istore hx hb dX9_seenAt_8 hl (Nat.le_of_ble_eq_true rfl) (lvKa rfl (lvKa rfl (lvKa rfl (lvKr lvK0)))) rfl (fun ls (hl : lv_has ls 5 [(4, .int (x2 - v2)), (0, cv Φ (some x0)), (1, .int x1), (2, .int x2), (3, cv Φ x3)]) => ?_)
  refine c_aload_n hx hb dX9_seenAt_10 rfl (lv_at hl 1 rfl) ?_
  obtain ⟨v3, hv3, h⟩ := ob h
  refine c_gR X hP hv3 (Nat.le_of_ble_eq_true rfl) (Nat.le_of_ble_eq_true rfl) rfl w_105 dX9_seenAt_11 ?_
  refine lv_iload_n hx hb dX9_seenAt_14 rfl (lv_at hl 2 rfl) ?_
  obtain ⟨v4, hv4, h⟩ := ob h
  refine c_ald X hP hv4 dX9_seenAt_15 ?_
  refine lv_if_le (tgt := 65) hx hb dX9_seenAt_16 rfl (fun hc => ?_) (fun hc => ?_)
  · have h := ip hc h
    exact N_X9_seenAt_65 X hP hS (lv_sub hl [1, 2, 3, 4] rfl) h
  · have h := ine hc h
    refine lv_iload hx hb dX9_seenAt_19 (lv_at hl 0 rfl) ?_
    refine c_aload_n hx hb dX9_seenAt_21 rfl (lv_at hl 1 rfl) ?_
    obtain ⟨v5, hv5, h⟩ := ob h
    refine c_gR X hP hv5 (Nat.le_of_ble_eq_true rfl) (Nat.le_of_ble_eq_true rfl) rfl w_105 dX9_seenAt_22 ?_
    refine lv_iload_n hx hb dX9_seenAt_25 rfl (lv_at hl 2 rfl) ?_
    obtain ⟨v6, hv6, h⟩ := ob h
    refine c_ald X hP hv6 dX9_seenAt_26 ?_
    refine lv_icmp_ge (tgt := 65) hx hb dX9_seenAt_27 rfl (fun hc => ?_) (fun hc => ?_)
    · have h := ip hc h
      exact N_X9_seenAt_65 X hP hS (lv_sub hl [1, 2, 3, 4] rfl) h
    · have h := ine hc h
      refine c_aload_n hx hb dX9_seenAt_30 rfl (lv_at hl 1 rfl) ?_
      obtain ⟨v7, hv7, h⟩ := ob h
      refine c_gR X hP hv7 (Nat.le_of_ble_eq_true rfl) (Nat.le_of_ble_eq_true rfl) rfl w_103 dX9_seenAt_31 ?_
      refine lv_iload_n hx hb dX9_seenAt_34 rfl (lv_at hl 2 rfl) ?_
      obtain ⟨v8, hv8, h⟩ := ob h
      refine c_ald X hP hv8 dX9_seenAt_35 ?_
      refine c_aload_n hx hb dX9_seenAt_36 rfl (lv_at hl 1 rfl) ?_
      obtain ⟨v9, hv9, h⟩ := ob h
      refine c_gR X hP hv9 (Nat.le_of_ble_eq_true rfl) (Nat.le_of_ble_eq_true rfl) rfl w_93 dX9_seenAt_37 ?_
      refine lv_iload_n hx hb dX9_seenAt_40 rfl (lv_at hl 2 rfl) ?_
      obtain ⟨v10, hv10, h⟩ := ob h
      refine c_ald X hP hv10 dX9_seenAt_41 ?_
      refine c_aload_n hx hb dX9_seenAt_42 rfl (lv_at hl 1 rfl) ?_
      obtain ⟨v11, hv11, h⟩ := ob h
      refine c_gR X hP hv11 (Nat.le_of_ble_eq_true rfl) (Nat.le_of_ble_eq_true rfl) rfl w_103 dX9_seenAt_43 ?_
      refine lv_iload_n hx hb dX9_seenAt_46 rfl (lv_at hl 2 rfl) ?_
      obtain ⟨v12, hv12, h⟩ := ob h
      refine c_ald X hP hv12 dX9_seenAt_47 ?_
      refine lv_isub hx hb dX9_seenAt_48 ?_
      refine lv_i2l hx hb dX9_seenAt_49 rfl ?_
      refine lv_iload hx hb dX9_seenAt_50 (lv_at hl 0 rfl) ?_
      refine lv_i2l hx hb dX9_seenAt_52 rfl ?_
      refine lv_lmul hx hb dX9_seenAt_53 ?_
      refine c_aload_n hx hb dX9_seenAt_54 rfl (lv_at hl 1 rfl) ?_
      obtain ⟨v13, hv13, h⟩ := ob h
      refine c_gR X hP hv13 (Nat.le_of_ble_eq_true rfl) (Nat.le_of_ble_eq_true rfl) rfl w_105 dX9_seenAt_55 ?_
      refine lv_iload_n hx hb dX9_seenAt_58 rfl (lv_at hl 2 rfl) ?_
      obtain ⟨v14, hv14, h⟩ := ob h
      refine c_ald X hP hv14 dX9_seenAt_59 ?_
      refine lv_i2l hx hb dX9_seenAt_60 rfl ?_
      obtain ⟨v15, hv15, h⟩ := ob h
      obtain ⟨hnv15, hev15⟩ := ldv_spec hv15
      refine lv_ldiv hx hb dX9_seenAt_61 hnv15 ?_
      rw [hev15]
      refine lv_l2i hx hb dX9_seenAt_62 rfl ?_
      refine lv_iadd hx hb dX9_seenAt_63 ?_
      obtain rfl := sj h
      exact c_ri X dX9_seenAt_64
theorem ww_X9_seenAt : Cond.instanceMethod yX9_seenAt ∈ BG ∧ Cond.selects (yX9_seenAt).cls yX9_seenAt yX9_seenAt ∈ BG ∧ Cond.initialized (yX9_seenAt).cls ∈ BG ∧ Cond.code yX9_seenAt cX9_seenAt 5 (some .int) ∈ BG := ⟨w_1064, w_1065, w_57, w_1066⟩
theorem hy_X9_seenAt : (yX9_seenAt).cls ≠ "java/lang/invoke/MethodHandle" ∧ (yX9_seenAt).cls ≠ "java/lang/invoke/VarHandle" ∧ (parseMethodDescriptor (yX9_seenAt).desc).map (fun d => d.parameters.length) = some 3 := ⟨by decide, by decide, by decide +kernel⟩
def f_X9_turnTo_21  (x0 : Nat) (x1 : Int32) (σ : cS) : Option (cS) := (gR σ (some x0) 9 7).bind (fun v1 => (sI σ v1 x1 (0:Int32)).bind (fun v2 => some v2))
def f_X9_turnTo_125  (x0 : Nat) (x1 : Int32) (x4 : Int32) (x6 : Int32) (x8 : Int32) (σ : cS) : Option (cS) := (gR σ (some x0) 9 5).bind (fun v1 => (sI σ v1 x1 x6).bind (fun v2 => (gR v2 (some x0) 9 6).bind (fun v3 => (sI v2 v3 x1 x4).bind (fun v4 => (gR v4 (some x0) 9 7).bind (fun v5 => (sI v4 v5 x1 x8).bind (fun v6 => some v6))))))
def f_X9_turnTo_123  (x0 : Nat) (x1 : Int32) (x4 : Int32) (x6 : Int32) (y0 : Int32) (σ : cS) : Option (cS) := f_X9_turnTo_125 x0 (x1) (x4) (x6) (y0) σ
def f_X9_turnTo (x0 : Nat) (x1 : Int32) (x2 : Int32) (x3 : Int32) (x4 : Int32) (x5 : Option Nat) (σ : cS) : Option (cS) := (gR σ (some x0) 9 0).bind (fun v1 => (aI σ v1 x1).bind (fun v2 => if v2 = ((-1000000):Int32) then (f_X9_turnTo_21 x0 (x1) σ) else (if x2 = ((-1000000):Int32) then (f_X9_turnTo_21 x0 (x1) σ) else (if (0:Int32) < x3 then ((rc σ (some x0) 9).bind (fun v3 => (f_X9_seenAt v3 (x1) (x4) (x5) σ).bind (fun v4 => (gR σ (some x0) 9 6).bind (fun v5 => (aI σ v5 x1).bind (fun v6 => (gR σ (some x0) 9 7).bind (fun v7 => (aI σ v7 x1).bind (fun v8 => if v8 ≤ (0:Int32) then (f_X9_turnTo_125 x0 (x1) (x4) (v4) (x3) σ) else ((gR σ (some x0) 9 7).bind (fun v9 => (aI σ v9 x1).bind (fun v10 => if v10 ≤ (x4 - v6) then (f_X9_turnTo_125 x0 (x1) (x4) (v4) (x3) σ) else ((gR σ (some x0) 9 5).bind (fun v11 => (aI σ v11 x1).bind (fun v12 => if x2 = v12 then ((gR σ (some x0) 9 7).bind (fun v13 => (aI σ v13 x1).bind (fun v14 => (gR σ (some x0) 9 7).bind (fun v15 => (aI σ v15 x1).bind (fun v16 => (ldv ((((x3).toInt64 * ((x4 - v6)).toInt64) + (v14).toInt64) - (1:Int64)) (v16).toInt64).bind (fun v17 => if (1:Int32) ≤ (v17).toInt32 then (f_X9_turnTo_123 x0 (x1) (x4) (v4) ((v17).toInt32) σ) else (f_X9_turnTo_123 x0 (x1) (x4) (v4) ((1:Int32)) σ))))))) else (f_X9_turnTo_125 x0 (x1) (x4) (v4) (x3) σ)))))))))))))) else (f_X9_turnTo_21 x0 (x1) σ)))))
set_option maxRecDepth 20000 in
set_option maxHeartbeats 4000000 in
theorem N_X9_turnTo_21 {p : Program} {l : Launch} {e : Env} {s : State} {m : MethodId} {args : Array Value} {below : List Frame} {meth : Method} {c : Code} {D : cD} {Φ : cG} {x0 : Nat}   {x1 : Int32} {σ : cS} {H : Heap} {locs : List Loc} {ls : Array Slot} {q : cS} (X : cX p s m args meth c cX9_turnTo 10 none RX9 D Φ) (hP : cP D Φ σ H) (hS : va_S (cReg Φ) s.heap H locs)  (hl : lv_has ls 10 [(0, cv Φ (some x0)), (1, .int x1)]) (h : f_X9_turnTo_21  x0 x1 σ = some q) : cWw p l e 2 0 0 56 s m args below meth c D Φ q none H locs 0 0 (F0 m 21 ls []) := by
  have hx := X.1
  have hb := X.2.1
  have hown := X.2.2.2.1
  have hts := X.2.2.2.2.1
  have h : ((gR σ (some x0) 9 7).bind (fun v1 => (sI σ v1 x1 (0:Int32)).bind (fun v2 => some v2))) = some q := h
  refine c_aload_n hx hb dX9_turnTo_21 rfl (lv_at hl 0 rfl) ?_
  obtain ⟨v1, hv1, h⟩ := ob h
  refine c_gR X hP hv1 (Nat.le_of_ble_eq_true rfl) (Nat.le_of_ble_eq_true rfl) rfl w_105 dX9_turnTo_22 ?_
  refine lv_iload_n hx hb dX9_turnTo_25 rfl (lv_at hl 1 rfl) ?_
  refine lv_iconst (v := (0:Int32)) hx hb dX9_turnTo_26 (by decide) ?_
  obtain ⟨v2, hv2, h⟩ := ob h
  refine c_ast X hP hS hv2 dX9_turnTo_27 (fun H locs hP hS => ?_)
  obtain rfl := sj h
  exact c_wv X hP hS (Nat.le_of_ble_eq_true rfl) (Nat.le_of_ble_eq_true rfl) dX9_turnTo_28
set_option maxRecDepth 20000 in
set_option maxHeartbeats 4000000 in
theorem N_X9_turnTo_125 {p : Program} {l : Launch} {e : Env} {s : State} {m : MethodId} {args : Array Value} {below : List Frame} {meth : Method} {c : Code} {D : cD} {Φ : cG} {x0 : Nat}   {x1 : Int32} {x4 : Int32} {x6 : Int32} {x8 : Int32} {σ : cS} {H : Heap} {locs : List Loc} {ls : Array Slot} {q : cS} (X : cX p s m args meth c cX9_turnTo 10 none RX9 D Φ) (hP : cP D Φ σ H) (hS : va_S (cReg Φ) s.heap H locs)  (hl : lv_has ls 10 [(0, cv Φ (some x0)), (1, .int x1), (4, .int x4), (6, .int x6), (8, .int x8)]) (h : f_X9_turnTo_125  x0 x1 x4 x6 x8 σ = some q) : cWw p l e 2 0 0 56 s m args below meth c D Φ q none H locs 0 0 (F0 m 125 ls []) := by
  have hx := X.1
  have hb := X.2.1
  have hown := X.2.2.2.1
  have hts := X.2.2.2.2.1
  have h : ((gR σ (some x0) 9 5).bind (fun v1 => (sI σ v1 x1 x6).bind (fun v2 => (gR v2 (some x0) 9 6).bind (fun v3 => (sI v2 v3 x1 x4).bind (fun v4 => (gR v4 (some x0) 9 7).bind (fun v5 => (sI v4 v5 x1 x8).bind (fun v6 => some v6))))))) = some q := h
  refine c_aload_n hx hb dX9_turnTo_125 rfl (lv_at hl 0 rfl) ?_
  obtain ⟨v1, hv1, h⟩ := ob h
  refine c_gR X hP hv1 (Nat.le_of_ble_eq_true rfl) (Nat.le_of_ble_eq_true rfl) rfl w_103 dX9_turnTo_126 ?_
  refine lv_iload_n hx hb dX9_turnTo_129 rfl (lv_at hl 1 rfl) ?_
  refine lv_iload hx hb dX9_turnTo_130 (lv_at hl 3 rfl) ?_
  obtain ⟨v2, hv2, h⟩ := ob h
  refine c_ast X hP hS hv2 dX9_turnTo_132 (fun H locs hP hS => ?_)
  refine c_aload_n hx hb dX9_turnTo_133 rfl (lv_at hl 0 rfl) ?_
  obtain ⟨v3, hv3, h⟩ := ob h
  refine c_gR X hP hv3 (Nat.le_of_ble_eq_true rfl) (Nat.le_of_ble_eq_true rfl) rfl w_104 dX9_turnTo_134 ?_
  refine lv_iload_n hx hb dX9_turnTo_137 rfl (lv_at hl 1 rfl) ?_
  refine lv_iload hx hb dX9_turnTo_138 (lv_at hl 2 rfl) ?_
  obtain ⟨v4, hv4, h⟩ := ob h
  refine c_ast X hP hS hv4 dX9_turnTo_140 (fun H locs hP hS => ?_)
  refine c_aload_n hx hb dX9_turnTo_141 rfl (lv_at hl 0 rfl) ?_
  obtain ⟨v5, hv5, h⟩ := ob h
  refine c_gR X hP hv5 (Nat.le_of_ble_eq_true rfl) (Nat.le_of_ble_eq_true rfl) rfl w_105 dX9_turnTo_142 ?_
  refine lv_iload_n hx hb dX9_turnTo_145 rfl (lv_at hl 1 rfl) ?_
  refine lv_iload hx hb dX9_turnTo_146 (lv_at hl 4 rfl) ?_
  obtain ⟨v6, hv6, h⟩ := ob h
  refine c_ast X hP hS hv6 dX9_turnTo_148 (fun H locs hP hS => ?_)
  obtain rfl := sj h
  exact c_wv X hP hS (Nat.le_of_ble_eq_true rfl) (Nat.le_of_ble_eq_true rfl) dX9_turnTo_149
set_option maxRecDepth 20000 in
set_option maxHeartbeats 4000000 in
theorem N_X9_turnTo_123 {p : Program} {l : Launch} {e : Env} {s : State} {m : MethodId} {args : Array Value} {below : List Frame} {meth : Method} {c : Code} {D : cD} {Φ : cG} {x0 : Nat}   {x1 : Int32} {x4 : Int32} {x6 : Int32} {y0 : Int32} {σ : cS} {H : Heap} {locs : List Loc} {ls : Array Slot} {q : cS} (X : cX p s m args meth c cX9_turnTo 10 none RX9 D Φ) (hP : cP D Φ σ H) (hS : va_S (cReg Φ) s.heap H locs)  (hl : lv_has ls 10 [(0, cv Φ (some x0)), (1, .int x1), (4, .int x4), (6, .int x6)]) (h : f_X9_turnTo_123  x0 x1 x4 x6 y0 σ = some q) : cWw p l e 2 0 0 56 s m args below meth c D Φ q none H locs 0 0 (F0 m 123 ls [.int y0]) := by
  have hx := X.1
  have hb := X.2.1
  have hown := X.2.2.2.1
  have hts := X.2.2.2.2.1
  have h : (f_X9_turnTo_125 x0 (x1) (x4) (x6) (y0) σ) = some q := h
  refine c_istore hx hb dX9_turnTo_123 hl (Nat.le_of_ble_eq_true rfl) (lvKa rfl (lvKa rfl (lvKa rfl (lvKa rfl lvK0)))) rfl (fun ls (hl : lv_has ls 10 [(8, .int y0), (0, cv Φ (some x0)), (1, .int x1), (4, .int x4), (6, .int x6)]) => ?_)
  exact N_X9_turnTo_125 X hP hS (lv_sub hl [1, 2, 3, 4, 0] rfl) h
set_option maxRecDepth 20000 in
set_option maxHeartbeats 4000000 in
theorem K_X9_turnTo (l : Launch) (D : cD) (Φ : cG) (σ : cS) (x0 : Nat) (x1 : Int32) (x2 : Int32) (x3 : Int32) (x4 : Int32) (x5 : Option Nat) {q : cS} (h : f_X9_turnTo x0 x1 x2 x3 x4 x5 σ = some q) : Met l yX9_turnTo (Cond.code yX9_turnTo cX9_turnTo 10 none :: BG) (rA 2 0 0 56) (cPc D Φ σ [cv Φ (some x0), .int x1, .int x2, .int x3, .int x4, cv Φ x5]) (cQw D Φ q none) 0 0 (cReg Φ) := by
  refine Met.ofW (cc := cX9_turnTo) (maxL := 10) (ret := none) (by decide) rfl ?_
  intro p e s m args below meth c s₁ B hml hv
  obtain ⟨rfl, hP, hK, hZ⟩ := hv
  have X : cX p s m [cv Φ (some x0), .int x1, .int x2, .int x3, .int x4, cv Φ x5].toArray meth c cX9_turnTo 10 none RX9 D Φ := cX_of B hml hK hZ
  have hx := X.1
  have hb := X.2.1
  have hown := X.2.2.2.1
  have hts := X.2.2.2.2.1
  have hl := lv_entry [cv Φ (some x0), .int x1, .int x2, .int x3, .int x4, cv Φ x5] (n := 10) (by simp only [lgs_r, lgs_i, lgs_l, lgs_0, List.length]; exact Nat.le_of_ble_eq_true rfl)
  rw [lg_entry_eq]
  generalize (lg_sl [cv Φ (some x0), .int x1, .int x2, .int x3, .int x4, cv Φ x5] ++ List.replicate (10 - (lg_sl [cv Φ (some x0), .int x1, .int x2, .int x3, .int x4, cv Φ x5]).length) Slot.unset).toArray = ls at hl ⊢
  simp only [lv_args_r, lv_args_i, lv_args_l, lv_args_0] at hl
  have hl : lv_has ls 10 [(0, cv Φ (some x0)), (1, .int x1), (2, .int x2), (3, .int x3), (4, .int x4), (5, cv Φ x5)] := hl
  have hS : va_S (cReg Φ) s.heap s.heap [] := va_S.rf
  show cWw p l e 2 0 0 56 s m [cv Φ (some x0), .int x1, .int x2, .int x3, .int x4, cv Φ x5].toArray below meth c D Φ q none s.heap [] 0 0 (F0 m 0 ls [])
  have h : ((gR σ (some x0) 9 0).bind (fun v1 => (aI σ v1 x1).bind (fun v2 => if v2 = ((-1000000):Int32) then (f_X9_turnTo_21 x0 (x1) σ) else (if x2 = ((-1000000):Int32) then (f_X9_turnTo_21 x0 (x1) σ) else (if (0:Int32) < x3 then ((rc σ (some x0) 9).bind (fun v3 => (f_X9_seenAt v3 (x1) (x4) (x5) σ).bind (fun v4 => (gR σ (some x0) 9 6).bind (fun v5 => (aI σ v5 x1).bind (fun v6 => (gR σ (some x0) 9 7).bind (fun v7 => (aI σ v7 x1).bind (fun v8 => if v8 ≤ (0:Int32) then (f_X9_turnTo_125 x0 (x1) (x4) (v4) (x3) σ) else ((gR σ (some x0) 9 7).bind (fun v9 => (aI σ v9 x1).bind (fun v10 => if v10 ≤ (x4 - v6) then (f_X9_turnTo_125 x0 (x1) (x4) (v4) (x3) σ) else ((gR σ (some x0) 9 5).bind (fun v11 => (aI σ v11 x1).bind (fun v12 => if x2 = v12 then ((gR σ (some x0) 9 7).bind (fun v13 => (aI σ v13 x1).bind (fun v14 => (gR σ (some x0) 9 7).bind (fun v15 => (aI σ v15 x1).bind (fun v16 => (ldv ((((x3).toInt64 * ((x4 - v6)).toInt64) + (v14).toInt64) - (1:Int64)) (v16).toInt64).bind (fun v17 => if (1:Int32) ≤ (v17).toInt32 then (f_X9_turnTo_123 x0 (x1) (x4) (v4) ((v17).toInt32) σ) else (f_X9_turnTo_123 x0 (x1) (x4) (v4) ((1:Int32)) σ))))))) else (f_X9_turnTo_125 x0 (x1) (x4) (v4) (x3) σ)))))))))))))) else (f_X9_turnTo_21 x0 (x1) σ)))))) = some q := h
  refine c_aload_n hx hb dX9_turnTo_0 rfl (lv_at hl 0 rfl) ?_
  obtain ⟨v1, hv1, h⟩ := ob h
  refine c_gR X hP hv1 (Nat.le_of_ble_eq_true rfl) (Nat.le_of_ble_eq_true rfl) rfl w_93 dX9_turnTo_1 ?_
  refine lv_iload_n hx hb dX9_turnTo_4 rfl (lv_at hl 1 rfl) ?_
  obtain ⟨v2, hv2, h⟩ := ob h
  refine c_ald X hP hv2 dX9_turnTo_5 ?_
  refine lv_ldc hx hb hown (hts _ w_1036) dX9_turnTo_6 ?_
  refine lv_icmp_eq (tgt := 21) hx hb dX9_turnTo_8 rfl (fun hc => ?_) (fun hc => ?_)
  · have h := ip hc h
    exact N_X9_turnTo_21 X hP hS (lv_sub hl [0, 1] rfl) h
  · have h := ine hc h
    refine lv_iload_n hx hb dX9_turnTo_11 rfl (lv_at hl 2 rfl) ?_
    refine lv_ldc hx hb hown (hts _ w_1036) dX9_turnTo_12 ?_
    refine lv_icmp_eq (tgt := 21) hx hb dX9_turnTo_14 rfl (fun hc => ?_) (fun hc => ?_)
    · have h := ip hc h
      exact N_X9_turnTo_21 X hP hS (lv_sub hl [0, 1] rfl) h
    · have h := ine hc h
      refine lv_iload_n hx hb dX9_turnTo_17 rfl (lv_at hl 3 rfl) ?_
      refine lv_if_gt (tgt := 29) hx hb dX9_turnTo_18 rfl (fun hc => ?_) (fun hc => ?_)
      · have h := ip hc h
        refine c_aload_n hx hb dX9_turnTo_29 rfl (lv_at hl 0 rfl) ?_
        refine lv_iload_n hx hb dX9_turnTo_30 rfl (lv_at hl 1 rfl) ?_
        refine lv_iload hx hb dX9_turnTo_31 (lv_at hl 4 rfl) ?_
        refine c_aload hx hb dX9_turnTo_33 (lv_at hl 5 rfl) ?_
        obtain ⟨v3, hv3, h⟩ := ob h
        obtain ⟨v4, hv4, h⟩ := ob h
        refine c_cr (c_runV X (K_X9_seenAt l D Φ σ v3 (x1) (x4) (x5) hv4) hv3 ⟨Nat.le_of_ble_eq_true rfl, by decide⟩ ⟨w_1063, ww_X9_seenAt⟩ rfl hy_X9_seenAt rfl ⟨(Nat.le_of_ble_eq_true rfl), (Nat.le_of_ble_eq_true rfl)⟩ hP hS hl.1 (Nat.le_of_ble_eq_true rfl) dX9_turnTo_35 rfl ⟨(Nat.le_of_ble_eq_true rfl), (Nat.le_of_ble_eq_true rfl)⟩) ?_
        refine c_istore hx hb dX9_turnTo_38 hl (Nat.le_of_ble_eq_true rfl) (lvKa rfl (lvKa rfl (lvKa rfl (lvKa rfl (lvKa rfl (lvKr lvK0)))))) rfl (fun ls (hl : lv_has ls 10 [(6, .int v4), (0, cv Φ (some x0)), (1, .int x1), (2, .int x2), (3, .int x3), (4, .int x4), (5, cv Φ x5)]) => ?_)
        refine lv_iload hx hb dX9_turnTo_40 (lv_at hl 5 rfl) ?_
        refine c_aload_n hx hb dX9_turnTo_42 rfl (lv_at hl 1 rfl) ?_
        obtain ⟨v5, hv5, h⟩ := ob h
        refine c_gR X hP hv5 (Nat.le_of_ble_eq_true rfl) (Nat.le_of_ble_eq_true rfl) rfl w_104 dX9_turnTo_43 ?_
        refine lv_iload_n hx hb dX9_turnTo_46 rfl (lv_at hl 2 rfl) ?_
        obtain ⟨v6, hv6, h⟩ := ob h
        refine c_ald X hP hv6 dX9_turnTo_47 ?_
        refine lv_isub hx hb dX9_turnTo_48 ?_
        refine c_istore hx hb dX9_turnTo_49 hl (Nat.le_of_ble_eq_true rfl) (lvKi (lvKa rfl (lvKa rfl (lvKa rfl (lvKa rfl (lvKa rfl (lvKa rfl lvK0))))))) rfl (fun ls (hl : lv_has ls 10 [(7, .int (x4 - v6)), (6, .int v4), (0, cv Φ (some x0)), (1, .int x1), (2, .int x2), (3, .int x3), (4, .int x4), (5, cv Φ x5)]) => ?_)
        refine lv_iload_n hx hb dX9_turnTo_51 rfl (lv_at hl 5 rfl) ?_
        refine c_istore hx hb dX9_turnTo_52 hl (Nat.le_of_ble_eq_true rfl) (lvKi (lvKa rfl (lvKa rfl (lvKa rfl (lvKa rfl (lvKa rfl (lvKa rfl (lvKa rfl lvK0)))))))) rfl (fun ls (hl : lv_has ls 10 [(8, .int x3), (7, .int (x4 - v6)), (6, .int v4), (0, cv Φ (some x0)), (1, .int x1), (2, .int x2), (3, .int x3), (4, .int x4), (5, cv Φ x5)]) => ?_)
        refine c_aload_n hx hb dX9_turnTo_54 rfl (lv_at hl 3 rfl) ?_
        obtain ⟨v7, hv7, h⟩ := ob h
        refine c_gR X hP hv7 (Nat.le_of_ble_eq_true rfl) (Nat.le_of_ble_eq_true rfl) rfl w_105 dX9_turnTo_55 ?_
        refine lv_iload_n hx hb dX9_turnTo_58 rfl (lv_at hl 4 rfl) ?_
        obtain ⟨v8, hv8, h⟩ := ob h
        refine c_ald X hP hv8 dX9_turnTo_59 ?_
        refine lv_if_le (tgt := 125) hx hb dX9_turnTo_60 rfl (fun hc => ?_) (fun hc => ?_)
        · have h := ip hc h
          exact N_X9_turnTo_125 X hP hS (lv_sub hl [3, 4, 7, 2, 0] rfl) h
        · have h := ine hc h
          refine lv_iload hx hb dX9_turnTo_63 (lv_at hl 1 rfl) ?_
          refine c_aload_n hx hb dX9_turnTo_65 rfl (lv_at hl 3 rfl) ?_
          obtain ⟨v9, hv9, h⟩ := ob h
          refine c_gR X hP hv9 (Nat.le_of_ble_eq_true rfl) (Nat.le_of_ble_eq_true rfl) rfl w_105 dX9_turnTo_66 ?_
          refine lv_iload_n hx hb dX9_turnTo_69 rfl (lv_at hl 4 rfl) ?_
          obtain ⟨v10, hv10, h⟩ := ob h
          refine c_ald X hP hv10 dX9_turnTo_70 ?_
          refine lv_icmp_ge (tgt := 125) hx hb dX9_turnTo_71 rfl (fun hc => ?_) (fun hc => ?_)
          · have h := ip hc h
            exact N_X9_turnTo_125 X hP hS (lv_sub hl [3, 4, 7, 2, 0] rfl) h
          · have h := ine hc h
            refine lv_iload_n hx hb dX9_turnTo_74 rfl (lv_at hl 5 rfl) ?_
            refine c_aload_n hx hb dX9_turnTo_75 rfl (lv_at hl 3 rfl) ?_
            obtain ⟨v11, hv11, h⟩ := ob h
            refine c_gR X hP hv11 (Nat.le_of_ble_eq_true rfl) (Nat.le_of_ble_eq_true rfl) rfl w_103 dX9_turnTo_76 ?_
            refine lv_iload_n hx hb dX9_turnTo_79 rfl (lv_at hl 4 rfl) ?_
            obtain ⟨v12, hv12, h⟩ := ob h
            refine c_ald X hP hv12 dX9_turnTo_80 ?_
            refine lv_icmp_ne (tgt := 125) hx hb dX9_turnTo_81 rfl (fun hc => ?_) (fun hc => ?_)
            · have h := ine hc h
              exact N_X9_turnTo_125 X hP hS (lv_sub hl [3, 4, 7, 2, 0] rfl) h
            · have h := ip hc h
              refine lv_iload_n hx hb dX9_turnTo_84 rfl (lv_at hl 6 rfl) ?_
              refine lv_i2l hx hb dX9_turnTo_85 rfl ?_
              refine lv_iload hx hb dX9_turnTo_86 (lv_at hl 1 rfl) ?_
              refine lv_i2l hx hb dX9_turnTo_88 rfl ?_
              refine lv_lmul hx hb dX9_turnTo_89 ?_
              refine c_aload_n hx hb dX9_turnTo_90 rfl (lv_at hl 3 rfl) ?_
              obtain ⟨v13, hv13, h⟩ := ob h
              refine c_gR X hP hv13 (Nat.le_of_ble_eq_true rfl) (Nat.le_of_ble_eq_true rfl) rfl w_105 dX9_turnTo_91 ?_
              refine lv_iload_n hx hb dX9_turnTo_94 rfl (lv_at hl 4 rfl) ?_
              obtain ⟨v14, hv14, h⟩ := ob h
              refine c_ald X hP hv14 dX9_turnTo_95 ?_
              refine lv_i2l hx hb dX9_turnTo_96 rfl ?_
              refine lv_ladd hx hb dX9_turnTo_97 ?_
              refine lv_lconst (v := (1:Int64)) hx hb dX9_turnTo_98 (by decide) ?_
              refine lv_lsub hx hb dX9_turnTo_99 ?_
              refine c_aload_n hx hb dX9_turnTo_100 rfl (lv_at hl 3 rfl) ?_
              obtain ⟨v15, hv15, h⟩ := ob h
              refine c_gR X hP hv15 (Nat.le_of_ble_eq_true rfl) (Nat.le_of_ble_eq_true rfl) rfl w_105 dX9_turnTo_101 ?_
              refine lv_iload_n hx hb dX9_turnTo_104 rfl (lv_at hl 4 rfl) ?_
              obtain ⟨v16, hv16, h⟩ := ob h
              refine c_ald X hP hv16 dX9_turnTo_105 ?_
              refine lv_i2l hx hb dX9_turnTo_106 rfl ?_
              obtain ⟨v17, hv17, h⟩ := ob h
              obtain ⟨hnv17, hev17⟩ := ldv_spec hv17
              refine lv_ldiv hx hb dX9_turnTo_107 hnv17 ?_
              rw [hev17]
              refine lv_l2i hx hb dX9_turnTo_108 rfl ?_
              refine c_istore hx hb dX9_turnTo_109 hl (Nat.le_of_ble_eq_true rfl) (lvKi (lvKa rfl (lvKa rfl (lvKa rfl (lvKa rfl (lvKa rfl (lvKa rfl (lvKa rfl (lvKa rfl lvK0))))))))) rfl (fun ls (hl : lv_has ls 10 [(9, .int (v17).toInt32), (8, .int x3), (7, .int (x4 - v6)), (6, .int v4), (0, cv Φ (some x0)), (1, .int x1), (2, .int x2), (3, .int x3), (4, .int x4), (5, cv Φ x5)]) => ?_)
              refine lv_iload hx hb dX9_turnTo_111 (lv_at hl 0 rfl) ?_
              refine lv_iconst (v := (1:Int32)) hx hb dX9_turnTo_113 (by decide) ?_
              refine lv_icmp_ge (tgt := 121) hx hb dX9_turnTo_114 rfl (fun hc => ?_) (fun hc => ?_)
              · have h := ip hc h
                refine lv_iload hx hb dX9_turnTo_121 (lv_at hl 0 rfl) ?_
                exact N_X9_turnTo_123 X hP hS (lv_sub hl [4, 5, 8, 3] rfl) h
              · have h := ine hc h
                refine lv_iconst (v := (1:Int32)) hx hb dX9_turnTo_117 (by decide) ?_
                refine lv_goto (tgt := 123) hx hb dX9_turnTo_118 rfl ?_
                exact N_X9_turnTo_123 X hP hS (lv_sub hl [4, 5, 8, 3] rfl) h
      · have h := ine hc h
        exact N_X9_turnTo_21 X hP hS (lv_sub hl [0, 1] rfl) h
theorem ww_X9_turnTo : Cond.instanceMethod yX9_turnTo ∈ BG ∧ Cond.selects (yX9_turnTo).cls yX9_turnTo yX9_turnTo ∈ BG ∧ Cond.initialized (yX9_turnTo).cls ∈ BG ∧ Cond.code yX9_turnTo cX9_turnTo 10 none ∈ BG := ⟨w_1061, w_41, w_57, w_1062⟩
theorem hy_X9_turnTo : (yX9_turnTo).cls ≠ "java/lang/invoke/MethodHandle" ∧ (yX9_turnTo).cls ≠ "java/lang/invoke/VarHandle" ∧ (parseMethodDescriptor (yX9_turnTo).desc).map (fun d => d.parameters.length) = some 5 := ⟨by decide, by decide, by decide +kernel⟩
def f_X9_adopt_134  (x0 : Nat) : Nat → Option Nat → Int32 → cS → Option (cS)
  | 0, _, _, _ => none
  | n + 1, x1, x4, σ => if (15:Int32) ≤ x4 then ((gI σ x1 9 3).bind (fun v1 => (pI σ (some x0) 9 3 v1).bind (fun v2 => (pZ v2 (some x0) 9 1 (1:Int32)).bind (fun v3 => some v3)))) else ((gR σ (some x0) 9 0).bind (fun v4 => (gR σ x1 9 0).bind (fun v5 => (aI σ v5 x4).bind (fun v6 => (sI σ v4 x4 v6).bind (fun v7 => f_X9_adopt_134 x0 n (x1) ((x4 + (1:Int32))) v7)))))
def f_X9_adopt_131  (x0 : Nat) (x1 : Option Nat) (σ : cS) : Option (cS) := f_X9_adopt_134 x0 4000 (x1) ((0:Int32)) σ
def f_X9_adopt_126  (x0 : Nat) (x1 : Option Nat) (x2 : Int32) (σ : cS) : Option (cS) := (pI σ (some x0) 9 8 x2).bind (fun v1 => f_X9_adopt_131 x0 (x1) v1)
def f_X9_adopt_96 (k56 : Option Nat → Int32 → Option Nat → Int32 → cS → Option (cS)) (x0 : Nat) (x1 : Option Nat) (x2 : Int32) (x3 : Option Nat) (x4 : Int32) (σ : cS) : Option (cS) := k56 (x1) (x2) (x3) ((x4 + (1:Int32))) σ
def f_X9_adopt_56  (x0 : Nat) : Nat → Option Nat → Int32 → Option Nat → Int32 → cS → Option (cS)
  | 0, _, _, _, _, _ => none
  | n + 1, x1, x2, x3, x4, σ => if (5:Int32) ≤ x4 then ((gI σ (some x0) 9 1).bind (fun v1 => if v1 = (0:Int32) then (f_X9_adopt_126 x0 (x1) (x2) σ) else ((gR σ (some x0) 9 0).bind (fun v2 => (aI σ v2 (11:Int32)).bind (fun v3 => (gR σ x1 9 0).bind (fun v4 => (aI σ v4 (11:Int32)).bind (fun v5 => if v3 = v5 then (f_X9_adopt_131 x0 (x1) σ) else (f_X9_adopt_126 x0 (x1) (x2) σ)))))))) else ((gI σ (some x0) 9 4).bind (fun v6 => if ((v6 >>> (x4 &&& 31)) &&& (1:Int32)) = (0:Int32) then (f_X9_adopt_96 (f_X9_adopt_56 x0 n) x0 (x1) (x2) (x3) (x4) σ) else ((gR σ x1 9 0).bind (fun v7 => (aI σ v7 x4).bind (fun v8 => (gR σ x1 9 0).bind (fun v9 => (aI σ v9 (10:Int32)).bind (fun v10 => (rc σ (some x0) 9).bind (fun v11 => (f_X9_turnTo v11 (x4) (v8) (v10) (x2) (x3) σ).bind (fun v12 => f_X9_adopt_96 (f_X9_adopt_56 x0 n) x0 (x1) (x2) (x3) (x4) v12)))))))))
def f_X9_adopt_47 (k3 : Option Nat → Int32 → Option Nat → Int32 → cS → Option (cS)) (x0 : Nat) (x1 : Option Nat) (x2 : Int32) (x3 : Option Nat) (x4 : Int32) (σ : cS) : Option (cS) := k3 (x1) (x2) (x3) ((x4 + (1:Int32))) σ
def f_X9_adopt_3  (x0 : Nat) : Nat → Option Nat → Int32 → Option Nat → Int32 → cS → Option (cS)
  | 0, _, _, _, _, _ => none
  | n + 1, x1, x2, x3, x4, σ => if (15:Int32) ≤ x4 then (f_X9_adopt_56 x0 4000 (x1) (x2) (x3) ((0:Int32)) σ) else ((gI σ (some x0) 9 1).bind (fun v1 => if v1 = (0:Int32) then (f_X9_adopt_47 (f_X9_adopt_3 x0 n) x0 (x1) (x2) (x3) (x4) σ) else ((gR σ (some x0) 9 0).bind (fun v2 => (aI σ v2 x4).bind (fun v3 => (gR σ x1 9 0).bind (fun v4 => (aI σ v4 x4).bind (fun v5 => if v3 = v5 then (f_X9_adopt_47 (f_X9_adopt_3 x0 n) x0 (x1) (x2) (x3) (x4) σ) else ((gI σ (some x0) 9 4).bind (fun v6 => (pI σ (some x0) 9 4 (v6 ||| ((1:Int32) <<< (x4 &&& 31)))).bind (fun v7 => f_X9_adopt_47 (f_X9_adopt_3 x0 n) x0 (x1) (x2) (x3) (x4) v7))))))))))
def f_X9_adopt (x0 : Nat) (x1 : Option Nat) (x2 : Int32) (x3 : Option Nat) (σ : cS) : Option (cS) := f_X9_adopt_3 x0 4000 (x1) (x2) (x3) ((0:Int32)) σ
set_option maxRecDepth 20000 in
set_option maxHeartbeats 4000000 in
theorem N_X9_adopt_134 {p : Program} {l : Launch} {e : Env} {s : State} {m : MethodId} {args : Array Value} {below : List Frame} {meth : Method} {c : Code} {D : cD} {Φ : cG} {x0 : Nat}  {n : Nat} {x1 : Option Nat} {x4 : Int32} {σ : cS} {H : Heap} {locs : List Loc} {ls : Array Slot} {q : cS} (X : cX p s m args meth c cX9_adopt 5 none RX9 D Φ) (hP : cP D Φ σ H) (hS : va_S (cReg Φ) s.heap H locs)  (hl : lv_has ls 5 [(0, cv Φ (some x0)), (1, cv Φ x1), (4, .int x4)]) (h : f_X9_adopt_134  x0 n x1 x4 σ = some q) : cWw p l e 3 0 0 85 s m args below meth c D Φ q none H locs 0 0 (F0 m 134 ls []) := by
  have hx := X.1
  have hb := X.2.1
  have hown := X.2.2.2.1
  have hts := X.2.2.2.2.1
  induction n generalizing x1 x4 σ H locs ls with
  | zero => exact absurd (show none = some q from h) (by simp)
  | succ n ih =>
    have h : (if (15:Int32) ≤ x4 then ((gI σ x1 9 3).bind (fun v1 => (pI σ (some x0) 9 3 v1).bind (fun v2 => (pZ v2 (some x0) 9 1 (1:Int32)).bind (fun v3 => some v3)))) else ((gR σ (some x0) 9 0).bind (fun v4 => (gR σ x1 9 0).bind (fun v5 => (aI σ v5 x4).bind (fun v6 => (sI σ v4 x4 v6).bind (fun v7 => f_X9_adopt_134 x0 n (x1) ((x4 + (1:Int32))) v7)))))) = some q := h
    refine lv_iload hx hb dX9_adopt_134 (lv_at hl 2 rfl) ?_
    refine lv_bipush (v := (15:Int32)) hx hb dX9_adopt_136 (by decide) ?_
    refine lv_icmp_ge (tgt := 161) hx hb dX9_adopt_138 rfl (fun hc => ?_) (fun hc => ?_)
    · have h := ip hc h
      refine c_aload_n hx hb dX9_adopt_161 rfl (lv_at hl 0 rfl) ?_
      refine c_aload_n hx hb dX9_adopt_162 rfl (lv_at hl 1 rfl) ?_
      obtain ⟨v1, hv1, h⟩ := ob h
      refine c_gI X hP hv1 (Nat.le_of_ble_eq_true rfl) (Nat.le_of_ble_eq_true rfl) rfl w_100 dX9_adopt_163 ?_
      obtain ⟨v2, hv2, h⟩ := ob h
      refine c_pI X hP hS hv2 (Nat.le_of_ble_eq_true rfl) (Nat.le_of_ble_eq_true rfl) rfl rfl (Or.inl rfl) w_100 dX9_adopt_166 (fun H locs hP hS => ?_)
      refine c_aload_n hx hb dX9_adopt_169 rfl (lv_at hl 0 rfl) ?_
      refine lv_iconst (v := (1:Int32)) hx hb dX9_adopt_170 (by decide) ?_
      obtain ⟨v3, hv3, h⟩ := ob h
      refine c_pZ X hP hS hv3 (Nat.le_of_ble_eq_true rfl) (Nat.le_of_ble_eq_true rfl) rfl rfl (Or.inl rfl) w_95 dX9_adopt_171 (fun H locs hP hS => ?_)
      obtain rfl := sj h
      exact c_wv X hP hS (Nat.le_of_ble_eq_true rfl) (Nat.le_of_ble_eq_true rfl) dX9_adopt_174
    · have h := ine hc h
      refine c_aload_n hx hb dX9_adopt_141 rfl (lv_at hl 0 rfl) ?_
      obtain ⟨v4, hv4, h⟩ := ob h
      refine c_gR X hP hv4 (Nat.le_of_ble_eq_true rfl) (Nat.le_of_ble_eq_true rfl) rfl w_93 dX9_adopt_142 ?_
      refine lv_iload hx hb dX9_adopt_145 (lv_at hl 2 rfl) ?_
      refine c_aload_n hx hb dX9_adopt_147 rfl (lv_at hl 1 rfl) ?_
      obtain ⟨v5, hv5, h⟩ := ob h
      refine c_gR X hP hv5 (Nat.le_of_ble_eq_true rfl) (Nat.le_of_ble_eq_true rfl) rfl w_93 dX9_adopt_148 ?_
      refine lv_iload hx hb dX9_adopt_151 (lv_at hl 2 rfl) ?_
      obtain ⟨v6, hv6, h⟩ := ob h
      refine c_ald X hP hv6 dX9_adopt_153 ?_
      obtain ⟨v7, hv7, h⟩ := ob h
      refine c_ast X hP hS hv7 dX9_adopt_154 (fun H locs hP hS => ?_)
      refine c_iinc (v := (x4 + (1:Int32))) hx hb dX9_adopt_155 hl (k := 2) rfl rfl (Nat.le_of_ble_eq_true rfl) (lvKa rfl (lvKa rfl (lvKa rfl lvK0))) rfl (fun ls (hl : lv_has ls 5 [(4, .int (x4 + (1:Int32))), (0, cv Φ (some x0)), (1, cv Φ x1)]) => ?_)
      refine lv_goto (tgt := 134) hx hb dX9_adopt_158 rfl ?_
      exact ih hP hS (lv_sub hl [1, 2, 0] rfl) h
set_option maxRecDepth 20000 in
set_option maxHeartbeats 4000000 in
theorem N_X9_adopt_131 {p : Program} {l : Launch} {e : Env} {s : State} {m : MethodId} {args : Array Value} {below : List Frame} {meth : Method} {c : Code} {D : cD} {Φ : cG} {x0 : Nat}   {x1 : Option Nat} {σ : cS} {H : Heap} {locs : List Loc} {ls : Array Slot} {q : cS} (X : cX p s m args meth c cX9_adopt 5 none RX9 D Φ) (hP : cP D Φ σ H) (hS : va_S (cReg Φ) s.heap H locs)  (hl : lv_has ls 5 [(0, cv Φ (some x0)), (1, cv Φ x1)]) (h : f_X9_adopt_131  x0 x1 σ = some q) : cWw p l e 3 0 0 85 s m args below meth c D Φ q none H locs 0 0 (F0 m 131 ls []) := by
  have hx := X.1
  have hb := X.2.1
  have hown := X.2.2.2.1
  have hts := X.2.2.2.2.1
  have h : (f_X9_adopt_134 x0 4000 (x1) ((0:Int32)) σ) = some q := h
  refine lv_iconst (v := (0:Int32)) hx hb dX9_adopt_131 (by decide) ?_
  refine c_istore hx hb dX9_adopt_132 hl (Nat.le_of_ble_eq_true rfl) (lvKa rfl (lvKa rfl lvK0)) rfl (fun ls (hl : lv_has ls 5 [(4, .int (0:Int32)), (0, cv Φ (some x0)), (1, cv Φ x1)]) => ?_)
  exact N_X9_adopt_134 X hP hS (lv_sub hl [1, 2, 0] rfl) h
set_option maxRecDepth 20000 in
set_option maxHeartbeats 4000000 in
theorem N_X9_adopt_126 {p : Program} {l : Launch} {e : Env} {s : State} {m : MethodId} {args : Array Value} {below : List Frame} {meth : Method} {c : Code} {D : cD} {Φ : cG} {x0 : Nat}   {x1 : Option Nat} {x2 : Int32} {σ : cS} {H : Heap} {locs : List Loc} {ls : Array Slot} {q : cS} (X : cX p s m args meth c cX9_adopt 5 none RX9 D Φ) (hP : cP D Φ σ H) (hS : va_S (cReg Φ) s.heap H locs)  (hl : lv_has ls 5 [(0, cv Φ (some x0)), (1, cv Φ x1), (2, .int x2)]) (h : f_X9_adopt_126  x0 x1 x2 σ = some q) : cWw p l e 3 0 0 85 s m args below meth c D Φ q none H locs 0 0 (F0 m 126 ls []) := by
  have hx := X.1
  have hb := X.2.1
  have hown := X.2.2.2.1
  have hts := X.2.2.2.2.1
  have h : ((pI σ (some x0) 9 8 x2).bind (fun v1 => f_X9_adopt_131 x0 (x1) v1)) = some q := h
  refine c_aload_n hx hb dX9_adopt_126 rfl (lv_at hl 0 rfl) ?_
  refine lv_iload_n hx hb dX9_adopt_127 rfl (lv_at hl 2 rfl) ?_
  obtain ⟨v1, hv1, h⟩ := ob h
  refine c_pI X hP hS hv1 (Nat.le_of_ble_eq_true rfl) (Nat.le_of_ble_eq_true rfl) rfl rfl (Or.inl rfl) w_106 dX9_adopt_128 (fun H locs hP hS => ?_)
  exact N_X9_adopt_131 X hP hS (lv_sub hl [0, 1] rfl) h
set_option maxRecDepth 20000 in
set_option maxHeartbeats 4000000 in
theorem N_X9_adopt_96 {p : Program} {l : Launch} {e : Env} {s : State} {m : MethodId} {args : Array Value} {below : List Frame} {meth : Method} {c : Code} {D : cD} {Φ : cG} {x0 : Nat} {k56 : Option Nat → Int32 → Option Nat → Int32 → cS → Option (cS)}  {x1 : Option Nat} {x2 : Int32} {x3 : Option Nat} {x4 : Int32} {σ : cS} {H : Heap} {locs : List Loc} {ls : Array Slot} {q : cS} (X : cX p s m args meth c cX9_adopt 5 none RX9 D Φ) (hP : cP D Φ σ H) (hS : va_S (cReg Φ) s.heap H locs) (hk56 : ∀ {x1 : Option Nat} {x2 : Int32} {x3 : Option Nat} {x4 : Int32} {σ : cS} {H : Heap} {locs : List Loc} {ls : Array Slot}, cP D Φ σ H → va_S (cReg Φ) s.heap H locs → lv_has ls 5 [(0, cv Φ (some x0)), (1, cv Φ x1), (2, .int x2), (3, cv Φ x3), (4, .int x4)] → k56 x1 x2 x3 x4 σ = some q → cWw p l e 3 0 0 85 s m args below meth c D Φ q none H locs 0 0 (F0 m 56 ls [])) (hl : lv_has ls 5 [(0, cv Φ (some x0)), (1, cv Φ x1), (2, .int x2), (3, cv Φ x3), (4, .int x4)]) (h : f_X9_adopt_96 k56 x0 x1 x2 x3 x4 σ = some q) : cWw p l e 3 0 0 85 s m args below meth c D Φ q none H locs 0 0 (F0 m 96 ls []) := by
  have hx := X.1
  have hb := X.2.1
  have hown := X.2.2.2.1
  have hts := X.2.2.2.2.1
  have h : (k56 (x1) (x2) (x3) ((x4 + (1:Int32))) σ) = some q := h
  refine c_iinc (v := (x4 + (1:Int32))) hx hb dX9_adopt_96 hl (k := 4) rfl rfl (Nat.le_of_ble_eq_true rfl) (lvKa rfl (lvKa rfl (lvKa rfl (lvKr (lvKa rfl lvK0))))) rfl (fun ls (hl : lv_has ls 5 [(4, .int (x4 + (1:Int32))), (0, cv Φ (some x0)), (1, cv Φ x1), (2, .int x2), (3, cv Φ x3)]) => ?_)
  refine lv_goto (tgt := 56) hx hb dX9_adopt_99 rfl ?_
  exact hk56 hP hS (lv_sub hl [1, 2, 3, 4, 0] rfl) h
set_option maxRecDepth 20000 in
set_option maxHeartbeats 4000000 in
theorem N_X9_adopt_56 {p : Program} {l : Launch} {e : Env} {s : State} {m : MethodId} {args : Array Value} {below : List Frame} {meth : Method} {c : Code} {D : cD} {Φ : cG} {x0 : Nat}  {n : Nat} {x1 : Option Nat} {x2 : Int32} {x3 : Option Nat} {x4 : Int32} {σ : cS} {H : Heap} {locs : List Loc} {ls : Array Slot} {q : cS} (X : cX p s m args meth c cX9_adopt 5 none RX9 D Φ) (hP : cP D Φ σ H) (hS : va_S (cReg Φ) s.heap H locs)  (hl : lv_has ls 5 [(0, cv Φ (some x0)), (1, cv Φ x1), (2, .int x2), (3, cv Φ x3), (4, .int x4)]) (h : f_X9_adopt_56  x0 n x1 x2 x3 x4 σ = some q) : cWw p l e 3 0 0 85 s m args below meth c D Φ q none H locs 0 0 (F0 m 56 ls []) := by
  have hx := X.1
  have hb := X.2.1
  have hown := X.2.2.2.1
  have hts := X.2.2.2.2.1
  induction n generalizing x1 x2 x3 x4 σ H locs ls with
  | zero => exact absurd (show none = some q from h) (by simp)
  | succ n ih =>
    have h : (if (5:Int32) ≤ x4 then ((gI σ (some x0) 9 1).bind (fun v1 => if v1 = (0:Int32) then (f_X9_adopt_126 x0 (x1) (x2) σ) else ((gR σ (some x0) 9 0).bind (fun v2 => (aI σ v2 (11:Int32)).bind (fun v3 => (gR σ x1 9 0).bind (fun v4 => (aI σ v4 (11:Int32)).bind (fun v5 => if v3 = v5 then (f_X9_adopt_131 x0 (x1) σ) else (f_X9_adopt_126 x0 (x1) (x2) σ)))))))) else ((gI σ (some x0) 9 4).bind (fun v6 => if ((v6 >>> (x4 &&& 31)) &&& (1:Int32)) = (0:Int32) then (f_X9_adopt_96 (f_X9_adopt_56 x0 n) x0 (x1) (x2) (x3) (x4) σ) else ((gR σ x1 9 0).bind (fun v7 => (aI σ v7 x4).bind (fun v8 => (gR σ x1 9 0).bind (fun v9 => (aI σ v9 (10:Int32)).bind (fun v10 => (rc σ (some x0) 9).bind (fun v11 => (f_X9_turnTo v11 (x4) (v8) (v10) (x2) (x3) σ).bind (fun v12 => f_X9_adopt_96 (f_X9_adopt_56 x0 n) x0 (x1) (x2) (x3) (x4) v12)))))))))) = some q := h
    refine lv_iload hx hb dX9_adopt_56 (lv_at hl 4 rfl) ?_
    refine lv_iconst (v := (5:Int32)) hx hb dX9_adopt_58 (by decide) ?_
    refine lv_icmp_ge (tgt := 102) hx hb dX9_adopt_59 rfl (fun hc => ?_) (fun hc => ?_)
    · have h := ip hc h
      refine c_aload_n hx hb dX9_adopt_102 rfl (lv_at hl 0 rfl) ?_
      obtain ⟨v1, hv1, h⟩ := ob h
      refine c_gI X hP hv1 (Nat.le_of_ble_eq_true rfl) (Nat.le_of_ble_eq_true rfl) rfl w_95 dX9_adopt_103 ?_
      refine lv_if_eq (tgt := 126) hx hb dX9_adopt_106 rfl (fun hc => ?_) (fun hc => ?_)
      · have h := ip hc h
        exact N_X9_adopt_126 X hP hS (lv_sub hl [0, 1, 2] rfl) h
      · have h := ine hc h
        refine c_aload_n hx hb dX9_adopt_109 rfl (lv_at hl 0 rfl) ?_
        obtain ⟨v2, hv2, h⟩ := ob h
        refine c_gR X hP hv2 (Nat.le_of_ble_eq_true rfl) (Nat.le_of_ble_eq_true rfl) rfl w_93 dX9_adopt_110 ?_
        refine lv_bipush (v := (11:Int32)) hx hb dX9_adopt_113 (by decide) ?_
        obtain ⟨v3, hv3, h⟩ := ob h
        refine c_ald X hP hv3 dX9_adopt_115 ?_
        refine c_aload_n hx hb dX9_adopt_116 rfl (lv_at hl 1 rfl) ?_
        obtain ⟨v4, hv4, h⟩ := ob h
        refine c_gR X hP hv4 (Nat.le_of_ble_eq_true rfl) (Nat.le_of_ble_eq_true rfl) rfl w_93 dX9_adopt_117 ?_
        refine lv_bipush (v := (11:Int32)) hx hb dX9_adopt_120 (by decide) ?_
        obtain ⟨v5, hv5, h⟩ := ob h
        refine c_ald X hP hv5 dX9_adopt_122 ?_
        refine lv_icmp_eq (tgt := 131) hx hb dX9_adopt_123 rfl (fun hc => ?_) (fun hc => ?_)
        · have h := ip hc h
          exact N_X9_adopt_131 X hP hS (lv_sub hl [0, 1] rfl) h
        · have h := ine hc h
          exact N_X9_adopt_126 X hP hS (lv_sub hl [0, 1, 2] rfl) h
    · have h := ine hc h
      refine c_aload_n hx hb dX9_adopt_62 rfl (lv_at hl 0 rfl) ?_
      obtain ⟨v6, hv6, h⟩ := ob h
      refine c_gI X hP hv6 (Nat.le_of_ble_eq_true rfl) (Nat.le_of_ble_eq_true rfl) rfl w_101 dX9_adopt_63 ?_
      refine lv_iload hx hb dX9_adopt_66 (lv_at hl 4 rfl) ?_
      refine lv_ishr hx hb dX9_adopt_68 ?_
      refine lv_iconst (v := (1:Int32)) hx hb dX9_adopt_69 (by decide) ?_
      refine lv_iand hx hb dX9_adopt_70 ?_
      refine lv_if_eq (tgt := 96) hx hb dX9_adopt_71 rfl (fun hc => ?_) (fun hc => ?_)
      · have h := ip hc h
        exact N_X9_adopt_96 X hP hS ih (lv_sub hl [0, 1, 2, 3, 4] rfl) h
      · have h := ine hc h
        refine c_aload_n hx hb dX9_adopt_74 rfl (lv_at hl 0 rfl) ?_
        refine lv_iload hx hb dX9_adopt_75 (lv_at hl 4 rfl) ?_
        refine c_aload_n hx hb dX9_adopt_77 rfl (lv_at hl 1 rfl) ?_
        obtain ⟨v7, hv7, h⟩ := ob h
        refine c_gR X hP hv7 (Nat.le_of_ble_eq_true rfl) (Nat.le_of_ble_eq_true rfl) rfl w_93 dX9_adopt_78 ?_
        refine lv_iload hx hb dX9_adopt_81 (lv_at hl 4 rfl) ?_
        obtain ⟨v8, hv8, h⟩ := ob h
        refine c_ald X hP hv8 dX9_adopt_83 ?_
        refine c_aload_n hx hb dX9_adopt_84 rfl (lv_at hl 1 rfl) ?_
        obtain ⟨v9, hv9, h⟩ := ob h
        refine c_gR X hP hv9 (Nat.le_of_ble_eq_true rfl) (Nat.le_of_ble_eq_true rfl) rfl w_93 dX9_adopt_85 ?_
        refine lv_bipush (v := (10:Int32)) hx hb dX9_adopt_88 (by decide) ?_
        obtain ⟨v10, hv10, h⟩ := ob h
        refine c_ald X hP hv10 dX9_adopt_90 ?_
        refine lv_iload_n hx hb dX9_adopt_91 rfl (lv_at hl 2 rfl) ?_
        refine c_aload_n hx hb dX9_adopt_92 rfl (lv_at hl 3 rfl) ?_
        obtain ⟨v11, hv11, h⟩ := ob h
        obtain ⟨v12, hv12, h⟩ := ob h
        refine c_cw (c_runV X (K_X9_turnTo l D Φ σ v11 (x4) (v8) (v10) (x2) (x3) hv12) hv11 ⟨Nat.le_of_ble_eq_true rfl, by decide⟩ ⟨w_1059, ww_X9_turnTo⟩ rfl hy_X9_turnTo rfl ⟨(Nat.le_of_ble_eq_true rfl), (Nat.le_of_ble_eq_true rfl)⟩ hP hS hl.1 (Nat.le_of_ble_eq_true rfl) dX9_adopt_93 rfl ⟨(Nat.le_of_ble_eq_true rfl), (Nat.le_of_ble_eq_true rfl)⟩) hS (fun H locs hP hS => ?_)
        refine W.eq (g2 := F0 m 96 ls []) rfl ?_
        exact N_X9_adopt_96 X hP hS ih (lv_sub hl [0, 1, 2, 3, 4] rfl) h
set_option maxRecDepth 20000 in
set_option maxHeartbeats 4000000 in
theorem N_X9_adopt_47 {p : Program} {l : Launch} {e : Env} {s : State} {m : MethodId} {args : Array Value} {below : List Frame} {meth : Method} {c : Code} {D : cD} {Φ : cG} {x0 : Nat} {k3 : Option Nat → Int32 → Option Nat → Int32 → cS → Option (cS)}  {x1 : Option Nat} {x2 : Int32} {x3 : Option Nat} {x4 : Int32} {σ : cS} {H : Heap} {locs : List Loc} {ls : Array Slot} {q : cS} (X : cX p s m args meth c cX9_adopt 5 none RX9 D Φ) (hP : cP D Φ σ H) (hS : va_S (cReg Φ) s.heap H locs) (hk3 : ∀ {x1 : Option Nat} {x2 : Int32} {x3 : Option Nat} {x4 : Int32} {σ : cS} {H : Heap} {locs : List Loc} {ls : Array Slot}, cP D Φ σ H → va_S (cReg Φ) s.heap H locs → lv_has ls 5 [(0, cv Φ (some x0)), (1, cv Φ x1), (2, .int x2), (3, cv Φ x3), (4, .int x4)] → k3 x1 x2 x3 x4 σ = some q → cWw p l e 3 0 0 85 s m args below meth c D Φ q none H locs 0 0 (F0 m 3 ls [])) (hl : lv_has ls 5 [(0, cv Φ (some x0)), (1, cv Φ x1), (2, .int x2), (3, cv Φ x3), (4, .int x4)]) (h : f_X9_adopt_47 k3 x0 x1 x2 x3 x4 σ = some q) : cWw p l e 3 0 0 85 s m args below meth c D Φ q none H locs 0 0 (F0 m 47 ls []) := by
  have hx := X.1
  have hb := X.2.1
  have hown := X.2.2.2.1
  have hts := X.2.2.2.2.1
  have h : (k3 (x1) (x2) (x3) ((x4 + (1:Int32))) σ) = some q := h
  refine c_iinc (v := (x4 + (1:Int32))) hx hb dX9_adopt_47 hl (k := 4) rfl rfl (Nat.le_of_ble_eq_true rfl) (lvKa rfl (lvKa rfl (lvKa rfl (lvKr (lvKa rfl lvK0))))) rfl (fun ls (hl : lv_has ls 5 [(4, .int (x4 + (1:Int32))), (0, cv Φ (some x0)), (1, cv Φ x1), (2, .int x2), (3, cv Φ x3)]) => ?_)
  refine lv_goto (tgt := 3) hx hb dX9_adopt_50 rfl ?_
  exact hk3 hP hS (lv_sub hl [1, 2, 3, 4, 0] rfl) h
set_option maxRecDepth 20000 in
set_option maxHeartbeats 4000000 in
theorem N_X9_adopt_3 {p : Program} {l : Launch} {e : Env} {s : State} {m : MethodId} {args : Array Value} {below : List Frame} {meth : Method} {c : Code} {D : cD} {Φ : cG} {x0 : Nat}  {n : Nat} {x1 : Option Nat} {x2 : Int32} {x3 : Option Nat} {x4 : Int32} {σ : cS} {H : Heap} {locs : List Loc} {ls : Array Slot} {q : cS} (X : cX p s m args meth c cX9_adopt 5 none RX9 D Φ) (hP : cP D Φ σ H) (hS : va_S (cReg Φ) s.heap H locs)  (hl : lv_has ls 5 [(0, cv Φ (some x0)), (1, cv Φ x1), (2, .int x2), (3, cv Φ x3), (4, .int x4)]) (h : f_X9_adopt_3  x0 n x1 x2 x3 x4 σ = some q) : cWw p l e 3 0 0 85 s m args below meth c D Φ q none H locs 0 0 (F0 m 3 ls []) := by
  have hx := X.1
  have hb := X.2.1
  have hown := X.2.2.2.1
  have hts := X.2.2.2.2.1
  induction n generalizing x1 x2 x3 x4 σ H locs ls with
  | zero => exact absurd (show none = some q from h) (by simp)
  | succ n ih =>
    have h : (if (15:Int32) ≤ x4 then (f_X9_adopt_56 x0 4000 (x1) (x2) (x3) ((0:Int32)) σ) else ((gI σ (some x0) 9 1).bind (fun v1 => if v1 = (0:Int32) then (f_X9_adopt_47 (f_X9_adopt_3 x0 n) x0 (x1) (x2) (x3) (x4) σ) else ((gR σ (some x0) 9 0).bind (fun v2 => (aI σ v2 x4).bind (fun v3 => (gR σ x1 9 0).bind (fun v4 => (aI σ v4 x4).bind (fun v5 => if v3 = v5 then (f_X9_adopt_47 (f_X9_adopt_3 x0 n) x0 (x1) (x2) (x3) (x4) σ) else ((gI σ (some x0) 9 4).bind (fun v6 => (pI σ (some x0) 9 4 (v6 ||| ((1:Int32) <<< (x4 &&& 31)))).bind (fun v7 => f_X9_adopt_47 (f_X9_adopt_3 x0 n) x0 (x1) (x2) (x3) (x4) v7))))))))))) = some q := h
    refine lv_iload hx hb dX9_adopt_3 (lv_at hl 4 rfl) ?_
    refine lv_bipush (v := (15:Int32)) hx hb dX9_adopt_5 (by decide) ?_
    refine lv_icmp_ge (tgt := 53) hx hb dX9_adopt_7 rfl (fun hc => ?_) (fun hc => ?_)
    · have h := ip hc h
      refine lv_iconst (v := (0:Int32)) hx hb dX9_adopt_53 (by decide) ?_
      refine c_istore hx hb dX9_adopt_54 hl (Nat.le_of_ble_eq_true rfl) (lvKa rfl (lvKa rfl (lvKa rfl (lvKr (lvKa rfl lvK0))))) rfl (fun ls (hl : lv_has ls 5 [(4, .int (0:Int32)), (0, cv Φ (some x0)), (1, cv Φ x1), (2, .int x2), (3, cv Φ x3)]) => ?_)
      exact N_X9_adopt_56 X hP hS (lv_sub hl [1, 2, 3, 4, 0] rfl) h
    · have h := ine hc h
      refine c_aload_n hx hb dX9_adopt_10 rfl (lv_at hl 0 rfl) ?_
      obtain ⟨v1, hv1, h⟩ := ob h
      refine c_gI X hP hv1 (Nat.le_of_ble_eq_true rfl) (Nat.le_of_ble_eq_true rfl) rfl w_95 dX9_adopt_11 ?_
      refine lv_if_eq (tgt := 47) hx hb dX9_adopt_14 rfl (fun hc => ?_) (fun hc => ?_)
      · have h := ip hc h
        exact N_X9_adopt_47 X hP hS ih (lv_sub hl [0, 1, 2, 3, 4] rfl) h
      · have h := ine hc h
        refine c_aload_n hx hb dX9_adopt_17 rfl (lv_at hl 0 rfl) ?_
        obtain ⟨v2, hv2, h⟩ := ob h
        refine c_gR X hP hv2 (Nat.le_of_ble_eq_true rfl) (Nat.le_of_ble_eq_true rfl) rfl w_93 dX9_adopt_18 ?_
        refine lv_iload hx hb dX9_adopt_21 (lv_at hl 4 rfl) ?_
        obtain ⟨v3, hv3, h⟩ := ob h
        refine c_ald X hP hv3 dX9_adopt_23 ?_
        refine c_aload_n hx hb dX9_adopt_24 rfl (lv_at hl 1 rfl) ?_
        obtain ⟨v4, hv4, h⟩ := ob h
        refine c_gR X hP hv4 (Nat.le_of_ble_eq_true rfl) (Nat.le_of_ble_eq_true rfl) rfl w_93 dX9_adopt_25 ?_
        refine lv_iload hx hb dX9_adopt_28 (lv_at hl 4 rfl) ?_
        obtain ⟨v5, hv5, h⟩ := ob h
        refine c_ald X hP hv5 dX9_adopt_30 ?_
        refine lv_icmp_eq (tgt := 47) hx hb dX9_adopt_31 rfl (fun hc => ?_) (fun hc => ?_)
        · have h := ip hc h
          exact N_X9_adopt_47 X hP hS ih (lv_sub hl [0, 1, 2, 3, 4] rfl) h
        · have h := ine hc h
          refine c_aload_n hx hb dX9_adopt_34 rfl (lv_at hl 0 rfl) ?_
          refine c_dupq hx hb dX9_adopt_35 ?_
          obtain ⟨v6, hv6, h⟩ := ob h
          refine c_gI X hP hv6 (Nat.le_of_ble_eq_true rfl) (Nat.le_of_ble_eq_true rfl) rfl w_101 dX9_adopt_36 ?_
          refine lv_iconst (v := (1:Int32)) hx hb dX9_adopt_39 (by decide) ?_
          refine lv_iload hx hb dX9_adopt_40 (lv_at hl 4 rfl) ?_
          refine lv_ishl hx hb dX9_adopt_42 ?_
          refine lv_ior hx hb dX9_adopt_43 ?_
          obtain ⟨v7, hv7, h⟩ := ob h
          refine c_pI X hP hS hv7 (Nat.le_of_ble_eq_true rfl) (Nat.le_of_ble_eq_true rfl) rfl rfl (Or.inl rfl) w_101 dX9_adopt_44 (fun H locs hP hS => ?_)
          exact N_X9_adopt_47 X hP hS ih (lv_sub hl [0, 1, 2, 3, 4] rfl) h
set_option maxRecDepth 20000 in
set_option maxHeartbeats 4000000 in
theorem K_X9_adopt (l : Launch) (D : cD) (Φ : cG) (σ : cS) (x0 : Nat) (x1 : Option Nat) (x2 : Int32) (x3 : Option Nat) {q : cS} (h : f_X9_adopt x0 x1 x2 x3 σ = some q) : Met l yX9_adopt (Cond.code yX9_adopt cX9_adopt 5 none :: BG) (rA 3 0 0 85) (cPc D Φ σ [cv Φ (some x0), cv Φ x1, .int x2, cv Φ x3]) (cQw D Φ q none) 0 0 (cReg Φ) := by
  refine Met.ofW (cc := cX9_adopt) (maxL := 5) (ret := none) (by decide) rfl ?_
  intro p e s m args below meth c s₁ B hml hv
  obtain ⟨rfl, hP, hK, hZ⟩ := hv
  have X : cX p s m [cv Φ (some x0), cv Φ x1, .int x2, cv Φ x3].toArray meth c cX9_adopt 5 none RX9 D Φ := cX_of B hml hK hZ
  have hx := X.1
  have hb := X.2.1
  have hown := X.2.2.2.1
  have hts := X.2.2.2.2.1
  have hl := lv_entry [cv Φ (some x0), cv Φ x1, .int x2, cv Φ x3] (n := 5) (by simp only [lgs_r, lgs_i, lgs_l, lgs_0, List.length]; exact Nat.le_of_ble_eq_true rfl)
  rw [lg_entry_eq]
  generalize (lg_sl [cv Φ (some x0), cv Φ x1, .int x2, cv Φ x3] ++ List.replicate (5 - (lg_sl [cv Φ (some x0), cv Φ x1, .int x2, cv Φ x3]).length) Slot.unset).toArray = ls at hl ⊢
  simp only [lv_args_r, lv_args_i, lv_args_l, lv_args_0] at hl
  have hl : lv_has ls 5 [(0, cv Φ (some x0)), (1, cv Φ x1), (2, .int x2), (3, cv Φ x3)] := hl
  have hS : va_S (cReg Φ) s.heap s.heap [] := va_S.rf
  show cWw p l e 3 0 0 85 s m [cv Φ (some x0), cv Φ x1, .int x2, cv Φ x3].toArray below meth c D Φ q none s.heap [] 0 0 (F0 m 0 ls [])
  have h : (f_X9_adopt_3 x0 4000 (x1) (x2) (x3) ((0:Int32)) σ) = some q := h
  refine lv_iconst (v := (0:Int32)) hx hb dX9_adopt_0 (by decide) ?_
  refine c_istore hx hb dX9_adopt_1 hl (Nat.le_of_ble_eq_true rfl) (lvKa rfl (lvKa rfl (lvKa rfl (lvKr lvK0)))) rfl (fun ls (hl : lv_has ls 5 [(4, .int (0:Int32)), (0, cv Φ (some x0)), (1, cv Φ x1), (2, .int x2), (3, cv Φ x3)]) => ?_)
  exact N_X9_adopt_3 X hP hS (lv_sub hl [1, 2, 3, 4, 0] rfl) h
theorem ww_X9_adopt : Cond.instanceMethod yX9_adopt ∈ BG ∧ Cond.selects (yX9_adopt).cls yX9_adopt yX9_adopt ∈ BG ∧ Cond.initialized (yX9_adopt).cls ∈ BG ∧ Cond.code yX9_adopt cX9_adopt 5 none ∈ BG := ⟨w_1056, w_1057, w_57, w_1058⟩
theorem hy_X9_adopt : (yX9_adopt).cls ≠ "java/lang/invoke/MethodHandle" ∧ (yX9_adopt).cls ≠ "java/lang/invoke/VarHandle" ∧ (parseMethodDescriptor (yX9_adopt).desc).map (fun d => d.parameters.length) = some 3 := ⟨by decide, by decide, by decide +kernel⟩
def f_X10_init (x0 : Nat)  (σ : cS) : Option (cS) := (rc (nw σ 3) (some (σ).2) 3).bind (fun v1 => (f_X3_init v1 ((0:Int32)) ((0:Int32)) (nw σ 3)).bind (fun v2 => (pR v2 (some x0) 10 0 (some (σ).2)).bind (fun v3 => (pI v3 (some x0) 10 1 (1:Int32)).bind (fun v4 => (pI v4 (some x0) 10 2 (1:Int32)).bind (fun v5 => (pR (na v5 33 30) (some x0) 10 4 (some (v5).2)).bind (fun v6 => (gR v6 (some x0) 10 4).bind (fun v7 => (gR v6 (some x0) 10 0).bind (fun v8 => (sR v6 v7 3 (0:Int32) v8).bind (fun v9 => some v9)))))))))
set_option maxRecDepth 20000 in
set_option maxHeartbeats 4000000 in
theorem K_X10_init (l : Launch) (D : cD) (Φ : cG) (σ : cS) (x0 : Nat)  {q : cS} (h : f_X10_init x0  σ = some q) : Met l yX10_init (Cond.code yX10_init cX10_init 1 none :: BG) (rA 3 12 169 65) (cPc D Φ σ [cv Φ (some x0)]) (cQw D Φ q none) 12 169 (cReg Φ) := by
  refine Met.ofW (cc := cX10_init) (maxL := 1) (ret := none) (by decide) rfl ?_
  intro p e s m args below meth c s₁ B hml hv
  obtain ⟨rfl, hP, hK, hZ⟩ := hv
  have X : cX p s m [cv Φ (some x0)].toArray meth c cX10_init 1 none RX10 D Φ := cX_of B hml hK hZ
  have hin : meth.name = "<init>" := (name_of_methodNamed B.named B.method).1
  have hx := X.1
  have hb := X.2.1
  have hown := X.2.2.2.1
  have hts := X.2.2.2.2.1
  have hl := lv_entry [cv Φ (some x0)] (n := 1) (by simp only [lgs_r, lgs_i, lgs_l, lgs_0, List.length]; exact Nat.le_of_ble_eq_true rfl)
  rw [lg_entry_eq]
  generalize (lg_sl [cv Φ (some x0)] ++ List.replicate (1 - (lg_sl [cv Φ (some x0)]).length) Slot.unset).toArray = ls at hl ⊢
  simp only [lv_args_r, lv_args_i, lv_args_l, lv_args_0] at hl
  have hl : lv_has ls 1 [(0, cv Φ (some x0))] := hl
  have hS : va_S (cReg Φ) s.heap s.heap [] := va_S.rf
  show cWw p l e 3 12 169 65 s m [cv Φ (some x0)].toArray below meth c D Φ q none s.heap [] 0 0 (F0 m 0 ls [])
  have h : ((rc (nw σ 3) (some (σ).2) 3).bind (fun v1 => (f_X3_init v1 ((0:Int32)) ((0:Int32)) (nw σ 3)).bind (fun v2 => (pR v2 (some x0) 10 0 (some (σ).2)).bind (fun v3 => (pI v3 (some x0) 10 1 (1:Int32)).bind (fun v4 => (pI v4 (some x0) 10 2 (1:Int32)).bind (fun v5 => (pR (na v5 33 30) (some x0) 10 4 (some (v5).2)).bind (fun v6 => (gR v6 (some x0) 10 4).bind (fun v7 => (gR v6 (some x0) 10 0).bind (fun v8 => (sR v6 v7 3 (0:Int32) v8).bind (fun v9 => some v9)))))))))) = some q := h
  refine c_aload_n hx hb dX10_init_0 rfl (lv_at hl 0 rfl) ?_
  refine W.objInit hx hb hown (hts _ w_147) (hts _ w_oi) (hts _ w_oc) rfl (hl.1.trans X.2.2.1.symm) rfl dX10_init_1 (Nat.le_of_ble_eq_true rfl) (Nat.le_of_ble_eq_true rfl) ?_
  refine W.eq (g2 := F0 m 4 ls []) rfl ?_
  refine c_aload_n hx hb dX10_init_4 rfl (lv_at hl 0 rfl) ?_
  refine c_new X hP hS (ci := 3) ⟨Nat.le_of_ble_eq_true rfl, by decide⟩ ⟨w_148, w_149, w_59⟩ (Nat.le_of_ble_eq_true rfl) (Nat.le_of_ble_eq_true rfl) dX10_init_5 (fun H hP hS => ?_)
  refine c_dupq hx hb dX10_init_8 ?_
  refine lv_iconst (v := (0:Int32)) hx hb dX10_init_9 (by decide) ?_
  refine lv_iconst (v := (0:Int32)) hx hb dX10_init_10 (by decide) ?_
  obtain ⟨v1, hv1, h⟩ := ob h
  obtain ⟨v2, hv2, h⟩ := ob h
  refine c_cw (c_runI X (K_X3_init l D Φ (nw σ 3) v1 ((0:Int32)) ((0:Int32)) hv2) hv1 (Nat.le_of_ble_eq_true rfl) ⟨w_150, ww_X3_init⟩ rfl rfl hy_X3_init rfl ⟨(Nat.le_of_ble_eq_true rfl), (Nat.le_of_ble_eq_true rfl)⟩ hP hS hl.1 (Nat.le_of_ble_eq_true rfl) dX10_init_11 rfl ⟨(Nat.le_of_ble_eq_true rfl), (Nat.le_of_ble_eq_true rfl)⟩) hS (fun H locs hP hS => ?_)
  refine W.eq (g2 := F0 m 14 ls [cv Φ (some (σ).2), cv Φ (some x0)]) rfl ?_
  obtain ⟨v3, hv3, h⟩ := ob h
  refine c_pR X hP hS hv3 (Nat.le_of_ble_eq_true rfl) (Nat.le_of_ble_eq_true rfl) rfl (Or.inr ⟨rfl, hin, rfl⟩) w_326 dX10_init_14 (fun H locs hP hS => ?_)
  refine c_aload_n hx hb dX10_init_17 rfl (lv_at hl 0 rfl) ?_
  refine lv_iconst (v := (1:Int32)) hx hb dX10_init_18 (by decide) ?_
  obtain ⟨v4, hv4, h⟩ := ob h
  refine c_pI X hP hS hv4 (Nat.le_of_ble_eq_true rfl) (Nat.le_of_ble_eq_true rfl) rfl rfl (Or.inl rfl) w_328 dX10_init_19 (fun H locs hP hS => ?_)
  refine c_aload_n hx hb dX10_init_22 rfl (lv_at hl 0 rfl) ?_
  refine lv_iconst (v := (1:Int32)) hx hb dX10_init_23 (by decide) ?_
  obtain ⟨v5, hv5, h⟩ := ob h
  refine c_pI X hP hS hv5 (Nat.le_of_ble_eq_true rfl) (Nat.le_of_ble_eq_true rfl) rfl rfl (Or.inl rfl) w_331 dX10_init_24 (fun H locs hP hS => ?_)
  refine c_aload_n hx hb dX10_init_27 rfl (lv_at hl 0 rfl) ?_
  refine lv_bipush (v := (30:Int32)) hx hb dX10_init_28 (by decide) ?_
  refine c_newq X hP hS (ci := 3) (N := 30) (Nat.le_of_ble_eq_true rfl) rfl w_148 (by decide) rfl (Nat.le_of_ble_eq_true rfl) (Nat.le_of_ble_eq_true rfl) (Nat.le_of_ble_eq_true rfl) dX10_init_30 (fun H hP hS => ?_)
  obtain ⟨v6, hv6, h⟩ := ob h
  refine c_pR X hP hS hv6 (Nat.le_of_ble_eq_true rfl) (Nat.le_of_ble_eq_true rfl) rfl (Or.inr ⟨rfl, hin, rfl⟩) w_336 dX10_init_33 (fun H locs hP hS => ?_)
  refine c_aload_n hx hb dX10_init_36 rfl (lv_at hl 0 rfl) ?_
  obtain ⟨v7, hv7, h⟩ := ob h
  refine c_gR X hP hv7 (Nat.le_of_ble_eq_true rfl) (Nat.le_of_ble_eq_true rfl) rfl w_336 dX10_init_37 ?_
  refine lv_iconst (v := (0:Int32)) hx hb dX10_init_40 (by decide) ?_
  refine c_aload_n hx hb dX10_init_41 rfl (lv_at hl 0 rfl) ?_
  obtain ⟨v8, hv8, h⟩ := ob h
  refine c_gR X hP hv8 (Nat.le_of_ble_eq_true rfl) (Nat.le_of_ble_eq_true rfl) rfl w_326 dX10_init_42 ?_
  obtain ⟨v9, hv9, h⟩ := ob h
  refine c_astq X hP hS hv9 ⟨Nat.le_of_ble_eq_true rfl, by decide⟩ rfl dX10_init_45 (fun H locs hP hS => ?_)
  obtain rfl := sj h
  exact c_wv X hP hS (Nat.le_of_ble_eq_true rfl) (Nat.le_of_ble_eq_true rfl) dX10_init_46
theorem ww_X10_init : Cond.instanceMethod yX10_init ∈ BG ∧ Cond.initialized (yX10_init).cls ∈ BG ∧ Cond.code yX10_init cX10_init 1 none ∈ BG := ⟨w_145, w_58, w_146⟩
theorem hy_X10_init : (yX10_init).cls ≠ "java/lang/invoke/MethodHandle" ∧ (yX10_init).cls ≠ "java/lang/invoke/VarHandle" ∧ (parseMethodDescriptor (yX10_init).desc).map (fun d => d.parameters.length) = some 0 := ⟨by decide, by decide, by decide +kernel⟩
def f_X10_hasTree_27  (x0 : Nat) (y0 : Int32) (σ : cS) : Option (Int32) := rz y0
def f_X10_hasTree_22  (x0 : Nat)  (σ : cS) : Option (Int32) := f_X10_hasTree_27 x0 ((1:Int32)) σ
def f_X10_hasTree_26  (x0 : Nat)  (σ : cS) : Option (Int32) := f_X10_hasTree_27 x0 ((0:Int32)) σ
def f_X10_hasTree (x0 : Nat) (x1 : Int32) (σ : cS) : Option (Int32) := (rc σ (some x0) 10).bind (fun v1 => (f_X10_at v1 (x1) σ).bind (fun v2 => if x1 = ((-1):Int32) then (f_X10_hasTree_22 x0 σ) else (if v2 = none then (f_X10_hasTree_26 x0 σ) else ((gI σ v2 3 7).bind (fun v3 => if v3 = (0:Int32) then (f_X10_hasTree_26 x0 σ) else (f_X10_hasTree_22 x0 σ))))))
set_option maxRecDepth 20000 in
set_option maxHeartbeats 4000000 in
theorem N_X10_hasTree_27 {p : Program} {l : Launch} {e : Env} {s : State} {m : MethodId} {args : Array Value} {below : List Frame} {meth : Method} {c : Code} {D : cD} {Φ : cG} {x0 : Nat}   {y0 : Int32} {σ : cS} {ls : Array Slot} {r : Int32} (X : cX p s m args meth c cX10_hasTree 3 (some .boolean) RX10 D Φ) (hP : cP D Φ σ s.heap) (hS : va_S (cReg Φ) s.heap s.heap [])  (hl : lv_has ls 3 []) (h : f_X10_hasTree_27  x0 y0 σ = some r) : cWr p l e 1 21 s m args below meth c (some (.int r)) (F0 m 27 ls [.int y0]) := by
  have hx := X.1
  have hb := X.2.1
  have hown := X.2.2.2.1
  have hts := X.2.2.2.2.1
  have h : (rz y0) = some r := h
  obtain ⟨hz, rfl⟩ := rz_spec h
  exact c_rz X hz dX10_hasTree_27
set_option maxRecDepth 20000 in
set_option maxHeartbeats 4000000 in
theorem N_X10_hasTree_22 {p : Program} {l : Launch} {e : Env} {s : State} {m : MethodId} {args : Array Value} {below : List Frame} {meth : Method} {c : Code} {D : cD} {Φ : cG} {x0 : Nat}    {σ : cS} {ls : Array Slot} {r : Int32} (X : cX p s m args meth c cX10_hasTree 3 (some .boolean) RX10 D Φ) (hP : cP D Φ σ s.heap) (hS : va_S (cReg Φ) s.heap s.heap [])  (hl : lv_has ls 3 []) (h : f_X10_hasTree_22  x0  σ = some r) : cWr p l e 1 21 s m args below meth c (some (.int r)) (F0 m 22 ls []) := by
  have hx := X.1
  have hb := X.2.1
  have hown := X.2.2.2.1
  have hts := X.2.2.2.2.1
  have h : (f_X10_hasTree_27 x0 ((1:Int32)) σ) = some r := h
  refine lv_iconst (v := (1:Int32)) hx hb dX10_hasTree_22 (by decide) ?_
  refine lv_goto (tgt := 27) hx hb dX10_hasTree_23 rfl ?_
  exact N_X10_hasTree_27 X hP hS (lv_sub hl [] rfl) h
set_option maxRecDepth 20000 in
set_option maxHeartbeats 4000000 in
theorem N_X10_hasTree_26 {p : Program} {l : Launch} {e : Env} {s : State} {m : MethodId} {args : Array Value} {below : List Frame} {meth : Method} {c : Code} {D : cD} {Φ : cG} {x0 : Nat}    {σ : cS} {ls : Array Slot} {r : Int32} (X : cX p s m args meth c cX10_hasTree 3 (some .boolean) RX10 D Φ) (hP : cP D Φ σ s.heap) (hS : va_S (cReg Φ) s.heap s.heap [])  (hl : lv_has ls 3 []) (h : f_X10_hasTree_26  x0  σ = some r) : cWr p l e 1 21 s m args below meth c (some (.int r)) (F0 m 26 ls []) := by
  have hx := X.1
  have hb := X.2.1
  have hown := X.2.2.2.1
  have hts := X.2.2.2.2.1
  have h : (f_X10_hasTree_27 x0 ((0:Int32)) σ) = some r := h
  refine lv_iconst (v := (0:Int32)) hx hb dX10_hasTree_26 (by decide) ?_
  exact N_X10_hasTree_27 X hP hS (lv_sub hl [] rfl) h
set_option maxRecDepth 20000 in
set_option maxHeartbeats 4000000 in
theorem K_X10_hasTree (l : Launch) (D : cD) (Φ : cG) (σ : cS) (x0 : Nat) (x1 : Int32) {r : Int32} (h : f_X10_hasTree x0 x1 σ = some r) : Met l yX10_hasTree (Cond.code yX10_hasTree cX10_hasTree 3 (some .boolean) :: BG) (rA 1 0 0 21) (cPc D Φ σ [cv Φ (some x0), .int x1]) (cQr (some (.int r))) 0 0 (fun _ => False) := by
  refine Met.ofW (cc := cX10_hasTree) (maxL := 3) (ret := (some .boolean)) (by decide) rfl ?_
  intro p e s m args below meth c s₁ B hml hv
  obtain ⟨rfl, hP, hK, hZ⟩ := hv
  have X : cX p s m [cv Φ (some x0), .int x1].toArray meth c cX10_hasTree 3 (some .boolean) RX10 D Φ := cX_of B hml hK hZ
  have hx := X.1
  have hb := X.2.1
  have hown := X.2.2.2.1
  have hts := X.2.2.2.2.1
  have hl := lv_entry [cv Φ (some x0), .int x1] (n := 3) (by simp only [lgs_r, lgs_i, lgs_l, lgs_0, List.length]; exact Nat.le_of_ble_eq_true rfl)
  rw [lg_entry_eq]
  generalize (lg_sl [cv Φ (some x0), .int x1] ++ List.replicate (3 - (lg_sl [cv Φ (some x0), .int x1]).length) Slot.unset).toArray = ls at hl ⊢
  simp only [lv_args_r, lv_args_i, lv_args_l, lv_args_0] at hl
  have hl : lv_has ls 3 [(0, cv Φ (some x0)), (1, .int x1)] := hl
  have hS : va_S (cReg Φ) s.heap s.heap [] := va_S.rf
  show cWr p l e 1 21 s m [cv Φ (some x0), .int x1].toArray below meth c (some (.int r)) (F0 m 0 ls [])
  have h : ((rc σ (some x0) 10).bind (fun v1 => (f_X10_at v1 (x1) σ).bind (fun v2 => if x1 = ((-1):Int32) then (f_X10_hasTree_22 x0 σ) else (if v2 = none then (f_X10_hasTree_26 x0 σ) else ((gI σ v2 3 7).bind (fun v3 => if v3 = (0:Int32) then (f_X10_hasTree_26 x0 σ) else (f_X10_hasTree_22 x0 σ))))))) = some r := h
  refine c_aload_n hx hb dX10_hasTree_0 rfl (lv_at hl 0 rfl) ?_
  refine lv_iload_n hx hb dX10_hasTree_1 rfl (lv_at hl 1 rfl) ?_
  obtain ⟨v1, hv1, h⟩ := ob h
  obtain ⟨v2, hv2, h⟩ := ob h
  refine c_cr (c_runV X (K_X10_at l D Φ σ v1 (x1) hv2) hv1 ⟨Nat.le_of_ble_eq_true rfl, by decide⟩ ⟨w_785, ww_X10_at⟩ rfl hy_X10_at rfl ⟨(Nat.le_of_ble_eq_true rfl), (Nat.le_of_ble_eq_true rfl)⟩ hP hS hl.1 (Nat.le_of_ble_eq_true rfl) dX10_hasTree_2 rfl ⟨(Nat.le_of_ble_eq_true rfl), (Nat.le_of_ble_eq_true rfl)⟩) ?_
  refine c_astore_n hx hb dX10_hasTree_5 rfl hl (Nat.le_of_ble_eq_true rfl) (lvKa rfl (lvKi lvK0)) rfl (fun ls (hl : lv_has ls 3 [(2, cv Φ v2), (0, cv Φ (some x0)), (1, .int x1)]) => ?_)
  refine lv_iload_n hx hb dX10_hasTree_6 rfl (lv_at hl 2 rfl) ?_
  refine lv_iconst (v := ((-1):Int32)) hx hb dX10_hasTree_7 (by decide) ?_
  refine lv_icmp_eq (tgt := 22) hx hb dX10_hasTree_8 rfl (fun hc => ?_) (fun hc => ?_)
  · have h := ip hc h
    exact N_X10_hasTree_22 X hP hS (lv_sub hl [] rfl) h
  · have h := ine hc h
    refine c_aload_n hx hb dX10_hasTree_11 rfl (lv_at hl 0 rfl) ?_
    refine c_ifnull (Φ := Φ) (tgt := 26) hx hb dX10_hasTree_12 rfl (fun hc => ?_) (fun hc => ?_)
    · have h := ip hc h
      exact N_X10_hasTree_26 X hP hS (lv_sub hl [] rfl) h
    · have h := ine hc h
      refine c_aload_n hx hb dX10_hasTree_15 rfl (lv_at hl 0 rfl) ?_
      obtain ⟨v3, hv3, h⟩ := ob h
      refine c_gI X hP hv3 (Nat.le_of_ble_eq_true rfl) (Nat.le_of_ble_eq_true rfl) rfl w_249 dX10_hasTree_16 ?_
      refine lv_if_eq (tgt := 26) hx hb dX10_hasTree_19 rfl (fun hc => ?_) (fun hc => ?_)
      · have h := ip hc h
        exact N_X10_hasTree_26 X hP hS (lv_sub hl [] rfl) h
      · have h := ine hc h
        exact N_X10_hasTree_22 X hP hS (lv_sub hl [] rfl) h
theorem ww_X10_hasTree : Cond.instanceMethod yX10_hasTree ∈ BG ∧ Cond.selects (yX10_hasTree).cls yX10_hasTree yX10_hasTree ∈ BG ∧ Cond.initialized (yX10_hasTree).cls ∈ BG ∧ Cond.code yX10_hasTree cX10_hasTree 3 (some .boolean) ∈ BG := ⟨w_1137, w_1138, w_58, w_1139⟩
theorem hy_X10_hasTree : (yX10_hasTree).cls ≠ "java/lang/invoke/MethodHandle" ∧ (yX10_hasTree).cls ≠ "java/lang/invoke/VarHandle" ∧ (parseMethodDescriptor (yX10_hasTree).desc).map (fun d => d.parameters.length) = some 1 := ⟨by decide, by decide, by decide +kernel⟩
def f_X10_addElement_40  (x0 : Nat)  (σ : cS) : Option (Int32 × cS) := (gI σ (some x0) 10 1).bind (fun v1 => some ((v1 - (1:Int32)), σ))
def f_X10_addElement (x0 : Nat) (x1 : Int32) (σ : cS) : Option (Int32 × cS) := (gI σ (some x0) 10 1).bind (fun v1 => if (30:Int32) ≤ v1 then (f_X10_addElement_40 x0 σ) else ((gR σ (some x0) 10 4).bind (fun v2 => (gI σ (some x0) 10 1).bind (fun v3 => (gI (nw σ 3) (some x0) 10 1).bind (fun v4 => (rc (nw σ 3) (some (σ).2) 3).bind (fun v5 => (f_X3_init v5 (v4) (x1) (nw σ 3)).bind (fun v6 => (sR v6 v2 3 v3 (some (σ).2)).bind (fun v7 => (gI v7 (some x0) 10 1).bind (fun v8 => (pI v7 (some x0) 10 1 (v8 + (1:Int32))).bind (fun v9 => f_X10_addElement_40 x0 v9))))))))))
set_option maxRecDepth 20000 in
set_option maxHeartbeats 4000000 in
theorem N_X10_addElement_40 {p : Program} {l : Launch} {e : Env} {s : State} {m : MethodId} {args : Array Value} {below : List Frame} {meth : Method} {c : Code} {D : cD} {Φ : cG} {x0 : Nat}    {σ : cS} {H : Heap} {locs : List Loc} {ls : Array Slot} {q : Int32 × cS} (X : cX p s m args meth c cX10_addElement 2 (some .int) RX10 D Φ) (hP : cP D Φ σ H) (hS : va_S (cReg Φ) s.heap H locs)  (hl : lv_has ls 2 [(0, cv Φ (some x0))]) (h : f_X10_addElement_40  x0  σ = some q) : cWw p l e 3 11 139 65 s m args below meth c D Φ q.2 (some (.int q.1)) H locs 11 139 (F0 m 40 ls []) := by
  have hx := X.1
  have hb := X.2.1
  have hown := X.2.2.2.1
  have hts := X.2.2.2.2.1
  have h : ((gI σ (some x0) 10 1).bind (fun v1 => some ((v1 - (1:Int32)), σ))) = some q := h
  refine c_aload_n hx hb dX10_addElement_40 rfl (lv_at hl 0 rfl) ?_
  obtain ⟨v1, hv1, h⟩ := ob h
  refine c_gI X hP hv1 (Nat.le_of_ble_eq_true rfl) (Nat.le_of_ble_eq_true rfl) rfl w_328 dX10_addElement_41 ?_
  refine lv_iconst (v := (1:Int32)) hx hb dX10_addElement_44 (by decide) ?_
  refine lv_isub hx hb dX10_addElement_45 ?_
  obtain rfl := sj h
  exact c_wi X hP hS (Nat.le_of_ble_eq_true rfl) (Nat.le_of_ble_eq_true rfl) dX10_addElement_46
set_option maxRecDepth 20000 in
set_option maxHeartbeats 4000000 in
theorem K_X10_addElement (l : Launch) (D : cD) (Φ : cG) (σ : cS) (x0 : Nat) (x1 : Int32) {q : Int32 × cS} (h : f_X10_addElement x0 x1 σ = some q) : Met l yX10_addElement (Cond.code yX10_addElement cX10_addElement 2 (some .int) :: BG) (rA 3 11 139 65) (cPc D Φ σ [cv Φ (some x0), .int x1]) (cQw D Φ q.2 (some (.int q.1))) 11 139 (cReg Φ) := by
  refine Met.ofW (cc := cX10_addElement) (maxL := 2) (ret := (some .int)) (by decide) rfl ?_
  intro p e s m args below meth c s₁ B hml hv
  obtain ⟨rfl, hP, hK, hZ⟩ := hv
  have X : cX p s m [cv Φ (some x0), .int x1].toArray meth c cX10_addElement 2 (some .int) RX10 D Φ := cX_of B hml hK hZ
  have hx := X.1
  have hb := X.2.1
  have hown := X.2.2.2.1
  have hts := X.2.2.2.2.1
  have hl := lv_entry [cv Φ (some x0), .int x1] (n := 2) (by simp only [lgs_r, lgs_i, lgs_l, lgs_0, List.length]; exact Nat.le_of_ble_eq_true rfl)
  rw [lg_entry_eq]
  generalize (lg_sl [cv Φ (some x0), .int x1] ++ List.replicate (2 - (lg_sl [cv Φ (some x0), .int x1]).length) Slot.unset).toArray = ls at hl ⊢
  simp only [lv_args_r, lv_args_i, lv_args_l, lv_args_0] at hl
  have hl : lv_has ls 2 [(0, cv Φ (some x0)), (1, .int x1)] := hl
  have hS : va_S (cReg Φ) s.heap s.heap [] := va_S.rf
  show cWw p l e 3 11 139 65 s m [cv Φ (some x0), .int x1].toArray below meth c D Φ q.2 (some (.int q.1)) s.heap [] 0 0 (F0 m 0 ls [])
  have h : ((gI σ (some x0) 10 1).bind (fun v1 => if (30:Int32) ≤ v1 then (f_X10_addElement_40 x0 σ) else ((gR σ (some x0) 10 4).bind (fun v2 => (gI σ (some x0) 10 1).bind (fun v3 => (gI (nw σ 3) (some x0) 10 1).bind (fun v4 => (rc (nw σ 3) (some (σ).2) 3).bind (fun v5 => (f_X3_init v5 (v4) (x1) (nw σ 3)).bind (fun v6 => (sR v6 v2 3 v3 (some (σ).2)).bind (fun v7 => (gI v7 (some x0) 10 1).bind (fun v8 => (pI v7 (some x0) 10 1 (v8 + (1:Int32))).bind (fun v9 => f_X10_addElement_40 x0 v9))))))))))) = some q := h
  refine c_aload_n hx hb dX10_addElement_0 rfl (lv_at hl 0 rfl) ?_
  obtain ⟨v1, hv1, h⟩ := ob h
  refine c_gI X hP hv1 (Nat.le_of_ble_eq_true rfl) (Nat.le_of_ble_eq_true rfl) rfl w_328 dX10_addElement_1 ?_
  refine lv_bipush (v := (30:Int32)) hx hb dX10_addElement_4 (by decide) ?_
  refine lv_icmp_ge (tgt := 40) hx hb dX10_addElement_6 rfl (fun hc => ?_) (fun hc => ?_)
  · have h := ip hc h
    refine W.widen (k := 11) (n := 139) (Nat.le_of_ble_eq_true rfl) (Nat.le_of_ble_eq_true rfl) ?_
    exact N_X10_addElement_40 X hP hS (lv_sub hl [0] rfl) h
  · have h := ine hc h
    refine c_aload_n hx hb dX10_addElement_9 rfl (lv_at hl 0 rfl) ?_
    obtain ⟨v2, hv2, h⟩ := ob h
    refine c_gR X hP hv2 (Nat.le_of_ble_eq_true rfl) (Nat.le_of_ble_eq_true rfl) rfl w_336 dX10_addElement_10 ?_
    refine c_aload_n hx hb dX10_addElement_13 rfl (lv_at hl 0 rfl) ?_
    obtain ⟨v3, hv3, h⟩ := ob h
    refine c_gI X hP hv3 (Nat.le_of_ble_eq_true rfl) (Nat.le_of_ble_eq_true rfl) rfl w_328 dX10_addElement_14 ?_
    refine c_new X hP hS (ci := 3) ⟨Nat.le_of_ble_eq_true rfl, by decide⟩ ⟨w_148, w_149, w_59⟩ (Nat.le_of_ble_eq_true rfl) (Nat.le_of_ble_eq_true rfl) dX10_addElement_17 (fun H hP hS => ?_)
    refine c_dupq hx hb dX10_addElement_20 ?_
    refine c_aload_n hx hb dX10_addElement_21 rfl (lv_at hl 0 rfl) ?_
    obtain ⟨v4, hv4, h⟩ := ob h
    refine c_gI X hP hv4 (Nat.le_of_ble_eq_true rfl) (Nat.le_of_ble_eq_true rfl) rfl w_328 dX10_addElement_22 ?_
    refine lv_iload_n hx hb dX10_addElement_25 rfl (lv_at hl 1 rfl) ?_
    obtain ⟨v5, hv5, h⟩ := ob h
    obtain ⟨v6, hv6, h⟩ := ob h
    refine c_cw (c_runI X (K_X3_init l D Φ (nw σ 3) v5 (v4) (x1) hv6) hv5 (Nat.le_of_ble_eq_true rfl) ⟨w_150, ww_X3_init⟩ rfl rfl hy_X3_init rfl ⟨(Nat.le_of_ble_eq_true rfl), (Nat.le_of_ble_eq_true rfl)⟩ hP hS hl.1 (Nat.le_of_ble_eq_true rfl) dX10_addElement_26 rfl ⟨(Nat.le_of_ble_eq_true rfl), (Nat.le_of_ble_eq_true rfl)⟩) hS (fun H locs hP hS => ?_)
    refine W.eq (g2 := F0 m 29 ls [cv Φ (some (σ).2), .int v3, cv Φ v2]) rfl ?_
    obtain ⟨v7, hv7, h⟩ := ob h
    refine c_astq X hP hS hv7 ⟨Nat.le_of_ble_eq_true rfl, by decide⟩ rfl dX10_addElement_29 (fun H locs hP hS => ?_)
    refine c_aload_n hx hb dX10_addElement_30 rfl (lv_at hl 0 rfl) ?_
    refine c_dupq hx hb dX10_addElement_31 ?_
    obtain ⟨v8, hv8, h⟩ := ob h
    refine c_gI X hP hv8 (Nat.le_of_ble_eq_true rfl) (Nat.le_of_ble_eq_true rfl) rfl w_328 dX10_addElement_32 ?_
    refine lv_iconst (v := (1:Int32)) hx hb dX10_addElement_35 (by decide) ?_
    refine lv_iadd hx hb dX10_addElement_36 ?_
    obtain ⟨v9, hv9, h⟩ := ob h
    refine c_pI X hP hS hv9 (Nat.le_of_ble_eq_true rfl) (Nat.le_of_ble_eq_true rfl) rfl rfl (Or.inl rfl) w_328 dX10_addElement_37 (fun H locs hP hS => ?_)
    exact N_X10_addElement_40 X hP hS (lv_sub hl [0] rfl) h
theorem ww_X10_addElement : Cond.instanceMethod yX10_addElement ∈ BG ∧ Cond.selects (yX10_addElement).cls yX10_addElement yX10_addElement ∈ BG ∧ Cond.initialized (yX10_addElement).cls ∈ BG ∧ Cond.code yX10_addElement cX10_addElement 2 (some .int) ∈ BG := ⟨w_723, w_724, w_58, w_725⟩
theorem hy_X10_addElement : (yX10_addElement).cls ≠ "java/lang/invoke/MethodHandle" ∧ (yX10_addElement).cls ≠ "java/lang/invoke/VarHandle" ∧ (parseMethodDescriptor (yX10_addElement).desc).map (fun d => d.parameters.length) = some 1 := ⟨by decide, by decide, by decide +kernel⟩
def f_X10_countFrom_4  (x0 : Nat) : Nat → Int32 → Option Nat → cS → Option (Int32)
  | 0, _, _, _ => none
  | n + 1, x2, x3, σ => if x3 = none then (some x2) else ((gR σ x3 3 12).bind (fun v1 => f_X10_countFrom_4 x0 n ((x2 + (1:Int32))) (v1) σ))
def f_X10_countFrom (x0 : Nat) (x1 : Option Nat) (σ : cS) : Option (Int32) := f_X10_countFrom_4 x0 4000 ((0:Int32)) (x1) σ
set_option maxRecDepth 20000 in
set_option maxHeartbeats 4000000 in
theorem N_X10_countFrom_4 {p : Program} {l : Launch} {e : Env} {s : State} {m : MethodId} {args : Array Value} {below : List Frame} {meth : Method} {c : Code} {D : cD} {Φ : cG} {x0 : Nat}  {n : Nat} {x2 : Int32} {x3 : Option Nat} {σ : cS} {ls : Array Slot} {r : Int32} (X : cX p s m args meth c cX10_countFrom 4 (some .int) RX10 D Φ) (hP : cP D Φ σ s.heap) (hS : va_S (cReg Φ) s.heap s.heap [])  (hl : lv_has ls 4 [(2, .int x2), (3, cv Φ x3)]) (h : f_X10_countFrom_4  x0 n x2 x3 σ = some r) : cWr p l e 0 0 s m args below meth c (some (.int r)) (F0 m 4 ls []) := by
  have hx := X.1
  have hb := X.2.1
  have hown := X.2.2.2.1
  have hts := X.2.2.2.2.1
  induction n generalizing x2 x3 ls with
  | zero => exact absurd (show none = some r from h) (by simp)
  | succ n ih =>
    have h : (if x3 = none then (some x2) else ((gR σ x3 3 12).bind (fun v1 => f_X10_countFrom_4 x0 n ((x2 + (1:Int32))) (v1) σ))) = some r := h
    refine c_aload_n hx hb dX10_countFrom_4 rfl (lv_at hl 1 rfl) ?_
    refine c_ifnull (Φ := Φ) (tgt := 19) hx hb dX10_countFrom_5 rfl (fun hc => ?_) (fun hc => ?_)
    · have h := ip hc h
      refine lv_iload_n hx hb dX10_countFrom_19 rfl (lv_at hl 0 rfl) ?_
      obtain rfl := sj h
      exact c_ri X dX10_countFrom_20
    · have h := ine hc h
      refine c_iinc (v := (x2 + (1:Int32))) hx hb dX10_countFrom_8 hl (k := 0) rfl rfl (Nat.le_of_ble_eq_true rfl) (lvKa rfl (lvKa rfl lvK0)) rfl (fun ls (hl : lv_has ls 4 [(2, .int (x2 + (1:Int32))), (3, cv Φ x3)]) => ?_)
      refine c_aload_n hx hb dX10_countFrom_11 rfl (lv_at hl 1 rfl) ?_
      obtain ⟨v1, hv1, h⟩ := ob h
      refine c_gR X hP hv1 (Nat.le_of_ble_eq_true rfl) (Nat.le_of_ble_eq_true rfl) rfl w_263 dX10_countFrom_12 ?_
      refine c_astore_n hx hb dX10_countFrom_15 rfl hl (Nat.le_of_ble_eq_true rfl) (lvKi (lvKa rfl lvK0)) rfl (fun ls (hl : lv_has ls 4 [(3, cv Φ v1), (2, .int (x2 + (1:Int32)))]) => ?_)
      refine lv_goto (tgt := 4) hx hb dX10_countFrom_16 rfl ?_
      exact ih (lv_sub hl [1, 0] rfl) h
set_option maxRecDepth 20000 in
set_option maxHeartbeats 4000000 in
theorem K_X10_countFrom (l : Launch) (D : cD) (Φ : cG) (σ : cS) (x0 : Nat) (x1 : Option Nat) {r : Int32} (h : f_X10_countFrom x0 x1 σ = some r) : Met l yX10_countFrom (Cond.code yX10_countFrom cX10_countFrom 4 (some .int) :: BG) (rA 0 0 0 0) (cPc D Φ σ [cv Φ (some x0), cv Φ x1]) (cQr (some (.int r))) 0 0 (fun _ => False) := by
  refine Met.ofW (cc := cX10_countFrom) (maxL := 4) (ret := (some .int)) (by decide) rfl ?_
  intro p e s m args below meth c s₁ B hml hv
  obtain ⟨rfl, hP, hK, hZ⟩ := hv
  have X : cX p s m [cv Φ (some x0), cv Φ x1].toArray meth c cX10_countFrom 4 (some .int) RX10 D Φ := cX_of B hml hK hZ
  have hx := X.1
  have hb := X.2.1
  have hown := X.2.2.2.1
  have hts := X.2.2.2.2.1
  have hl := lv_entry [cv Φ (some x0), cv Φ x1] (n := 4) (by simp only [lgs_r, lgs_i, lgs_l, lgs_0, List.length]; exact Nat.le_of_ble_eq_true rfl)
  rw [lg_entry_eq]
  generalize (lg_sl [cv Φ (some x0), cv Φ x1] ++ List.replicate (4 - (lg_sl [cv Φ (some x0), cv Φ x1]).length) Slot.unset).toArray = ls at hl ⊢
  simp only [lv_args_r, lv_args_i, lv_args_l, lv_args_0] at hl
  have hl : lv_has ls 4 [(0, cv Φ (some x0)), (1, cv Φ x1)] := hl
  have hS : va_S (cReg Φ) s.heap s.heap [] := va_S.rf
  show cWr p l e 0 0 s m [cv Φ (some x0), cv Φ x1].toArray below meth c (some (.int r)) (F0 m 0 ls [])
  have h : (f_X10_countFrom_4 x0 4000 ((0:Int32)) (x1) σ) = some r := h
  refine lv_iconst (v := (0:Int32)) hx hb dX10_countFrom_0 (by decide) ?_
  refine c_istore_n hx hb dX10_countFrom_1 rfl hl (Nat.le_of_ble_eq_true rfl) (lvKa rfl (lvKr lvK0)) rfl (fun ls (hl : lv_has ls 4 [(2, .int (0:Int32)), (0, cv Φ (some x0)), (1, cv Φ x1)]) => ?_)
  refine c_aload_n hx hb dX10_countFrom_2 rfl (lv_at hl 2 rfl) ?_
  refine c_astore_n hx hb dX10_countFrom_3 rfl hl (Nat.le_of_ble_eq_true rfl) (lvKi (lvKa rfl (lvKa rfl lvK0))) rfl (fun ls (hl : lv_has ls 4 [(3, cv Φ x1), (2, .int (0:Int32)), (0, cv Φ (some x0)), (1, cv Φ x1)]) => ?_)
  exact N_X10_countFrom_4 X hP hS (lv_sub hl [1, 0] rfl) h
theorem ww_X10_countFrom : Cond.instanceMethod yX10_countFrom ∈ BG ∧ Cond.selects (yX10_countFrom).cls yX10_countFrom yX10_countFrom ∈ BG ∧ Cond.initialized (yX10_countFrom).cls ∈ BG ∧ Cond.code yX10_countFrom cX10_countFrom 4 (some .int) ∈ BG := ⟨w_759, w_760, w_58, w_761⟩
theorem hy_X10_countFrom : (yX10_countFrom).cls ≠ "java/lang/invoke/MethodHandle" ∧ (yX10_countFrom).cls ≠ "java/lang/invoke/VarHandle" ∧ (parseMethodDescriptor (yX10_countFrom).desc).map (fun d => d.parameters.length) = some 1 := ⟨by decide, by decide, by decide +kernel⟩
def f_X10_mayEnter_41  (x0 : Nat) (y0 : Int32) (σ : cS) : Option (Int32) := rz y0
def f_X10_mayEnter_40  (x0 : Nat)  (σ : cS) : Option (Int32) := f_X10_mayEnter_41 x0 ((0:Int32)) σ
def f_X10_mayEnter_2  (x0 : Nat) : Nat → Option Nat → Option Nat → cS → Option (Int32)
  | 0, _, _, _ => none
  | n + 1, x1, x3, σ => if x3 = none then ((gR σ (some x0) 10 0).bind (fun v1 => if x1 = v1 then (f_X10_mayEnter_40 x0 σ) else ((rc σ x1 3).bind (fun v2 => (f_X3_above v2  σ).bind (fun v3 => if v3 = none then (f_X10_mayEnter_41 x0 ((1:Int32)) σ) else (f_X10_mayEnter_40 x0 σ)))))) else (if x3 = x1 then (rz (0:Int32)) else ((rc σ x3 3).bind (fun v4 => (f_X3_above v4  σ).bind (fun v5 => f_X10_mayEnter_2 x0 n (x1) (v5) σ))))
def f_X10_mayEnter (x0 : Nat) (x1 : Option Nat) (x2 : Option Nat) (σ : cS) : Option (Int32) := f_X10_mayEnter_2 x0 4000 (x1) (x2) σ
set_option maxRecDepth 20000 in
set_option maxHeartbeats 4000000 in
theorem N_X10_mayEnter_41 {p : Program} {l : Launch} {e : Env} {s : State} {m : MethodId} {args : Array Value} {below : List Frame} {meth : Method} {c : Code} {D : cD} {Φ : cG} {x0 : Nat}   {y0 : Int32} {σ : cS} {ls : Array Slot} {r : Int32} (X : cX p s m args meth c cX10_mayEnter 4 (some .boolean) RX10 D Φ) (hP : cP D Φ σ s.heap) (hS : va_S (cReg Φ) s.heap s.heap [])  (hl : lv_has ls 4 []) (h : f_X10_mayEnter_41  x0 y0 σ = some r) : cWr p l e 1 20 s m args below meth c (some (.int r)) (F0 m 41 ls [.int y0]) := by
  have hx := X.1
  have hb := X.2.1
  have hown := X.2.2.2.1
  have hts := X.2.2.2.2.1
  have h : (rz y0) = some r := h
  obtain ⟨hz, rfl⟩ := rz_spec h
  exact c_rz X hz dX10_mayEnter_41
set_option maxRecDepth 20000 in
set_option maxHeartbeats 4000000 in
theorem N_X10_mayEnter_40 {p : Program} {l : Launch} {e : Env} {s : State} {m : MethodId} {args : Array Value} {below : List Frame} {meth : Method} {c : Code} {D : cD} {Φ : cG} {x0 : Nat}    {σ : cS} {ls : Array Slot} {r : Int32} (X : cX p s m args meth c cX10_mayEnter 4 (some .boolean) RX10 D Φ) (hP : cP D Φ σ s.heap) (hS : va_S (cReg Φ) s.heap s.heap [])  (hl : lv_has ls 4 []) (h : f_X10_mayEnter_40  x0  σ = some r) : cWr p l e 1 20 s m args below meth c (some (.int r)) (F0 m 40 ls []) := by
  have hx := X.1
  have hb := X.2.1
  have hown := X.2.2.2.1
  have hts := X.2.2.2.2.1
  have h : (f_X10_mayEnter_41 x0 ((0:Int32)) σ) = some r := h
  refine lv_iconst (v := (0:Int32)) hx hb dX10_mayEnter_40 (by decide) ?_
  exact N_X10_mayEnter_41 X hP hS (lv_sub hl [] rfl) h
set_option maxRecDepth 20000 in
set_option maxHeartbeats 4000000 in
theorem N_X10_mayEnter_2 {p : Program} {l : Launch} {e : Env} {s : State} {m : MethodId} {args : Array Value} {below : List Frame} {meth : Method} {c : Code} {D : cD} {Φ : cG} {x0 : Nat}  {n : Nat} {x1 : Option Nat} {x3 : Option Nat} {σ : cS} {ls : Array Slot} {r : Int32} (X : cX p s m args meth c cX10_mayEnter 4 (some .boolean) RX10 D Φ) (hP : cP D Φ σ s.heap) (hS : va_S (cReg Φ) s.heap s.heap [])  (hl : lv_has ls 4 [(0, cv Φ (some x0)), (1, cv Φ x1), (3, cv Φ x3)]) (h : f_X10_mayEnter_2  x0 n x1 x3 σ = some r) : cWr p l e 1 20 s m args below meth c (some (.int r)) (F0 m 2 ls []) := by
  have hx := X.1
  have hb := X.2.1
  have hown := X.2.2.2.1
  have hts := X.2.2.2.2.1
  induction n generalizing x1 x3 ls with
  | zero => exact absurd (show none = some r from h) (by simp)
  | succ n ih =>
    have h : (if x3 = none then ((gR σ (some x0) 10 0).bind (fun v1 => if x1 = v1 then (f_X10_mayEnter_40 x0 σ) else ((rc σ x1 3).bind (fun v2 => (f_X3_above v2  σ).bind (fun v3 => if v3 = none then (f_X10_mayEnter_41 x0 ((1:Int32)) σ) else (f_X10_mayEnter_40 x0 σ)))))) else (if x3 = x1 then (rz (0:Int32)) else ((rc σ x3 3).bind (fun v4 => (f_X3_above v4  σ).bind (fun v5 => f_X10_mayEnter_2 x0 n (x1) (v5) σ))))) = some r := h
    refine c_aload_n hx hb dX10_mayEnter_2 rfl (lv_at hl 2 rfl) ?_
    refine c_ifnull (Φ := Φ) (tgt := 21) hx hb dX10_mayEnter_3 rfl (fun hc => ?_) (fun hc => ?_)
    · have h := ip hc h
      refine c_aload_n hx hb dX10_mayEnter_21 rfl (lv_at hl 1 rfl) ?_
      refine c_aload_n hx hb dX10_mayEnter_22 rfl (lv_at hl 0 rfl) ?_
      obtain ⟨v1, hv1, h⟩ := ob h
      refine c_gR X hP hv1 (Nat.le_of_ble_eq_true rfl) (Nat.le_of_ble_eq_true rfl) rfl w_326 dX10_mayEnter_23 ?_
      refine c_acmp_eq (tgt := 40) X hP dX10_mayEnter_26 rfl (fun hc => ?_) (fun hc => ?_)
      · have h := ip hc h
        exact N_X10_mayEnter_40 X hP hS (lv_sub hl [] rfl) h
      · have h := ine hc h
        refine c_aload_n hx hb dX10_mayEnter_29 rfl (lv_at hl 1 rfl) ?_
        obtain ⟨v2, hv2, h⟩ := ob h
        obtain ⟨v3, hv3, h⟩ := ob h
        refine c_cr (c_runV X (K_X3_above l D Φ σ v2  hv3) hv2 ⟨Nat.le_of_ble_eq_true rfl, by decide⟩ ⟨w_769, ww_X3_above⟩ rfl hy_X3_above rfl ⟨(Nat.le_of_ble_eq_true rfl), (Nat.le_of_ble_eq_true rfl)⟩ hP hS hl.1 (Nat.le_of_ble_eq_true rfl) dX10_mayEnter_30 rfl ⟨(Nat.le_of_ble_eq_true rfl), (Nat.le_of_ble_eq_true rfl)⟩) ?_
        refine c_ifnonnull (Φ := Φ) (tgt := 40) hx hb dX10_mayEnter_33 rfl (fun hc => ?_) (fun hc => ?_)
        · have h := ine hc h
          exact N_X10_mayEnter_40 X hP hS (lv_sub hl [] rfl) h
        · have h := ip hc h
          refine lv_iconst (v := (1:Int32)) hx hb dX10_mayEnter_36 (by decide) ?_
          refine lv_goto (tgt := 41) hx hb dX10_mayEnter_37 rfl ?_
          exact N_X10_mayEnter_41 X hP hS (lv_sub hl [] rfl) h
    · have h := ine hc h
      refine c_aload_n hx hb dX10_mayEnter_6 rfl (lv_at hl 2 rfl) ?_
      refine c_aload_n hx hb dX10_mayEnter_7 rfl (lv_at hl 1 rfl) ?_
      refine c_acmp_ne (tgt := 13) X hP dX10_mayEnter_8 rfl (fun hc => ?_) (fun hc => ?_)
      · have h := ine hc h
        refine c_aload_n hx hb dX10_mayEnter_13 rfl (lv_at hl 2 rfl) ?_
        obtain ⟨v4, hv4, h⟩ := ob h
        obtain ⟨v5, hv5, h⟩ := ob h
        refine c_cr (c_runV X (K_X3_above l D Φ σ v4  hv5) hv4 ⟨Nat.le_of_ble_eq_true rfl, by decide⟩ ⟨w_769, ww_X3_above⟩ rfl hy_X3_above rfl ⟨(Nat.le_of_ble_eq_true rfl), (Nat.le_of_ble_eq_true rfl)⟩ hP hS hl.1 (Nat.le_of_ble_eq_true rfl) dX10_mayEnter_14 rfl ⟨(Nat.le_of_ble_eq_true rfl), (Nat.le_of_ble_eq_true rfl)⟩) ?_
        refine c_astore_n hx hb dX10_mayEnter_17 rfl hl (Nat.le_of_ble_eq_true rfl) (lvKa rfl (lvKa rfl (lvKa rfl lvK0))) rfl (fun ls (hl : lv_has ls 4 [(3, cv Φ v5), (0, cv Φ (some x0)), (1, cv Φ x1)]) => ?_)
        refine lv_goto (tgt := 2) hx hb dX10_mayEnter_18 rfl ?_
        exact ih (lv_sub hl [1, 2, 0] rfl) h
      · have h := ip hc h
        refine lv_iconst (v := (0:Int32)) hx hb dX10_mayEnter_11 (by decide) ?_
        obtain ⟨hz, rfl⟩ := rz_spec h
        exact c_rz X hz dX10_mayEnter_12
set_option maxRecDepth 20000 in
set_option maxHeartbeats 4000000 in
theorem K_X10_mayEnter (l : Launch) (D : cD) (Φ : cG) (σ : cS) (x0 : Nat) (x1 : Option Nat) (x2 : Option Nat) {r : Int32} (h : f_X10_mayEnter x0 x1 x2 σ = some r) : Met l yX10_mayEnter (Cond.code yX10_mayEnter cX10_mayEnter 4 (some .boolean) :: BG) (rA 1 0 0 20) (cPc D Φ σ [cv Φ (some x0), cv Φ x1, cv Φ x2]) (cQr (some (.int r))) 0 0 (fun _ => False) := by
  refine Met.ofW (cc := cX10_mayEnter) (maxL := 4) (ret := (some .boolean)) (by decide) rfl ?_
  intro p e s m args below meth c s₁ B hml hv
  obtain ⟨rfl, hP, hK, hZ⟩ := hv
  have X : cX p s m [cv Φ (some x0), cv Φ x1, cv Φ x2].toArray meth c cX10_mayEnter 4 (some .boolean) RX10 D Φ := cX_of B hml hK hZ
  have hx := X.1
  have hb := X.2.1
  have hown := X.2.2.2.1
  have hts := X.2.2.2.2.1
  have hl := lv_entry [cv Φ (some x0), cv Φ x1, cv Φ x2] (n := 4) (by simp only [lgs_r, lgs_i, lgs_l, lgs_0, List.length]; exact Nat.le_of_ble_eq_true rfl)
  rw [lg_entry_eq]
  generalize (lg_sl [cv Φ (some x0), cv Φ x1, cv Φ x2] ++ List.replicate (4 - (lg_sl [cv Φ (some x0), cv Φ x1, cv Φ x2]).length) Slot.unset).toArray = ls at hl ⊢
  simp only [lv_args_r, lv_args_i, lv_args_l, lv_args_0] at hl
  have hl : lv_has ls 4 [(0, cv Φ (some x0)), (1, cv Φ x1), (2, cv Φ x2)] := hl
  have hS : va_S (cReg Φ) s.heap s.heap [] := va_S.rf
  show cWr p l e 1 20 s m [cv Φ (some x0), cv Φ x1, cv Φ x2].toArray below meth c (some (.int r)) (F0 m 0 ls [])
  have h : (f_X10_mayEnter_2 x0 4000 (x1) (x2) σ) = some r := h
  refine c_aload_n hx hb dX10_mayEnter_0 rfl (lv_at hl 2 rfl) ?_
  refine c_astore_n hx hb dX10_mayEnter_1 rfl hl (Nat.le_of_ble_eq_true rfl) (lvKa rfl (lvKa rfl (lvKr lvK0))) rfl (fun ls (hl : lv_has ls 4 [(3, cv Φ x2), (0, cv Φ (some x0)), (1, cv Φ x1), (2, cv Φ x2)]) => ?_)
  exact N_X10_mayEnter_2 X hP hS (lv_sub hl [1, 2, 0] rfl) h
theorem ww_X10_mayEnter : Cond.instanceMethod yX10_mayEnter ∈ BG ∧ Cond.selects (yX10_mayEnter).cls yX10_mayEnter yX10_mayEnter ∈ BG ∧ Cond.initialized (yX10_mayEnter).cls ∈ BG ∧ Cond.code yX10_mayEnter cX10_mayEnter 4 (some .boolean) ∈ BG := ⟨w_766, w_767, w_58, w_768⟩
theorem hy_X10_mayEnter : (yX10_mayEnter).cls ≠ "java/lang/invoke/MethodHandle" ∧ (yX10_mayEnter).cls ≠ "java/lang/invoke/VarHandle" ∧ (parseMethodDescriptor (yX10_mayEnter).desc).map (fun d => d.parameters.length) = some 2 := ⟨by decide, by decide, by decide +kernel⟩
def f_X10_link_54  (x0 : Nat)  (σ : cS) : Option (cS) := some σ
def f_X10_link_9  (x0 : Nat) (x1 : Option Nat) (x2 : Option Nat) (x3 : Option Nat) (σ : cS) : Option (cS) := if x2 = none then ((gR σ x1 3 8).bind (fun v1 => if v1 = none then ((gR σ x1 3 9).bind (fun v2 => if v2 = none then (f_X10_link_54 x0 σ) else ((gR σ x1 3 9).bind (fun v3 => (pR σ v3 3 11 x3).bind (fun v4 => f_X10_link_54 x0 v4))))) else ((gR σ x1 3 8).bind (fun v5 => (pR σ v5 3 10 x3).bind (fun v6 => f_X10_link_54 x0 v6))))) else ((pR σ x2 3 12 x3).bind (fun v7 => f_X10_link_54 x0 v7))
def f_X10_link (x0 : Nat) (x1 : Option Nat) (x2 : Option Nat) (x3 : Option Nat) (σ : cS) : Option (cS) := if x3 = none then (f_X10_link_9 x0 (x1) (x2) (x3) σ) else ((pR σ x3 3 13 x2).bind (fun v1 => f_X10_link_9 x0 (x1) (x2) (x3) v1))
set_option maxRecDepth 20000 in
set_option maxHeartbeats 4000000 in
theorem N_X10_link_54 {p : Program} {l : Launch} {e : Env} {s : State} {m : MethodId} {args : Array Value} {below : List Frame} {meth : Method} {c : Code} {D : cD} {Φ : cG} {x0 : Nat}    {σ : cS} {H : Heap} {locs : List Loc} {ls : Array Slot} {q : cS} (X : cX p s m args meth c cX10_link 4 none RX10 D Φ) (hP : cP D Φ σ H) (hS : va_S (cReg Φ) s.heap H locs)  (hl : lv_has ls 4 []) (h : f_X10_link_54  x0  σ = some q) : cWw p l e 0 0 0 0 s m args below meth c D Φ q none H locs 0 0 (F0 m 54 ls []) := by
  have hx := X.1
  have hb := X.2.1
  have hown := X.2.2.2.1
  have hts := X.2.2.2.2.1
  have h : (some σ) = some q := h
  obtain rfl := sj h
  exact c_wv X hP hS (Nat.le_of_ble_eq_true rfl) (Nat.le_of_ble_eq_true rfl) dX10_link_54
set_option maxRecDepth 20000 in
set_option maxHeartbeats 4000000 in
theorem N_X10_link_9 {p : Program} {l : Launch} {e : Env} {s : State} {m : MethodId} {args : Array Value} {below : List Frame} {meth : Method} {c : Code} {D : cD} {Φ : cG} {x0 : Nat}   {x1 : Option Nat} {x2 : Option Nat} {x3 : Option Nat} {σ : cS} {H : Heap} {locs : List Loc} {ls : Array Slot} {q : cS} (X : cX p s m args meth c cX10_link 4 none RX10 D Φ) (hP : cP D Φ σ H) (hS : va_S (cReg Φ) s.heap H locs)  (hl : lv_has ls 4 [(1, cv Φ x1), (2, cv Φ x2), (3, cv Φ x3)]) (h : f_X10_link_9  x0 x1 x2 x3 σ = some q) : cWw p l e 0 0 0 0 s m args below meth c D Φ q none H locs 0 0 (F0 m 9 ls []) := by
  have hx := X.1
  have hb := X.2.1
  have hown := X.2.2.2.1
  have hts := X.2.2.2.2.1
  have h : (if x2 = none then ((gR σ x1 3 8).bind (fun v1 => if v1 = none then ((gR σ x1 3 9).bind (fun v2 => if v2 = none then (f_X10_link_54 x0 σ) else ((gR σ x1 3 9).bind (fun v3 => (pR σ v3 3 11 x3).bind (fun v4 => f_X10_link_54 x0 v4))))) else ((gR σ x1 3 8).bind (fun v5 => (pR σ v5 3 10 x3).bind (fun v6 => f_X10_link_54 x0 v6))))) else ((pR σ x2 3 12 x3).bind (fun v7 => f_X10_link_54 x0 v7))) = some q := h
  refine c_aload_n hx hb dX10_link_9 rfl (lv_at hl 1 rfl) ?_
  refine c_ifnull (Φ := Φ) (tgt := 21) hx hb dX10_link_10 rfl (fun hc => ?_) (fun hc => ?_)
  · have h := ip hc h
    refine c_aload_n hx hb dX10_link_21 rfl (lv_at hl 0 rfl) ?_
    obtain ⟨v1, hv1, h⟩ := ob h
    refine c_gR X hP hv1 (Nat.le_of_ble_eq_true rfl) (Nat.le_of_ble_eq_true rfl) rfl w_252 dX10_link_22 ?_
    refine c_ifnull (Φ := Φ) (tgt := 39) hx hb dX10_link_25 rfl (fun hc => ?_) (fun hc => ?_)
    · have h := ip hc h
      refine c_aload_n hx hb dX10_link_39 rfl (lv_at hl 0 rfl) ?_
      obtain ⟨v2, hv2, h⟩ := ob h
      refine c_gR X hP hv2 (Nat.le_of_ble_eq_true rfl) (Nat.le_of_ble_eq_true rfl) rfl w_256 dX10_link_40 ?_
      refine c_ifnull (Φ := Φ) (tgt := 54) hx hb dX10_link_43 rfl (fun hc => ?_) (fun hc => ?_)
      · have h := ip hc h
        exact N_X10_link_54 X hP hS (lv_sub hl [] rfl) h
      · have h := ine hc h
        refine c_aload_n hx hb dX10_link_46 rfl (lv_at hl 0 rfl) ?_
        obtain ⟨v3, hv3, h⟩ := ob h
        refine c_gR X hP hv3 (Nat.le_of_ble_eq_true rfl) (Nat.le_of_ble_eq_true rfl) rfl w_256 dX10_link_47 ?_
        refine c_aload_n hx hb dX10_link_50 rfl (lv_at hl 2 rfl) ?_
        obtain ⟨v4, hv4, h⟩ := ob h
        refine c_pR X hP hS hv4 (Nat.le_of_ble_eq_true rfl) (Nat.le_of_ble_eq_true rfl) rfl (Or.inl rfl) w_261 dX10_link_51 (fun H locs hP hS => ?_)
        exact N_X10_link_54 X hP hS (lv_sub hl [] rfl) h
    · have h := ine hc h
      refine c_aload_n hx hb dX10_link_28 rfl (lv_at hl 0 rfl) ?_
      obtain ⟨v5, hv5, h⟩ := ob h
      refine c_gR X hP hv5 (Nat.le_of_ble_eq_true rfl) (Nat.le_of_ble_eq_true rfl) rfl w_252 dX10_link_29 ?_
      refine c_aload_n hx hb dX10_link_32 rfl (lv_at hl 2 rfl) ?_
      obtain ⟨v6, hv6, h⟩ := ob h
      refine c_pR X hP hS hv6 (Nat.le_of_ble_eq_true rfl) (Nat.le_of_ble_eq_true rfl) rfl (Or.inl rfl) w_259 dX10_link_33 (fun H locs hP hS => ?_)
      refine lv_goto (tgt := 54) hx hb dX10_link_36 rfl ?_
      exact N_X10_link_54 X hP hS (lv_sub hl [] rfl) h
  · have h := ine hc h
    refine c_aload_n hx hb dX10_link_13 rfl (lv_at hl 1 rfl) ?_
    refine c_aload_n hx hb dX10_link_14 rfl (lv_at hl 2 rfl) ?_
    obtain ⟨v7, hv7, h⟩ := ob h
    refine c_pR X hP hS hv7 (Nat.le_of_ble_eq_true rfl) (Nat.le_of_ble_eq_true rfl) rfl (Or.inl rfl) w_263 dX10_link_15 (fun H locs hP hS => ?_)
    refine lv_goto (tgt := 54) hx hb dX10_link_18 rfl ?_
    exact N_X10_link_54 X hP hS (lv_sub hl [] rfl) h
set_option maxRecDepth 20000 in
set_option maxHeartbeats 4000000 in
theorem K_X10_link (l : Launch) (D : cD) (Φ : cG) (σ : cS) (x0 : Nat) (x1 : Option Nat) (x2 : Option Nat) (x3 : Option Nat) {q : cS} (h : f_X10_link x0 x1 x2 x3 σ = some q) : Met l yX10_link (Cond.code yX10_link cX10_link 4 none :: BG) (rA 0 0 0 0) (cPc D Φ σ [cv Φ (some x0), cv Φ x1, cv Φ x2, cv Φ x3]) (cQw D Φ q none) 0 0 (cReg Φ) := by
  refine Met.ofW (cc := cX10_link) (maxL := 4) (ret := none) (by decide) rfl ?_
  intro p e s m args below meth c s₁ B hml hv
  obtain ⟨rfl, hP, hK, hZ⟩ := hv
  have X : cX p s m [cv Φ (some x0), cv Φ x1, cv Φ x2, cv Φ x3].toArray meth c cX10_link 4 none RX10 D Φ := cX_of B hml hK hZ
  have hx := X.1
  have hb := X.2.1
  have hown := X.2.2.2.1
  have hts := X.2.2.2.2.1
  have hl := lv_entry [cv Φ (some x0), cv Φ x1, cv Φ x2, cv Φ x3] (n := 4) (by simp only [lgs_r, lgs_i, lgs_l, lgs_0, List.length]; exact Nat.le_of_ble_eq_true rfl)
  rw [lg_entry_eq]
  generalize (lg_sl [cv Φ (some x0), cv Φ x1, cv Φ x2, cv Φ x3] ++ List.replicate (4 - (lg_sl [cv Φ (some x0), cv Φ x1, cv Φ x2, cv Φ x3]).length) Slot.unset).toArray = ls at hl ⊢
  simp only [lv_args_r, lv_args_i, lv_args_l, lv_args_0] at hl
  have hl : lv_has ls 4 [(0, cv Φ (some x0)), (1, cv Φ x1), (2, cv Φ x2), (3, cv Φ x3)] := hl
  have hS : va_S (cReg Φ) s.heap s.heap [] := va_S.rf
  show cWw p l e 0 0 0 0 s m [cv Φ (some x0), cv Φ x1, cv Φ x2, cv Φ x3].toArray below meth c D Φ q none s.heap [] 0 0 (F0 m 0 ls [])
  have h : (if x3 = none then (f_X10_link_9 x0 (x1) (x2) (x3) σ) else ((pR σ x3 3 13 x2).bind (fun v1 => f_X10_link_9 x0 (x1) (x2) (x3) v1))) = some q := h
  refine c_aload_n hx hb dX10_link_0 rfl (lv_at hl 3 rfl) ?_
  refine c_ifnull (Φ := Φ) (tgt := 9) hx hb dX10_link_1 rfl (fun hc => ?_) (fun hc => ?_)
  · have h := ip hc h
    exact N_X10_link_9 X hP hS (lv_sub hl [1, 2, 3] rfl) h
  · have h := ine hc h
    refine c_aload_n hx hb dX10_link_4 rfl (lv_at hl 3 rfl) ?_
    refine c_aload_n hx hb dX10_link_5 rfl (lv_at hl 2 rfl) ?_
    obtain ⟨v1, hv1, h⟩ := ob h
    refine c_pR X hP hS hv1 (Nat.le_of_ble_eq_true rfl) (Nat.le_of_ble_eq_true rfl) rfl (Or.inl rfl) w_264 dX10_link_6 (fun H locs hP hS => ?_)
    exact N_X10_link_9 X hP hS (lv_sub hl [1, 2, 3] rfl) h
theorem ww_X10_link : Cond.instanceMethod yX10_link ∈ BG ∧ Cond.selects (yX10_link).cls yX10_link yX10_link ∈ BG ∧ Cond.initialized (yX10_link).cls ∈ BG ∧ Cond.code yX10_link cX10_link 4 none ∈ BG := ⟨w_779, w_2, w_58, w_780⟩
theorem hy_X10_link : (yX10_link).cls ≠ "java/lang/invoke/MethodHandle" ∧ (yX10_link).cls ≠ "java/lang/invoke/VarHandle" ∧ (parseMethodDescriptor (yX10_link).desc).map (fun d => d.parameters.length) = some 3 := ⟨by decide, by decide, by decide +kernel⟩
def f_X10_placeBehind_4  (x0 : Nat) : Nat → Int32 → Option Nat → cS → Option (Int32)
  | 0, _, _, _ => none
  | n + 1, x2, x3, σ => if x3 = none then (some x2) else ((gR σ x3 3 13).bind (fun v1 => f_X10_placeBehind_4 x0 n ((x2 + (1:Int32))) (v1) σ))
def f_X10_placeBehind (x0 : Nat) (x1 : Option Nat) (σ : cS) : Option (Int32) := f_X10_placeBehind_4 x0 4000 ((1:Int32)) (x1) σ
set_option maxRecDepth 20000 in
set_option maxHeartbeats 4000000 in
theorem N_X10_placeBehind_4 {p : Program} {l : Launch} {e : Env} {s : State} {m : MethodId} {args : Array Value} {below : List Frame} {meth : Method} {c : Code} {D : cD} {Φ : cG} {x0 : Nat}  {n : Nat} {x2 : Int32} {x3 : Option Nat} {σ : cS} {ls : Array Slot} {r : Int32} (X : cX p s m args meth c cX10_placeBehind 4 (some .int) RX10 D Φ) (hP : cP D Φ σ s.heap) (hS : va_S (cReg Φ) s.heap s.heap [])  (hl : lv_has ls 4 [(2, .int x2), (3, cv Φ x3)]) (h : f_X10_placeBehind_4  x0 n x2 x3 σ = some r) : cWr p l e 0 0 s m args below meth c (some (.int r)) (F0 m 4 ls []) := by
  have hx := X.1
  have hb := X.2.1
  have hown := X.2.2.2.1
  have hts := X.2.2.2.2.1
  induction n generalizing x2 x3 ls with
  | zero => exact absurd (show none = some r from h) (by simp)
  | succ n ih =>
    have h : (if x3 = none then (some x2) else ((gR σ x3 3 13).bind (fun v1 => f_X10_placeBehind_4 x0 n ((x2 + (1:Int32))) (v1) σ))) = some r := h
    refine c_aload_n hx hb dX10_placeBehind_4 rfl (lv_at hl 1 rfl) ?_
    refine c_ifnull (Φ := Φ) (tgt := 19) hx hb dX10_placeBehind_5 rfl (fun hc => ?_) (fun hc => ?_)
    · have h := ip hc h
      refine lv_iload_n hx hb dX10_placeBehind_19 rfl (lv_at hl 0 rfl) ?_
      obtain rfl := sj h
      exact c_ri X dX10_placeBehind_20
    · have h := ine hc h
      refine c_iinc (v := (x2 + (1:Int32))) hx hb dX10_placeBehind_8 hl (k := 0) rfl rfl (Nat.le_of_ble_eq_true rfl) (lvKa rfl (lvKa rfl lvK0)) rfl (fun ls (hl : lv_has ls 4 [(2, .int (x2 + (1:Int32))), (3, cv Φ x3)]) => ?_)
      refine c_aload_n hx hb dX10_placeBehind_11 rfl (lv_at hl 1 rfl) ?_
      obtain ⟨v1, hv1, h⟩ := ob h
      refine c_gR X hP hv1 (Nat.le_of_ble_eq_true rfl) (Nat.le_of_ble_eq_true rfl) rfl w_264 dX10_placeBehind_12 ?_
      refine c_astore_n hx hb dX10_placeBehind_15 rfl hl (Nat.le_of_ble_eq_true rfl) (lvKi (lvKa rfl lvK0)) rfl (fun ls (hl : lv_has ls 4 [(3, cv Φ v1), (2, .int (x2 + (1:Int32)))]) => ?_)
      refine lv_goto (tgt := 4) hx hb dX10_placeBehind_16 rfl ?_
      exact ih (lv_sub hl [1, 0] rfl) h
set_option maxRecDepth 20000 in
set_option maxHeartbeats 4000000 in
theorem K_X10_placeBehind (l : Launch) (D : cD) (Φ : cG) (σ : cS) (x0 : Nat) (x1 : Option Nat) {r : Int32} (h : f_X10_placeBehind x0 x1 σ = some r) : Met l yX10_placeBehind (Cond.code yX10_placeBehind cX10_placeBehind 4 (some .int) :: BG) (rA 0 0 0 0) (cPc D Φ σ [cv Φ (some x0), cv Φ x1]) (cQr (some (.int r))) 0 0 (fun _ => False) := by
  refine Met.ofW (cc := cX10_placeBehind) (maxL := 4) (ret := (some .int)) (by decide) rfl ?_
  intro p e s m args below meth c s₁ B hml hv
  obtain ⟨rfl, hP, hK, hZ⟩ := hv
  have X : cX p s m [cv Φ (some x0), cv Φ x1].toArray meth c cX10_placeBehind 4 (some .int) RX10 D Φ := cX_of B hml hK hZ
  have hx := X.1
  have hb := X.2.1
  have hown := X.2.2.2.1
  have hts := X.2.2.2.2.1
  have hl := lv_entry [cv Φ (some x0), cv Φ x1] (n := 4) (by simp only [lgs_r, lgs_i, lgs_l, lgs_0, List.length]; exact Nat.le_of_ble_eq_true rfl)
  rw [lg_entry_eq]
  generalize (lg_sl [cv Φ (some x0), cv Φ x1] ++ List.replicate (4 - (lg_sl [cv Φ (some x0), cv Φ x1]).length) Slot.unset).toArray = ls at hl ⊢
  simp only [lv_args_r, lv_args_i, lv_args_l, lv_args_0] at hl
  have hl : lv_has ls 4 [(0, cv Φ (some x0)), (1, cv Φ x1)] := hl
  have hS : va_S (cReg Φ) s.heap s.heap [] := va_S.rf
  show cWr p l e 0 0 s m [cv Φ (some x0), cv Φ x1].toArray below meth c (some (.int r)) (F0 m 0 ls [])
  have h : (f_X10_placeBehind_4 x0 4000 ((1:Int32)) (x1) σ) = some r := h
  refine lv_iconst (v := (1:Int32)) hx hb dX10_placeBehind_0 (by decide) ?_
  refine c_istore_n hx hb dX10_placeBehind_1 rfl hl (Nat.le_of_ble_eq_true rfl) (lvKa rfl (lvKr lvK0)) rfl (fun ls (hl : lv_has ls 4 [(2, .int (1:Int32)), (0, cv Φ (some x0)), (1, cv Φ x1)]) => ?_)
  refine c_aload_n hx hb dX10_placeBehind_2 rfl (lv_at hl 2 rfl) ?_
  refine c_astore_n hx hb dX10_placeBehind_3 rfl hl (Nat.le_of_ble_eq_true rfl) (lvKi (lvKa rfl (lvKa rfl lvK0))) rfl (fun ls (hl : lv_has ls 4 [(3, cv Φ x1), (2, .int (1:Int32)), (0, cv Φ (some x0)), (1, cv Φ x1)]) => ?_)
  exact N_X10_placeBehind_4 X hP hS (lv_sub hl [1, 0] rfl) h
theorem ww_X10_placeBehind : Cond.instanceMethod yX10_placeBehind ∈ BG ∧ Cond.selects (yX10_placeBehind).cls yX10_placeBehind yX10_placeBehind ∈ BG ∧ Cond.initialized (yX10_placeBehind).cls ∈ BG ∧ Cond.code yX10_placeBehind cX10_placeBehind 4 (some .int) ∈ BG := ⟨w_792, w_4, w_58, w_793⟩
theorem hy_X10_placeBehind : (yX10_placeBehind).cls ≠ "java/lang/invoke/MethodHandle" ∧ (yX10_placeBehind).cls ≠ "java/lang/invoke/VarHandle" ∧ (parseMethodDescriptor (yX10_placeBehind).desc).map (fun d => d.parameters.length) = some 1 := ⟨by decide, by decide, by decide +kernel⟩
def f_X10_topOf_4  (x0 : Nat) : Nat → Option Nat → Option Nat → cS → Option (Option Nat)
  | 0, _, _, _ => none
  | n + 1, x2, x3, σ => if x3 = none then (some x2) else ((gR σ x3 3 8).bind (fun v1 => f_X10_topOf_4 x0 n (x3) (v1) σ))
def f_X10_topOf (x0 : Nat) (x1 : Option Nat) (σ : cS) : Option (Option Nat) := f_X10_topOf_4 x0 4000 (x1) (x1) σ
set_option maxRecDepth 20000 in
set_option maxHeartbeats 4000000 in
theorem N_X10_topOf_4 {p : Program} {l : Launch} {e : Env} {s : State} {m : MethodId} {args : Array Value} {below : List Frame} {meth : Method} {c : Code} {D : cD} {Φ : cG} {x0 : Nat}  {n : Nat} {x2 : Option Nat} {x3 : Option Nat} {σ : cS} {ls : Array Slot} {r : Option Nat} (X : cX p s m args meth c cX10_topOf 4 (some (.object "Cascadery$Element")) RX10 D Φ) (hP : cP D Φ σ s.heap) (hS : va_S (cReg Φ) s.heap s.heap [])  (hl : lv_has ls 4 [(2, cv Φ x2), (3, cv Φ x3)]) (h : f_X10_topOf_4  x0 n x2 x3 σ = some r) : cWr p l e 0 0 s m args below meth c (some (cv Φ r)) (F0 m 4 ls []) := by
  have hx := X.1
  have hb := X.2.1
  have hown := X.2.2.2.1
  have hts := X.2.2.2.2.1
  induction n generalizing x2 x3 ls with
  | zero => exact absurd (show none = some r from h) (by simp)
  | succ n ih =>
    have h : (if x3 = none then (some x2) else ((gR σ x3 3 8).bind (fun v1 => f_X10_topOf_4 x0 n (x3) (v1) σ))) = some r := h
    refine c_aload_n hx hb dX10_topOf_4 rfl (lv_at hl 1 rfl) ?_
    refine c_ifnull (Φ := Φ) (tgt := 18) hx hb dX10_topOf_5 rfl (fun hc => ?_) (fun hc => ?_)
    · have h := ip hc h
      refine c_aload_n hx hb dX10_topOf_18 rfl (lv_at hl 0 rfl) ?_
      obtain rfl := sj h
      exact c_ra X dX10_topOf_19
    · have h := ine hc h
      refine c_aload_n hx hb dX10_topOf_8 rfl (lv_at hl 1 rfl) ?_
      refine c_astore_n hx hb dX10_topOf_9 rfl hl (Nat.le_of_ble_eq_true rfl) (lvKa rfl (lvKa rfl lvK0)) rfl (fun ls (hl : lv_has ls 4 [(2, cv Φ x3), (3, cv Φ x3)]) => ?_)
      refine c_aload_n hx hb dX10_topOf_10 rfl (lv_at hl 1 rfl) ?_
      obtain ⟨v1, hv1, h⟩ := ob h
      refine c_gR X hP hv1 (Nat.le_of_ble_eq_true rfl) (Nat.le_of_ble_eq_true rfl) rfl w_252 dX10_topOf_11 ?_
      refine c_astore_n hx hb dX10_topOf_14 rfl hl (Nat.le_of_ble_eq_true rfl) (lvKr (lvKa rfl lvK0)) rfl (fun ls (hl : lv_has ls 4 [(3, cv Φ v1), (2, cv Φ x3)]) => ?_)
      refine lv_goto (tgt := 4) hx hb dX10_topOf_15 rfl ?_
      exact ih (lv_sub hl [1, 0] rfl) h
set_option maxRecDepth 20000 in
set_option maxHeartbeats 4000000 in
theorem K_X10_topOf (l : Launch) (D : cD) (Φ : cG) (σ : cS) (x0 : Nat) (x1 : Option Nat) {r : Option Nat} (h : f_X10_topOf x0 x1 σ = some r) : Met l yX10_topOf (Cond.code yX10_topOf cX10_topOf 4 (some (.object "Cascadery$Element")) :: BG) (rA 0 0 0 0) (cPc D Φ σ [cv Φ (some x0), cv Φ x1]) (cQr (some (cv Φ r))) 0 0 (fun _ => False) := by
  refine Met.ofW (cc := cX10_topOf) (maxL := 4) (ret := (some (.object "Cascadery$Element"))) (by decide) rfl ?_
  intro p e s m args below meth c s₁ B hml hv
  obtain ⟨rfl, hP, hK, hZ⟩ := hv
  have X : cX p s m [cv Φ (some x0), cv Φ x1].toArray meth c cX10_topOf 4 (some (.object "Cascadery$Element")) RX10 D Φ := cX_of B hml hK hZ
  have hx := X.1
  have hb := X.2.1
  have hown := X.2.2.2.1
  have hts := X.2.2.2.2.1
  have hl := lv_entry [cv Φ (some x0), cv Φ x1] (n := 4) (by simp only [lgs_r, lgs_i, lgs_l, lgs_0, List.length]; exact Nat.le_of_ble_eq_true rfl)
  rw [lg_entry_eq]
  generalize (lg_sl [cv Φ (some x0), cv Φ x1] ++ List.replicate (4 - (lg_sl [cv Φ (some x0), cv Φ x1]).length) Slot.unset).toArray = ls at hl ⊢
  simp only [lv_args_r, lv_args_i, lv_args_l, lv_args_0] at hl
  have hl : lv_has ls 4 [(0, cv Φ (some x0)), (1, cv Φ x1)] := hl
  have hS : va_S (cReg Φ) s.heap s.heap [] := va_S.rf
  show cWr p l e 0 0 s m [cv Φ (some x0), cv Φ x1].toArray below meth c (some (cv Φ r)) (F0 m 0 ls [])
  have h : (f_X10_topOf_4 x0 4000 (x1) (x1) σ) = some r := h
  refine c_aload_n hx hb dX10_topOf_0 rfl (lv_at hl 1 rfl) ?_
  refine c_astore_n hx hb dX10_topOf_1 rfl hl (Nat.le_of_ble_eq_true rfl) (lvKa rfl (lvKr lvK0)) rfl (fun ls (hl : lv_has ls 4 [(2, cv Φ x1), (0, cv Φ (some x0)), (1, cv Φ x1)]) => ?_)
  refine c_aload_n hx hb dX10_topOf_2 rfl (lv_at hl 2 rfl) ?_
  refine c_astore_n hx hb dX10_topOf_3 rfl hl (Nat.le_of_ble_eq_true rfl) (lvKr (lvKa rfl (lvKa rfl lvK0))) rfl (fun ls (hl : lv_has ls 4 [(3, cv Φ x1), (2, cv Φ x1), (0, cv Φ (some x0)), (1, cv Φ x1)]) => ?_)
  exact N_X10_topOf_4 X hP hS (lv_sub hl [1, 0] rfl) h
theorem ww_X10_topOf : Cond.instanceMethod yX10_topOf ∈ BG ∧ Cond.selects (yX10_topOf).cls yX10_topOf yX10_topOf ∈ BG ∧ Cond.initialized (yX10_topOf).cls ∈ BG ∧ Cond.code yX10_topOf cX10_topOf 4 (some (.object "Cascadery$Element")) ∈ BG := ⟨w_796, w_5, w_58, w_797⟩
theorem hy_X10_topOf : (yX10_topOf).cls ≠ "java/lang/invoke/MethodHandle" ∧ (yX10_topOf).cls ≠ "java/lang/invoke/VarHandle" ∧ (parseMethodDescriptor (yX10_topOf).desc).map (fun d => d.parameters.length) = some 1 := ⟨by decide, by decide, by decide +kernel⟩
def f_X10_settle_110  (x0 : Nat)  (σ : cS) : Option (cS) := some σ
def f_X10_settle_45  (x0 : Nat) : Nat → Option Nat → Int32 → Option Nat → Option Nat → cS → Option (cS)
  | 0, _, _, _, _, _ => none
  | n + 1, x1, x2, x3, x4, σ => if x4 = none then ((gR σ x1 3 18).bind (fun v1 => (pI σ v1 6 12 x2).bind (fun v2 => (gR v2 (some x0) 10 0).bind (fun v3 => if x3 = v3 then ((gI v2 (some x0) 10 2).bind (fun v7 => (gI v2 x1 3 0).bind (fun v8 => (pI v2 (some x0) 10 2 (v7 ||| ((1:Int32) <<< (v8 &&& 31)))).bind (fun v9 => f_X10_settle_110 x0 v9)))) else ((gR v2 x1 3 19).bind (fun v4 => (rc v2 v4 9).bind (fun v5 => (f_X9_forget v5  v2).bind (fun v6 => f_X10_settle_110 x0 v6)))))))) else ((rc σ (some x0) 10).bind (fun v10 => (f_X10_topOf v10 (x4) σ).bind (fun v11 => (gR σ v11 3 9).bind (fun v12 => f_X10_settle_45 x0 n (x1) ((x2 + (1:Int32))) (v11) (v12) σ))))
def f_X10_settle_20  (x0 : Nat) (x1 : Option Nat) (y0 : Option Nat) (y1 : Int32) (σ : cS) : Option (cS) := (pI σ y0 3 14 y1).bind (fun v1 => (rc v1 (some x0) 10).bind (fun v2 => (f_X10_topOf v2 (x1) v1).bind (fun v3 => (gR v1 v3 3 9).bind (fun v4 => (pR v1 x1 3 15 v4).bind (fun v5 => (gR v5 v3 3 9).bind (fun v6 => f_X10_settle_45 x0 4000 (x1) ((0:Int32)) (v3) (v6) v5))))))
def f_X10_settle (x0 : Nat) (x1 : Option Nat) (σ : cS) : Option (cS) := (gR σ x1 3 13).bind (fun v1 => if v1 = none then (f_X10_settle_20 x0 (x1) (x1) ((1:Int32)) σ) else ((gR σ x1 3 13).bind (fun v2 => (rc σ (some x0) 10).bind (fun v3 => (f_X10_placeBehind v3 (v2) σ).bind (fun v4 => f_X10_settle_20 x0 (x1) (x1) (v4) σ)))))
set_option maxRecDepth 20000 in
set_option maxHeartbeats 4000000 in
theorem N_X10_settle_110 {p : Program} {l : Launch} {e : Env} {s : State} {m : MethodId} {args : Array Value} {below : List Frame} {meth : Method} {c : Code} {D : cD} {Φ : cG} {x0 : Nat}    {σ : cS} {H : Heap} {locs : List Loc} {ls : Array Slot} {q : cS} (X : cX p s m args meth c cX10_settle 5 none RX10 D Φ) (hP : cP D Φ σ H) (hS : va_S (cReg Φ) s.heap H locs)  (hl : lv_has ls 5 []) (h : f_X10_settle_110  x0  σ = some q) : cWw p l e 1 0 0 23 s m args below meth c D Φ q none H locs 0 0 (F0 m 110 ls []) := by
  have hx := X.1
  have hb := X.2.1
  have hown := X.2.2.2.1
  have hts := X.2.2.2.2.1
  have h : (some σ) = some q := h
  obtain rfl := sj h
  exact c_wv X hP hS (Nat.le_of_ble_eq_true rfl) (Nat.le_of_ble_eq_true rfl) dX10_settle_110
set_option maxRecDepth 20000 in
set_option maxHeartbeats 4000000 in
theorem N_X10_settle_45 {p : Program} {l : Launch} {e : Env} {s : State} {m : MethodId} {args : Array Value} {below : List Frame} {meth : Method} {c : Code} {D : cD} {Φ : cG} {x0 : Nat}  {n : Nat} {x1 : Option Nat} {x2 : Int32} {x3 : Option Nat} {x4 : Option Nat} {σ : cS} {H : Heap} {locs : List Loc} {ls : Array Slot} {q : cS} (X : cX p s m args meth c cX10_settle 5 none RX10 D Φ) (hP : cP D Φ σ H) (hS : va_S (cReg Φ) s.heap H locs)  (hl : lv_has ls 5 [(0, cv Φ (some x0)), (1, cv Φ x1), (2, .int x2), (3, cv Φ x3), (4, cv Φ x4)]) (h : f_X10_settle_45  x0 n x1 x2 x3 x4 σ = some q) : cWw p l e 1 0 0 23 s m args below meth c D Φ q none H locs 0 0 (F0 m 45 ls []) := by
  have hx := X.1
  have hb := X.2.1
  have hown := X.2.2.2.1
  have hts := X.2.2.2.2.1
  induction n generalizing x1 x2 x3 x4 σ H locs ls with
  | zero => exact absurd (show none = some q from h) (by simp)
  | succ n ih =>
    have h : (if x4 = none then ((gR σ x1 3 18).bind (fun v1 => (pI σ v1 6 12 x2).bind (fun v2 => (gR v2 (some x0) 10 0).bind (fun v3 => if x3 = v3 then ((gI v2 (some x0) 10 2).bind (fun v7 => (gI v2 x1 3 0).bind (fun v8 => (pI v2 (some x0) 10 2 (v7 ||| ((1:Int32) <<< (v8 &&& 31)))).bind (fun v9 => f_X10_settle_110 x0 v9)))) else ((gR v2 x1 3 19).bind (fun v4 => (rc v2 v4 9).bind (fun v5 => (f_X9_forget v5  v2).bind (fun v6 => f_X10_settle_110 x0 v6)))))))) else ((rc σ (some x0) 10).bind (fun v10 => (f_X10_topOf v10 (x4) σ).bind (fun v11 => (gR σ v11 3 9).bind (fun v12 => f_X10_settle_45 x0 n (x1) ((x2 + (1:Int32))) (v11) (v12) σ))))) = some q := h
    refine c_aload hx hb dX10_settle_45 (lv_at hl 4 rfl) ?_
    refine c_ifnull (Φ := Φ) (tgt := 69) hx hb dX10_settle_47 rfl (fun hc => ?_) (fun hc => ?_)
    · have h := ip hc h
      refine c_aload_n hx hb dX10_settle_69 rfl (lv_at hl 1 rfl) ?_
      obtain ⟨v1, hv1, h⟩ := ob h
      refine c_gR X hP hv1 (Nat.le_of_ble_eq_true rfl) (Nat.le_of_ble_eq_true rfl) rfl w_279 dX10_settle_70 ?_
      refine lv_iload_n hx hb dX10_settle_73 rfl (lv_at hl 2 rfl) ?_
      obtain ⟨v2, hv2, h⟩ := ob h
      refine c_pI X hP hS hv2 (Nat.le_of_ble_eq_true rfl) (Nat.le_of_ble_eq_true rfl) rfl rfl (Or.inl rfl) w_188 dX10_settle_74 (fun H locs hP hS => ?_)
      refine c_aload_n hx hb dX10_settle_77 rfl (lv_at hl 3 rfl) ?_
      refine c_aload_n hx hb dX10_settle_78 rfl (lv_at hl 0 rfl) ?_
      obtain ⟨v3, hv3, h⟩ := ob h
      refine c_gR X hP hv3 (Nat.le_of_ble_eq_true rfl) (Nat.le_of_ble_eq_true rfl) rfl w_326 dX10_settle_79 ?_
      refine c_acmp_ne (tgt := 103) X hP dX10_settle_82 rfl (fun hc => ?_) (fun hc => ?_)
      · have h := ine hc h
        refine c_aload_n hx hb dX10_settle_103 rfl (lv_at hl 1 rfl) ?_
        obtain ⟨v4, hv4, h⟩ := ob h
        refine c_gR X hP hv4 (Nat.le_of_ble_eq_true rfl) (Nat.le_of_ble_eq_true rfl) rfl w_282 dX10_settle_104 ?_
        obtain ⟨v5, hv5, h⟩ := ob h
        obtain ⟨v6, hv6, h⟩ := ob h
        refine c_cw (c_runV X (K_X9_forget l D Φ v2 v5  hv6) hv5 ⟨Nat.le_of_ble_eq_true rfl, by decide⟩ ⟨w_798, ww_X9_forget⟩ rfl hy_X9_forget rfl ⟨(Nat.le_of_ble_eq_true rfl), (Nat.le_of_ble_eq_true rfl)⟩ hP hS hl.1 (Nat.le_of_ble_eq_true rfl) dX10_settle_107 rfl ⟨(Nat.le_of_ble_eq_true rfl), (Nat.le_of_ble_eq_true rfl)⟩) hS (fun H locs hP hS => ?_)
        refine W.eq (g2 := F0 m 110 ls []) rfl ?_
        exact N_X10_settle_110 X hP hS (lv_sub hl [] rfl) h
      · have h := ip hc h
        refine c_aload_n hx hb dX10_settle_85 rfl (lv_at hl 0 rfl) ?_
        refine c_dupq hx hb dX10_settle_86 ?_
        obtain ⟨v7, hv7, h⟩ := ob h
        refine c_gI X hP hv7 (Nat.le_of_ble_eq_true rfl) (Nat.le_of_ble_eq_true rfl) rfl w_331 dX10_settle_87 ?_
        refine lv_iconst (v := (1:Int32)) hx hb dX10_settle_90 (by decide) ?_
        refine c_aload_n hx hb dX10_settle_91 rfl (lv_at hl 1 rfl) ?_
        obtain ⟨v8, hv8, h⟩ := ob h
        refine c_gI X hP hv8 (Nat.le_of_ble_eq_true rfl) (Nat.le_of_ble_eq_true rfl) rfl w_225 dX10_settle_92 ?_
        refine lv_ishl hx hb dX10_settle_95 ?_
        refine lv_ior hx hb dX10_settle_96 ?_
        obtain ⟨v9, hv9, h⟩ := ob h
        refine c_pI X hP hS hv9 (Nat.le_of_ble_eq_true rfl) (Nat.le_of_ble_eq_true rfl) rfl rfl (Or.inl rfl) w_331 dX10_settle_97 (fun H locs hP hS => ?_)
        refine lv_goto (tgt := 110) hx hb dX10_settle_100 rfl ?_
        exact N_X10_settle_110 X hP hS (lv_sub hl [] rfl) h
    · have h := ine hc h
      refine c_iinc (v := (x2 + (1:Int32))) hx hb dX10_settle_50 hl (k := 2) rfl rfl (Nat.le_of_ble_eq_true rfl) (lvKa rfl (lvKr (lvKa rfl (lvKa rfl (lvKa rfl lvK0))))) rfl (fun ls (hl : lv_has ls 5 [(2, .int (x2 + (1:Int32))), (0, cv Φ (some x0)), (1, cv Φ x1), (3, cv Φ x3), (4, cv Φ x4)]) => ?_)
      refine c_aload_n hx hb dX10_settle_53 rfl (lv_at hl 1 rfl) ?_
      refine c_aload hx hb dX10_settle_54 (lv_at hl 4 rfl) ?_
      obtain ⟨v10, hv10, h⟩ := ob h
      obtain ⟨v11, hv11, h⟩ := ob h
      refine c_cr (c_runV X (K_X10_topOf l D Φ σ v10 (x4) hv11) hv10 ⟨Nat.le_of_ble_eq_true rfl, by decide⟩ ⟨w_794, ww_X10_topOf⟩ rfl hy_X10_topOf rfl ⟨(Nat.le_of_ble_eq_true rfl), (Nat.le_of_ble_eq_true rfl)⟩ hP hS hl.1 (Nat.le_of_ble_eq_true rfl) dX10_settle_56 rfl ⟨(Nat.le_of_ble_eq_true rfl), (Nat.le_of_ble_eq_true rfl)⟩) ?_
      refine c_astore_n hx hb dX10_settle_59 rfl hl (Nat.le_of_ble_eq_true rfl) (lvKi (lvKa rfl (lvKa rfl (lvKa rfl (lvKa rfl lvK0))))) rfl (fun ls (hl : lv_has ls 5 [(3, cv Φ v11), (2, .int (x2 + (1:Int32))), (0, cv Φ (some x0)), (1, cv Φ x1), (4, cv Φ x4)]) => ?_)
      refine c_aload_n hx hb dX10_settle_60 rfl (lv_at hl 0 rfl) ?_
      obtain ⟨v12, hv12, h⟩ := ob h
      refine c_gR X hP hv12 (Nat.le_of_ble_eq_true rfl) (Nat.le_of_ble_eq_true rfl) rfl w_256 dX10_settle_61 ?_
      refine c_astore hx hb dX10_settle_64 hl (Nat.le_of_ble_eq_true rfl) (lvKr (lvKa rfl (lvKa rfl (lvKa rfl (lvKa rfl lvK0))))) rfl (fun ls (hl : lv_has ls 5 [(4, cv Φ v12), (3, cv Φ v11), (2, .int (x2 + (1:Int32))), (0, cv Φ (some x0)), (1, cv Φ x1)]) => ?_)
      refine lv_goto (tgt := 45) hx hb dX10_settle_66 rfl ?_
      exact ih hP hS (lv_sub hl [3, 4, 2, 1, 0] rfl) h
set_option maxRecDepth 20000 in
set_option maxHeartbeats 4000000 in
theorem N_X10_settle_20 {p : Program} {l : Launch} {e : Env} {s : State} {m : MethodId} {args : Array Value} {below : List Frame} {meth : Method} {c : Code} {D : cD} {Φ : cG} {x0 : Nat}   {x1 : Option Nat} {y0 : Option Nat} {y1 : Int32} {σ : cS} {H : Heap} {locs : List Loc} {ls : Array Slot} {q : cS} (X : cX p s m args meth c cX10_settle 5 none RX10 D Φ) (hP : cP D Φ σ H) (hS : va_S (cReg Φ) s.heap H locs)  (hl : lv_has ls 5 [(0, cv Φ (some x0)), (1, cv Φ x1)]) (h : f_X10_settle_20  x0 x1 y0 y1 σ = some q) : cWw p l e 1 0 0 23 s m args below meth c D Φ q none H locs 0 0 (F0 m 20 ls [.int y1, cv Φ y0]) := by
  have hx := X.1
  have hb := X.2.1
  have hown := X.2.2.2.1
  have hts := X.2.2.2.2.1
  have h : ((pI σ y0 3 14 y1).bind (fun v1 => (rc v1 (some x0) 10).bind (fun v2 => (f_X10_topOf v2 (x1) v1).bind (fun v3 => (gR v1 v3 3 9).bind (fun v4 => (pR v1 x1 3 15 v4).bind (fun v5 => (gR v5 v3 3 9).bind (fun v6 => f_X10_settle_45 x0 4000 (x1) ((0:Int32)) (v3) (v6) v5))))))) = some q := h
  obtain ⟨v1, hv1, h⟩ := ob h
  refine c_pI X hP hS hv1 (Nat.le_of_ble_eq_true rfl) (Nat.le_of_ble_eq_true rfl) rfl rfl (Or.inl rfl) w_269 dX10_settle_20 (fun H locs hP hS => ?_)
  refine lv_iconst (v := (0:Int32)) hx hb dX10_settle_23 (by decide) ?_
  refine c_istore_n hx hb dX10_settle_24 rfl hl (Nat.le_of_ble_eq_true rfl) (lvKa rfl (lvKr lvK0)) rfl (fun ls (hl : lv_has ls 5 [(2, .int (0:Int32)), (0, cv Φ (some x0)), (1, cv Φ x1)]) => ?_)
  refine c_aload_n hx hb dX10_settle_25 rfl (lv_at hl 1 rfl) ?_
  refine c_aload_n hx hb dX10_settle_26 rfl (lv_at hl 2 rfl) ?_
  obtain ⟨v2, hv2, h⟩ := ob h
  obtain ⟨v3, hv3, h⟩ := ob h
  refine c_cr (c_runV X (K_X10_topOf l D Φ v1 v2 (x1) hv3) hv2 ⟨Nat.le_of_ble_eq_true rfl, by decide⟩ ⟨w_794, ww_X10_topOf⟩ rfl hy_X10_topOf rfl ⟨(Nat.le_of_ble_eq_true rfl), (Nat.le_of_ble_eq_true rfl)⟩ hP hS hl.1 (Nat.le_of_ble_eq_true rfl) dX10_settle_27 rfl ⟨(Nat.le_of_ble_eq_true rfl), (Nat.le_of_ble_eq_true rfl)⟩) ?_
  refine c_astore_n hx hb dX10_settle_30 rfl hl (Nat.le_of_ble_eq_true rfl) (lvKi (lvKa rfl (lvKa rfl lvK0))) rfl (fun ls (hl : lv_has ls 5 [(3, cv Φ v3), (2, .int (0:Int32)), (0, cv Φ (some x0)), (1, cv Φ x1)]) => ?_)
  refine c_aload_n hx hb dX10_settle_31 rfl (lv_at hl 3 rfl) ?_
  refine c_aload_n hx hb dX10_settle_32 rfl (lv_at hl 0 rfl) ?_
  obtain ⟨v4, hv4, h⟩ := ob h
  refine c_gR X hP hv4 (Nat.le_of_ble_eq_true rfl) (Nat.le_of_ble_eq_true rfl) rfl w_256 dX10_settle_33 ?_
  obtain ⟨v5, hv5, h⟩ := ob h
  refine c_pR X hP hS hv5 (Nat.le_of_ble_eq_true rfl) (Nat.le_of_ble_eq_true rfl) rfl (Or.inl rfl) w_271 dX10_settle_36 (fun H locs hP hS => ?_)
  refine c_aload_n hx hb dX10_settle_39 rfl (lv_at hl 0 rfl) ?_
  obtain ⟨v6, hv6, h⟩ := ob h
  refine c_gR X hP hv6 (Nat.le_of_ble_eq_true rfl) (Nat.le_of_ble_eq_true rfl) rfl w_256 dX10_settle_40 ?_
  refine c_astore hx hb dX10_settle_43 hl (Nat.le_of_ble_eq_true rfl) (lvKr (lvKa rfl (lvKa rfl (lvKa rfl lvK0)))) rfl (fun ls (hl : lv_has ls 5 [(4, cv Φ v6), (3, cv Φ v3), (2, .int (0:Int32)), (0, cv Φ (some x0)), (1, cv Φ x1)]) => ?_)
  exact N_X10_settle_45 X hP hS (lv_sub hl [3, 4, 2, 1, 0] rfl) h
set_option maxRecDepth 20000 in
set_option maxHeartbeats 4000000 in
theorem K_X10_settle (l : Launch) (D : cD) (Φ : cG) (σ : cS) (x0 : Nat) (x1 : Option Nat) {q : cS} (h : f_X10_settle x0 x1 σ = some q) : Met l yX10_settle (Cond.code yX10_settle cX10_settle 5 none :: BG) (rA 1 0 0 23) (cPc D Φ σ [cv Φ (some x0), cv Φ x1]) (cQw D Φ q none) 0 0 (cReg Φ) := by
  refine Met.ofW (cc := cX10_settle) (maxL := 5) (ret := none) (by decide) rfl ?_
  intro p e s m args below meth c s₁ B hml hv
  obtain ⟨rfl, hP, hK, hZ⟩ := hv
  have X : cX p s m [cv Φ (some x0), cv Φ x1].toArray meth c cX10_settle 5 none RX10 D Φ := cX_of B hml hK hZ
  have hx := X.1
  have hb := X.2.1
  have hown := X.2.2.2.1
  have hts := X.2.2.2.2.1
  have hl := lv_entry [cv Φ (some x0), cv Φ x1] (n := 5) (by simp only [lgs_r, lgs_i, lgs_l, lgs_0, List.length]; exact Nat.le_of_ble_eq_true rfl)
  rw [lg_entry_eq]
  generalize (lg_sl [cv Φ (some x0), cv Φ x1] ++ List.replicate (5 - (lg_sl [cv Φ (some x0), cv Φ x1]).length) Slot.unset).toArray = ls at hl ⊢
  simp only [lv_args_r, lv_args_i, lv_args_l, lv_args_0] at hl
  have hl : lv_has ls 5 [(0, cv Φ (some x0)), (1, cv Φ x1)] := hl
  have hS : va_S (cReg Φ) s.heap s.heap [] := va_S.rf
  show cWw p l e 1 0 0 23 s m [cv Φ (some x0), cv Φ x1].toArray below meth c D Φ q none s.heap [] 0 0 (F0 m 0 ls [])
  have h : ((gR σ x1 3 13).bind (fun v1 => if v1 = none then (f_X10_settle_20 x0 (x1) (x1) ((1:Int32)) σ) else ((gR σ x1 3 13).bind (fun v2 => (rc σ (some x0) 10).bind (fun v3 => (f_X10_placeBehind v3 (v2) σ).bind (fun v4 => f_X10_settle_20 x0 (x1) (x1) (v4) σ)))))) = some q := h
  refine c_aload_n hx hb dX10_settle_0 rfl (lv_at hl 1 rfl) ?_
  refine c_aload_n hx hb dX10_settle_1 rfl (lv_at hl 1 rfl) ?_
  obtain ⟨v1, hv1, h⟩ := ob h
  refine c_gR X hP hv1 (Nat.le_of_ble_eq_true rfl) (Nat.le_of_ble_eq_true rfl) rfl w_264 dX10_settle_2 ?_
  refine c_ifnonnull (Φ := Φ) (tgt := 12) hx hb dX10_settle_5 rfl (fun hc => ?_) (fun hc => ?_)
  · have h := ine hc h
    refine c_aload_n hx hb dX10_settle_12 rfl (lv_at hl 0 rfl) ?_
    refine c_aload_n hx hb dX10_settle_13 rfl (lv_at hl 1 rfl) ?_
    obtain ⟨v2, hv2, h⟩ := ob h
    refine c_gR X hP hv2 (Nat.le_of_ble_eq_true rfl) (Nat.le_of_ble_eq_true rfl) rfl w_264 dX10_settle_14 ?_
    obtain ⟨v3, hv3, h⟩ := ob h
    obtain ⟨v4, hv4, h⟩ := ob h
    refine c_cr (c_runV X (K_X10_placeBehind l D Φ σ v3 (v2) hv4) hv3 ⟨Nat.le_of_ble_eq_true rfl, by decide⟩ ⟨w_790, ww_X10_placeBehind⟩ rfl hy_X10_placeBehind rfl ⟨(Nat.le_of_ble_eq_true rfl), (Nat.le_of_ble_eq_true rfl)⟩ hP hS hl.1 (Nat.le_of_ble_eq_true rfl) dX10_settle_17 rfl ⟨(Nat.le_of_ble_eq_true rfl), (Nat.le_of_ble_eq_true rfl)⟩) ?_
    exact N_X10_settle_20 X hP hS (lv_sub hl [0, 1] rfl) h
  · have h := ip hc h
    refine lv_iconst (v := (1:Int32)) hx hb dX10_settle_8 (by decide) ?_
    refine lv_goto (tgt := 20) hx hb dX10_settle_9 rfl ?_
    exact N_X10_settle_20 X hP hS (lv_sub hl [0, 1] rfl) h
theorem ww_X10_settle : Cond.instanceMethod yX10_settle ∈ BG ∧ Cond.selects (yX10_settle).cls yX10_settle yX10_settle ∈ BG ∧ Cond.initialized (yX10_settle).cls ∈ BG ∧ Cond.code yX10_settle cX10_settle 5 none ∈ BG := ⟨w_788, w_3, w_58, w_789⟩
theorem hy_X10_settle : (yX10_settle).cls ≠ "java/lang/invoke/MethodHandle" ∧ (yX10_settle).cls ≠ "java/lang/invoke/VarHandle" ∧ (parseMethodDescriptor (yX10_settle).desc).map (fun d => d.parameters.length) = some 1 := ⟨by decide, by decide, by decide +kernel⟩
def f_X10_nextInTree_14  (x0 : Nat) : Nat → Option Nat → cS → Option (Option Nat)
  | 0, _, _ => none
  | n + 1, x2, σ => if x2 = none then (some none) else ((gR σ x2 3 12).bind (fun v1 => if v1 = none then ((gR σ x2 3 8).bind (fun v2 => f_X10_nextInTree_14 x0 n (v2) σ)) else ((gR σ x2 3 12).bind (fun v3 => some v3))))
def f_X10_nextInTree (x0 : Nat) (x1 : Option Nat) (σ : cS) : Option (Option Nat) := (gR σ x1 3 10).bind (fun v1 => if v1 = none then (f_X10_nextInTree_14 x0 4000 (x1) σ) else ((gR σ x1 3 10).bind (fun v2 => some v2)))
set_option maxRecDepth 20000 in
set_option maxHeartbeats 4000000 in
theorem N_X10_nextInTree_14 {p : Program} {l : Launch} {e : Env} {s : State} {m : MethodId} {args : Array Value} {below : List Frame} {meth : Method} {c : Code} {D : cD} {Φ : cG} {x0 : Nat}  {n : Nat} {x2 : Option Nat} {σ : cS} {ls : Array Slot} {r : Option Nat} (X : cX p s m args meth c cX10_nextInTree 3 (some (.object "Cascadery$Element")) RX10 D Φ) (hP : cP D Φ σ s.heap) (hS : va_S (cReg Φ) s.heap s.heap [])  (hl : lv_has ls 3 [(2, cv Φ x2)]) (h : f_X10_nextInTree_14  x0 n x2 σ = some r) : cWr p l e 0 0 s m args below meth c (some (cv Φ r)) (F0 m 14 ls []) := by
  have hx := X.1
  have hb := X.2.1
  have hown := X.2.2.2.1
  have hts := X.2.2.2.2.1
  induction n generalizing x2 ls with
  | zero => exact absurd (show none = some r from h) (by simp)
  | succ n ih =>
    have h : (if x2 = none then (some none) else ((gR σ x2 3 12).bind (fun v1 => if v1 = none then ((gR σ x2 3 8).bind (fun v2 => f_X10_nextInTree_14 x0 n (v2) σ)) else ((gR σ x2 3 12).bind (fun v3 => some v3))))) = some r := h
    refine c_aload_n hx hb dX10_nextInTree_14 rfl (lv_at hl 0 rfl) ?_
    refine c_ifnull (Φ := Φ) (tgt := 38) hx hb dX10_nextInTree_15 rfl (fun hc => ?_) (fun hc => ?_)
    · have h := ip hc h
      refine c_null (Φ := Φ) hx hb dX10_nextInTree_38 ?_
      obtain rfl := sj h
      exact c_ra X dX10_nextInTree_39
    · have h := ine hc h
      refine c_aload_n hx hb dX10_nextInTree_18 rfl (lv_at hl 0 rfl) ?_
      obtain ⟨v1, hv1, h⟩ := ob h
      refine c_gR X hP hv1 (Nat.le_of_ble_eq_true rfl) (Nat.le_of_ble_eq_true rfl) rfl w_263 dX10_nextInTree_19 ?_
      refine c_ifnull (Φ := Φ) (tgt := 30) hx hb dX10_nextInTree_22 rfl (fun hc => ?_) (fun hc => ?_)
      · have h := ip hc h
        refine c_aload_n hx hb dX10_nextInTree_30 rfl (lv_at hl 0 rfl) ?_
        obtain ⟨v2, hv2, h⟩ := ob h
        refine c_gR X hP hv2 (Nat.le_of_ble_eq_true rfl) (Nat.le_of_ble_eq_true rfl) rfl w_252 dX10_nextInTree_31 ?_
        refine c_astore_n hx hb dX10_nextInTree_34 rfl hl (Nat.le_of_ble_eq_true rfl) (lvKa rfl lvK0) rfl (fun ls (hl : lv_has ls 3 [(2, cv Φ v2)]) => ?_)
        refine lv_goto (tgt := 14) hx hb dX10_nextInTree_35 rfl ?_
        exact ih (lv_sub hl [0] rfl) h
      · have h := ine hc h
        refine c_aload_n hx hb dX10_nextInTree_25 rfl (lv_at hl 0 rfl) ?_
        obtain ⟨v3, hv3, h⟩ := ob h
        refine c_gR X hP hv3 (Nat.le_of_ble_eq_true rfl) (Nat.le_of_ble_eq_true rfl) rfl w_263 dX10_nextInTree_26 ?_
        obtain rfl := sj h
        exact c_ra X dX10_nextInTree_29
set_option maxRecDepth 20000 in
set_option maxHeartbeats 4000000 in
theorem K_X10_nextInTree (l : Launch) (D : cD) (Φ : cG) (σ : cS) (x0 : Nat) (x1 : Option Nat) {r : Option Nat} (h : f_X10_nextInTree x0 x1 σ = some r) : Met l yX10_nextInTree (Cond.code yX10_nextInTree cX10_nextInTree 3 (some (.object "Cascadery$Element")) :: BG) (rA 0 0 0 0) (cPc D Φ σ [cv Φ (some x0), cv Φ x1]) (cQr (some (cv Φ r))) 0 0 (fun _ => False) := by
  refine Met.ofW (cc := cX10_nextInTree) (maxL := 3) (ret := (some (.object "Cascadery$Element"))) (by decide) rfl ?_
  intro p e s m args below meth c s₁ B hml hv
  obtain ⟨rfl, hP, hK, hZ⟩ := hv
  have X : cX p s m [cv Φ (some x0), cv Φ x1].toArray meth c cX10_nextInTree 3 (some (.object "Cascadery$Element")) RX10 D Φ := cX_of B hml hK hZ
  have hx := X.1
  have hb := X.2.1
  have hown := X.2.2.2.1
  have hts := X.2.2.2.2.1
  have hl := lv_entry [cv Φ (some x0), cv Φ x1] (n := 3) (by simp only [lgs_r, lgs_i, lgs_l, lgs_0, List.length]; exact Nat.le_of_ble_eq_true rfl)
  rw [lg_entry_eq]
  generalize (lg_sl [cv Φ (some x0), cv Φ x1] ++ List.replicate (3 - (lg_sl [cv Φ (some x0), cv Φ x1]).length) Slot.unset).toArray = ls at hl ⊢
  simp only [lv_args_r, lv_args_i, lv_args_l, lv_args_0] at hl
  have hl : lv_has ls 3 [(0, cv Φ (some x0)), (1, cv Φ x1)] := hl
  have hS : va_S (cReg Φ) s.heap s.heap [] := va_S.rf
  show cWr p l e 0 0 s m [cv Φ (some x0), cv Φ x1].toArray below meth c (some (cv Φ r)) (F0 m 0 ls [])
  have h : ((gR σ x1 3 10).bind (fun v1 => if v1 = none then (f_X10_nextInTree_14 x0 4000 (x1) σ) else ((gR σ x1 3 10).bind (fun v2 => some v2)))) = some r := h
  refine c_aload_n hx hb dX10_nextInTree_0 rfl (lv_at hl 1 rfl) ?_
  obtain ⟨v1, hv1, h⟩ := ob h
  refine c_gR X hP hv1 (Nat.le_of_ble_eq_true rfl) (Nat.le_of_ble_eq_true rfl) rfl w_259 dX10_nextInTree_1 ?_
  refine c_ifnull (Φ := Φ) (tgt := 12) hx hb dX10_nextInTree_4 rfl (fun hc => ?_) (fun hc => ?_)
  · have h := ip hc h
    refine c_aload_n hx hb dX10_nextInTree_12 rfl (lv_at hl 1 rfl) ?_
    refine c_astore_n hx hb dX10_nextInTree_13 rfl hl (Nat.le_of_ble_eq_true rfl) (lvKa rfl (lvKr lvK0)) rfl (fun ls (hl : lv_has ls 3 [(2, cv Φ x1), (0, cv Φ (some x0)), (1, cv Φ x1)]) => ?_)
    exact N_X10_nextInTree_14 X hP hS (lv_sub hl [0] rfl) h
  · have h := ine hc h
    refine c_aload_n hx hb dX10_nextInTree_7 rfl (lv_at hl 1 rfl) ?_
    obtain ⟨v2, hv2, h⟩ := ob h
    refine c_gR X hP hv2 (Nat.le_of_ble_eq_true rfl) (Nat.le_of_ble_eq_true rfl) rfl w_259 dX10_nextInTree_8 ?_
    obtain rfl := sj h
    exact c_ra X dX10_nextInTree_11
theorem ww_X10_nextInTree : Cond.instanceMethod yX10_nextInTree ∈ BG ∧ Cond.selects (yX10_nextInTree).cls yX10_nextInTree yX10_nextInTree ∈ BG ∧ Cond.initialized (yX10_nextInTree).cls ∈ BG ∧ Cond.code yX10_nextInTree cX10_nextInTree 3 (some (.object "Cascadery$Element")) ∈ BG := ⟨w_808, w_7, w_58, w_809⟩
theorem hy_X10_nextInTree : (yX10_nextInTree).cls ≠ "java/lang/invoke/MethodHandle" ∧ (yX10_nextInTree).cls ≠ "java/lang/invoke/VarHandle" ∧ (parseMethodDescriptor (yX10_nextInTree).desc).map (fun d => d.parameters.length) = some 1 := ⟨by decide, by decide, by decide +kernel⟩
def f_X10_findShownParent_17  (x0 : Nat) (x1 : Option Nat) (σ : cS) : Option (Option Nat) := (rc σ x1 3).bind (fun v1 => (f_X3_above v1  σ).bind (fun v2 => some v2))
def f_X10_findShownParent_56 (k30 : Option Nat → Option Nat → Option (Option Nat)) (x0 : Nat) (x1 : Option Nat) (x2 : Option Nat) (σ : cS) : Option (Option Nat) := (rc σ (some x0) 10).bind (fun v1 => (f_X10_nextInTree v1 (x2) σ).bind (fun v2 => k30 (x1) (v2)))
def f_X10_findShownParent_30  (x0 : Nat) : Nat → Option Nat → Option Nat → cS → Option (Option Nat)
  | 0, _, _, _ => none
  | n + 1, x1, x2, σ => if x2 = none then ((gR σ x1 3 8).bind (fun v1 => some v1)) else ((gI σ x2 3 1).bind (fun v2 => if v2 = (7:Int32) then ((gI σ x2 3 5).bind (fun v3 => (gI σ x1 3 5).bind (fun v4 => if v3 = v4 then (some x2) else (f_X10_findShownParent_56 (fun z0 z1 => f_X10_findShownParent_30 x0 n z0 z1 σ) x0 (x1) (x2) σ)))) else (f_X10_findShownParent_56 (fun z0 z1 => f_X10_findShownParent_30 x0 n z0 z1 σ) x0 (x1) (x2) σ)))
def f_X10_findShownParent (x0 : Nat) (x1 : Option Nat) (σ : cS) : Option (Option Nat) := (gR σ x1 3 8).bind (fun v1 => if v1 = none then (f_X10_findShownParent_17 x0 (x1) σ) else ((gR σ x1 3 8).bind (fun v2 => (gI σ v2 3 7).bind (fun v3 => if v3 = (0:Int32) then (f_X10_findShownParent_17 x0 (x1) σ) else ((gR σ x1 3 8).bind (fun v4 => (gR σ v4 3 11).bind (fun v5 => f_X10_findShownParent_30 x0 4000 (x1) (v5) σ)))))))
set_option maxRecDepth 20000 in
set_option maxHeartbeats 4000000 in
theorem N_X10_findShownParent_17 {p : Program} {l : Launch} {e : Env} {s : State} {m : MethodId} {args : Array Value} {below : List Frame} {meth : Method} {c : Code} {D : cD} {Φ : cG} {x0 : Nat}   {x1 : Option Nat} {σ : cS} {ls : Array Slot} {r : Option Nat} (X : cX p s m args meth c cX10_findShownParent 3 (some (.object "Cascadery$Element")) RX10 D Φ) (hP : cP D Φ σ s.heap) (hS : va_S (cReg Φ) s.heap s.heap [])  (hl : lv_has ls 3 [(1, cv Φ x1)]) (h : f_X10_findShownParent_17  x0 x1 σ = some r) : cWr p l e 1 22 s m args below meth c (some (cv Φ r)) (F0 m 17 ls []) := by
  have hx := X.1
  have hb := X.2.1
  have hown := X.2.2.2.1
  have hts := X.2.2.2.2.1
  have h : ((rc σ x1 3).bind (fun v1 => (f_X3_above v1  σ).bind (fun v2 => some v2))) = some r := h
  refine c_aload_n hx hb dX10_findShownParent_17 rfl (lv_at hl 0 rfl) ?_
  obtain ⟨v1, hv1, h⟩ := ob h
  obtain ⟨v2, hv2, h⟩ := ob h
  refine c_cr (c_runV X (K_X3_above l D Φ σ v1  hv2) hv1 ⟨Nat.le_of_ble_eq_true rfl, by decide⟩ ⟨w_769, ww_X3_above⟩ rfl hy_X3_above rfl ⟨(Nat.le_of_ble_eq_true rfl), (Nat.le_of_ble_eq_true rfl)⟩ hP hS hl.1 (Nat.le_of_ble_eq_true rfl) dX10_findShownParent_18 rfl ⟨(Nat.le_of_ble_eq_true rfl), (Nat.le_of_ble_eq_true rfl)⟩) ?_
  obtain rfl := sj h
  exact c_ra X dX10_findShownParent_21
set_option maxRecDepth 20000 in
set_option maxHeartbeats 4000000 in
theorem N_X10_findShownParent_56 {p : Program} {l : Launch} {e : Env} {s : State} {m : MethodId} {args : Array Value} {below : List Frame} {meth : Method} {c : Code} {D : cD} {Φ : cG} {x0 : Nat} {k30 : Option Nat → Option Nat → Option (Option Nat)}  {x1 : Option Nat} {x2 : Option Nat} {σ : cS} {ls : Array Slot} {r : Option Nat} (X : cX p s m args meth c cX10_findShownParent 3 (some (.object "Cascadery$Element")) RX10 D Φ) (hP : cP D Φ σ s.heap) (hS : va_S (cReg Φ) s.heap s.heap []) (hk30 : ∀ {x1 : Option Nat} {x2 : Option Nat} {ls : Array Slot}, lv_has ls 3 [(0, cv Φ (some x0)), (1, cv Φ x1), (2, cv Φ x2)] → k30 x1 x2 = some r → cWr p l e 1 22 s m args below meth c (some (cv Φ r)) (F0 m 30 ls [])) (hl : lv_has ls 3 [(0, cv Φ (some x0)), (1, cv Φ x1), (2, cv Φ x2)]) (h : f_X10_findShownParent_56 k30 x0 x1 x2 σ = some r) : cWr p l e 1 22 s m args below meth c (some (cv Φ r)) (F0 m 56 ls []) := by
  have hx := X.1
  have hb := X.2.1
  have hown := X.2.2.2.1
  have hts := X.2.2.2.2.1
  have h : ((rc σ (some x0) 10).bind (fun v1 => (f_X10_nextInTree v1 (x2) σ).bind (fun v2 => k30 (x1) (v2)))) = some r := h
  refine c_aload_n hx hb dX10_findShownParent_56 rfl (lv_at hl 0 rfl) ?_
  refine c_aload_n hx hb dX10_findShownParent_57 rfl (lv_at hl 2 rfl) ?_
  obtain ⟨v1, hv1, h⟩ := ob h
  obtain ⟨v2, hv2, h⟩ := ob h
  refine c_cr (c_runV X (K_X10_nextInTree l D Φ σ v1 (x2) hv2) hv1 ⟨Nat.le_of_ble_eq_true rfl, by decide⟩ ⟨w_806, ww_X10_nextInTree⟩ rfl hy_X10_nextInTree rfl ⟨(Nat.le_of_ble_eq_true rfl), (Nat.le_of_ble_eq_true rfl)⟩ hP hS hl.1 (Nat.le_of_ble_eq_true rfl) dX10_findShownParent_58 rfl ⟨(Nat.le_of_ble_eq_true rfl), (Nat.le_of_ble_eq_true rfl)⟩) ?_
  refine c_astore_n hx hb dX10_findShownParent_61 rfl hl (Nat.le_of_ble_eq_true rfl) (lvKa rfl (lvKr (lvKa rfl lvK0))) rfl (fun ls (hl : lv_has ls 3 [(2, cv Φ v2), (0, cv Φ (some x0)), (1, cv Φ x1)]) => ?_)
  refine lv_goto (tgt := 30) hx hb dX10_findShownParent_62 rfl ?_
  exact hk30 (lv_sub hl [1, 2, 0] rfl) h
set_option maxRecDepth 20000 in
set_option maxHeartbeats 4000000 in
theorem N_X10_findShownParent_30 {p : Program} {l : Launch} {e : Env} {s : State} {m : MethodId} {args : Array Value} {below : List Frame} {meth : Method} {c : Code} {D : cD} {Φ : cG} {x0 : Nat}  {n : Nat} {x1 : Option Nat} {x2 : Option Nat} {σ : cS} {ls : Array Slot} {r : Option Nat} (X : cX p s m args meth c cX10_findShownParent 3 (some (.object "Cascadery$Element")) RX10 D Φ) (hP : cP D Φ σ s.heap) (hS : va_S (cReg Φ) s.heap s.heap [])  (hl : lv_has ls 3 [(0, cv Φ (some x0)), (1, cv Φ x1), (2, cv Φ x2)]) (h : f_X10_findShownParent_30  x0 n x1 x2 σ = some r) : cWr p l e 1 22 s m args below meth c (some (cv Φ r)) (F0 m 30 ls []) := by
  have hx := X.1
  have hb := X.2.1
  have hown := X.2.2.2.1
  have hts := X.2.2.2.2.1
  induction n generalizing x1 x2 ls with
  | zero => exact absurd (show none = some r from h) (by simp)
  | succ n ih =>
    have h : (if x2 = none then ((gR σ x1 3 8).bind (fun v1 => some v1)) else ((gI σ x2 3 1).bind (fun v2 => if v2 = (7:Int32) then ((gI σ x2 3 5).bind (fun v3 => (gI σ x1 3 5).bind (fun v4 => if v3 = v4 then (some x2) else (f_X10_findShownParent_56 (fun z0 z1 => f_X10_findShownParent_30 x0 n z0 z1 σ) x0 (x1) (x2) σ)))) else (f_X10_findShownParent_56 (fun z0 z1 => f_X10_findShownParent_30 x0 n z0 z1 σ) x0 (x1) (x2) σ)))) = some r := h
    refine c_aload_n hx hb dX10_findShownParent_30 rfl (lv_at hl 2 rfl) ?_
    refine c_ifnull (Φ := Φ) (tgt := 65) hx hb dX10_findShownParent_31 rfl (fun hc => ?_) (fun hc => ?_)
    · have h := ip hc h
      refine c_aload_n hx hb dX10_findShownParent_65 rfl (lv_at hl 1 rfl) ?_
      obtain ⟨v1, hv1, h⟩ := ob h
      refine c_gR X hP hv1 (Nat.le_of_ble_eq_true rfl) (Nat.le_of_ble_eq_true rfl) rfl w_252 dX10_findShownParent_66 ?_
      obtain rfl := sj h
      exact c_ra X dX10_findShownParent_69
    · have h := ine hc h
      refine c_aload_n hx hb dX10_findShownParent_34 rfl (lv_at hl 2 rfl) ?_
      obtain ⟨v2, hv2, h⟩ := ob h
      refine c_gI X hP hv2 (Nat.le_of_ble_eq_true rfl) (Nat.le_of_ble_eq_true rfl) rfl w_231 dX10_findShownParent_35 ?_
      refine lv_bipush (v := (7:Int32)) hx hb dX10_findShownParent_38 (by decide) ?_
      refine lv_icmp_ne (tgt := 56) hx hb dX10_findShownParent_40 rfl (fun hc => ?_) (fun hc => ?_)
      · have h := ine hc h
        exact N_X10_findShownParent_56 X hP hS ih (lv_sub hl [0, 1, 2] rfl) h
      · have h := ip hc h
        refine c_aload_n hx hb dX10_findShownParent_43 rfl (lv_at hl 2 rfl) ?_
        obtain ⟨v3, hv3, h⟩ := ob h
        refine c_gI X hP hv3 (Nat.le_of_ble_eq_true rfl) (Nat.le_of_ble_eq_true rfl) rfl w_243 dX10_findShownParent_44 ?_
        refine c_aload_n hx hb dX10_findShownParent_47 rfl (lv_at hl 1 rfl) ?_
        obtain ⟨v4, hv4, h⟩ := ob h
        refine c_gI X hP hv4 (Nat.le_of_ble_eq_true rfl) (Nat.le_of_ble_eq_true rfl) rfl w_243 dX10_findShownParent_48 ?_
        refine lv_icmp_ne (tgt := 56) hx hb dX10_findShownParent_51 rfl (fun hc => ?_) (fun hc => ?_)
        · have h := ine hc h
          exact N_X10_findShownParent_56 X hP hS ih (lv_sub hl [0, 1, 2] rfl) h
        · have h := ip hc h
          refine c_aload_n hx hb dX10_findShownParent_54 rfl (lv_at hl 2 rfl) ?_
          obtain rfl := sj h
          exact c_ra X dX10_findShownParent_55
set_option maxRecDepth 20000 in
set_option maxHeartbeats 4000000 in
theorem K_X10_findShownParent (l : Launch) (D : cD) (Φ : cG) (σ : cS) (x0 : Nat) (x1 : Option Nat) {r : Option Nat} (h : f_X10_findShownParent x0 x1 σ = some r) : Met l yX10_findShownParent (Cond.code yX10_findShownParent cX10_findShownParent 3 (some (.object "Cascadery$Element")) :: BG) (rA 1 0 0 22) (cPc D Φ σ [cv Φ (some x0), cv Φ x1]) (cQr (some (cv Φ r))) 0 0 (fun _ => False) := by
  refine Met.ofW (cc := cX10_findShownParent) (maxL := 3) (ret := (some (.object "Cascadery$Element"))) (by decide) rfl ?_
  intro p e s m args below meth c s₁ B hml hv
  obtain ⟨rfl, hP, hK, hZ⟩ := hv
  have X : cX p s m [cv Φ (some x0), cv Φ x1].toArray meth c cX10_findShownParent 3 (some (.object "Cascadery$Element")) RX10 D Φ := cX_of B hml hK hZ
  have hx := X.1
  have hb := X.2.1
  have hown := X.2.2.2.1
  have hts := X.2.2.2.2.1
  have hl := lv_entry [cv Φ (some x0), cv Φ x1] (n := 3) (by simp only [lgs_r, lgs_i, lgs_l, lgs_0, List.length]; exact Nat.le_of_ble_eq_true rfl)
  rw [lg_entry_eq]
  generalize (lg_sl [cv Φ (some x0), cv Φ x1] ++ List.replicate (3 - (lg_sl [cv Φ (some x0), cv Φ x1]).length) Slot.unset).toArray = ls at hl ⊢
  simp only [lv_args_r, lv_args_i, lv_args_l, lv_args_0] at hl
  have hl : lv_has ls 3 [(0, cv Φ (some x0)), (1, cv Φ x1)] := hl
  have hS : va_S (cReg Φ) s.heap s.heap [] := va_S.rf
  show cWr p l e 1 22 s m [cv Φ (some x0), cv Φ x1].toArray below meth c (some (cv Φ r)) (F0 m 0 ls [])
  have h : ((gR σ x1 3 8).bind (fun v1 => if v1 = none then (f_X10_findShownParent_17 x0 (x1) σ) else ((gR σ x1 3 8).bind (fun v2 => (gI σ v2 3 7).bind (fun v3 => if v3 = (0:Int32) then (f_X10_findShownParent_17 x0 (x1) σ) else ((gR σ x1 3 8).bind (fun v4 => (gR σ v4 3 11).bind (fun v5 => f_X10_findShownParent_30 x0 4000 (x1) (v5) σ)))))))) = some r := h
  refine c_aload_n hx hb dX10_findShownParent_0 rfl (lv_at hl 1 rfl) ?_
  obtain ⟨v1, hv1, h⟩ := ob h
  refine c_gR X hP hv1 (Nat.le_of_ble_eq_true rfl) (Nat.le_of_ble_eq_true rfl) rfl w_252 dX10_findShownParent_1 ?_
  refine c_ifnull (Φ := Φ) (tgt := 17) hx hb dX10_findShownParent_4 rfl (fun hc => ?_) (fun hc => ?_)
  · have h := ip hc h
    exact N_X10_findShownParent_17 X hP hS (lv_sub hl [1] rfl) h
  · have h := ine hc h
    refine c_aload_n hx hb dX10_findShownParent_7 rfl (lv_at hl 1 rfl) ?_
    obtain ⟨v2, hv2, h⟩ := ob h
    refine c_gR X hP hv2 (Nat.le_of_ble_eq_true rfl) (Nat.le_of_ble_eq_true rfl) rfl w_252 dX10_findShownParent_8 ?_
    obtain ⟨v3, hv3, h⟩ := ob h
    refine c_gI X hP hv3 (Nat.le_of_ble_eq_true rfl) (Nat.le_of_ble_eq_true rfl) rfl w_249 dX10_findShownParent_11 ?_
    refine lv_if_ne (tgt := 22) hx hb dX10_findShownParent_14 rfl (fun hc => ?_) (fun hc => ?_)
    · have h := ine hc h
      refine c_aload_n hx hb dX10_findShownParent_22 rfl (lv_at hl 1 rfl) ?_
      obtain ⟨v4, hv4, h⟩ := ob h
      refine c_gR X hP hv4 (Nat.le_of_ble_eq_true rfl) (Nat.le_of_ble_eq_true rfl) rfl w_252 dX10_findShownParent_23 ?_
      obtain ⟨v5, hv5, h⟩ := ob h
      refine c_gR X hP hv5 (Nat.le_of_ble_eq_true rfl) (Nat.le_of_ble_eq_true rfl) rfl w_261 dX10_findShownParent_26 ?_
      refine c_astore_n hx hb dX10_findShownParent_29 rfl hl (Nat.le_of_ble_eq_true rfl) (lvKa rfl (lvKr lvK0)) rfl (fun ls (hl : lv_has ls 3 [(2, cv Φ v5), (0, cv Φ (some x0)), (1, cv Φ x1)]) => ?_)
      exact N_X10_findShownParent_30 X hP hS (lv_sub hl [1, 2, 0] rfl) h
    · have h := ip hc h
      exact N_X10_findShownParent_17 X hP hS (lv_sub hl [1] rfl) h
theorem ww_X10_findShownParent : Cond.instanceMethod yX10_findShownParent ∈ BG ∧ Cond.selects (yX10_findShownParent).cls yX10_findShownParent yX10_findShownParent ∈ BG ∧ Cond.initialized (yX10_findShownParent).cls ∈ BG ∧ Cond.code yX10_findShownParent cX10_findShownParent 3 (some (.object "Cascadery$Element")) ∈ BG := ⟨w_804, w_6, w_58, w_805⟩
theorem hy_X10_findShownParent : (yX10_findShownParent).cls ≠ "java/lang/invoke/MethodHandle" ∧ (yX10_findShownParent).cls ≠ "java/lang/invoke/VarHandle" ∧ (parseMethodDescriptor (yX10_findShownParent).desc).map (fun d => d.parameters.length) = some 1 := ⟨by decide, by decide, by decide +kernel⟩
def f_X10_lineUpShown_41 (k6 : Option Nat → Option Nat → Option Nat → cS → Option (Option Nat × cS)) (x0 : Nat) (x3 : Option Nat) (x4 : Option Nat) (x5 : Option Nat) (σ : cS) : Option (Option Nat × cS) := (gR σ x5 3 12).bind (fun v1 => k6 (x3) (x4) (v1) σ)
def f_X10_lineUpShown_6  (x0 : Nat) : Nat → Option Nat → Option Nat → Option Nat → cS → Option (Option Nat × cS)
  | 0, _, _, _, _ => none
  | n + 1, x3, x4, x5, σ => if x5 = none then (some (x4, σ)) else ((gR σ x5 3 16).bind (fun v1 => if v1 = x3 then ((gR σ x4 3 17).bind (fun v2 => (pR σ x5 3 17 v2).bind (fun v3 => (pR v3 x4 3 17 x5).bind (fun v4 => f_X10_lineUpShown_41 (f_X10_lineUpShown_6 x0 n) x0 (x3) (x5) (x5) v4)))) else (f_X10_lineUpShown_41 (f_X10_lineUpShown_6 x0 n) x0 (x3) (x4) (x5) σ)))
def f_X10_lineUpShown (x0 : Nat) (x1 : Option Nat) (x2 : Option Nat) (x3 : Option Nat) (σ : cS) : Option (Option Nat × cS) := f_X10_lineUpShown_6 x0 4000 (x3) (x1) (x2) σ
set_option maxRecDepth 20000 in
set_option maxHeartbeats 4000000 in
theorem N_X10_lineUpShown_41 {p : Program} {l : Launch} {e : Env} {s : State} {m : MethodId} {args : Array Value} {below : List Frame} {meth : Method} {c : Code} {D : cD} {Φ : cG} {x0 : Nat} {k6 : Option Nat → Option Nat → Option Nat → cS → Option (Option Nat × cS)}  {x3 : Option Nat} {x4 : Option Nat} {x5 : Option Nat} {σ : cS} {H : Heap} {locs : List Loc} {ls : Array Slot} {q : Option Nat × cS} (X : cX p s m args meth c cX10_lineUpShown 6 (some (.object "Cascadery$Element")) RX10 D Φ) (hP : cP D Φ σ H) (hS : va_S (cReg Φ) s.heap H locs) (hk6 : ∀ {x3 : Option Nat} {x4 : Option Nat} {x5 : Option Nat} {σ : cS} {H : Heap} {locs : List Loc} {ls : Array Slot}, cP D Φ σ H → va_S (cReg Φ) s.heap H locs → lv_has ls 6 [(3, cv Φ x3), (4, cv Φ x4), (5, cv Φ x5)] → k6 x3 x4 x5 σ = some q → cWw p l e 0 0 0 0 s m args below meth c D Φ q.2 (some (cv Φ q.1)) H locs 0 0 (F0 m 6 ls [])) (hl : lv_has ls 6 [(3, cv Φ x3), (4, cv Φ x4), (5, cv Φ x5)]) (h : f_X10_lineUpShown_41 k6 x0 x3 x4 x5 σ = some q) : cWw p l e 0 0 0 0 s m args below meth c D Φ q.2 (some (cv Φ q.1)) H locs 0 0 (F0 m 41 ls []) := by
  have hx := X.1
  have hb := X.2.1
  have hown := X.2.2.2.1
  have hts := X.2.2.2.2.1
  have h : ((gR σ x5 3 12).bind (fun v1 => k6 (x3) (x4) (v1) σ)) = some q := h
  refine c_aload hx hb dX10_lineUpShown_41 (lv_at hl 2 rfl) ?_
  obtain ⟨v1, hv1, h⟩ := ob h
  refine c_gR X hP hv1 (Nat.le_of_ble_eq_true rfl) (Nat.le_of_ble_eq_true rfl) rfl w_263 dX10_lineUpShown_43 ?_
  refine c_astore hx hb dX10_lineUpShown_46 hl (Nat.le_of_ble_eq_true rfl) (lvKa rfl (lvKr (lvKa rfl lvK0))) rfl (fun ls (hl : lv_has ls 6 [(5, cv Φ v1), (3, cv Φ x3), (4, cv Φ x4)]) => ?_)
  refine lv_goto (tgt := 6) hx hb dX10_lineUpShown_48 rfl ?_
  exact hk6 hP hS (lv_sub hl [1, 2, 0] rfl) h
set_option maxRecDepth 20000 in
set_option maxHeartbeats 4000000 in
theorem N_X10_lineUpShown_6 {p : Program} {l : Launch} {e : Env} {s : State} {m : MethodId} {args : Array Value} {below : List Frame} {meth : Method} {c : Code} {D : cD} {Φ : cG} {x0 : Nat}  {n : Nat} {x3 : Option Nat} {x4 : Option Nat} {x5 : Option Nat} {σ : cS} {H : Heap} {locs : List Loc} {ls : Array Slot} {q : Option Nat × cS} (X : cX p s m args meth c cX10_lineUpShown 6 (some (.object "Cascadery$Element")) RX10 D Φ) (hP : cP D Φ σ H) (hS : va_S (cReg Φ) s.heap H locs)  (hl : lv_has ls 6 [(3, cv Φ x3), (4, cv Φ x4), (5, cv Φ x5)]) (h : f_X10_lineUpShown_6  x0 n x3 x4 x5 σ = some q) : cWw p l e 0 0 0 0 s m args below meth c D Φ q.2 (some (cv Φ q.1)) H locs 0 0 (F0 m 6 ls []) := by
  have hx := X.1
  have hb := X.2.1
  have hown := X.2.2.2.1
  have hts := X.2.2.2.2.1
  induction n generalizing x3 x4 x5 σ H locs ls with
  | zero => exact absurd (show none = some q from h) (by simp)
  | succ n ih =>
    have h : (if x5 = none then (some (x4, σ)) else ((gR σ x5 3 16).bind (fun v1 => if v1 = x3 then ((gR σ x4 3 17).bind (fun v2 => (pR σ x5 3 17 v2).bind (fun v3 => (pR v3 x4 3 17 x5).bind (fun v4 => f_X10_lineUpShown_41 (f_X10_lineUpShown_6 x0 n) x0 (x3) (x5) (x5) v4)))) else (f_X10_lineUpShown_41 (f_X10_lineUpShown_6 x0 n) x0 (x3) (x4) (x5) σ)))) = some q := h
    refine c_aload hx hb dX10_lineUpShown_6 (lv_at hl 2 rfl) ?_
    refine c_ifnull (Φ := Φ) (tgt := 51) hx hb dX10_lineUpShown_8 rfl (fun hc => ?_) (fun hc => ?_)
    · have h := ip hc h
      refine c_aload hx hb dX10_lineUpShown_51 (lv_at hl 1 rfl) ?_
      obtain rfl := sj h
      exact c_wa X hP hS (Nat.le_of_ble_eq_true rfl) (Nat.le_of_ble_eq_true rfl) dX10_lineUpShown_53
    · have h := ine hc h
      refine c_aload hx hb dX10_lineUpShown_11 (lv_at hl 2 rfl) ?_
      obtain ⟨v1, hv1, h⟩ := ob h
      refine c_gR X hP hv1 (Nat.le_of_ble_eq_true rfl) (Nat.le_of_ble_eq_true rfl) rfl w_274 dX10_lineUpShown_13 ?_
      refine c_aload_n hx hb dX10_lineUpShown_16 rfl (lv_at hl 0 rfl) ?_
      refine c_acmp_ne (tgt := 41) X hP dX10_lineUpShown_17 rfl (fun hc => ?_) (fun hc => ?_)
      · have h := ine hc h
        exact N_X10_lineUpShown_41 X hP hS ih (lv_sub hl [0, 1, 2] rfl) h
      · have h := ip hc h
        refine c_aload hx hb dX10_lineUpShown_20 (lv_at hl 2 rfl) ?_
        refine c_aload hx hb dX10_lineUpShown_22 (lv_at hl 1 rfl) ?_
        obtain ⟨v2, hv2, h⟩ := ob h
        refine c_gR X hP hv2 (Nat.le_of_ble_eq_true rfl) (Nat.le_of_ble_eq_true rfl) rfl w_275 dX10_lineUpShown_24 ?_
        obtain ⟨v3, hv3, h⟩ := ob h
        refine c_pR X hP hS hv3 (Nat.le_of_ble_eq_true rfl) (Nat.le_of_ble_eq_true rfl) rfl (Or.inl rfl) w_275 dX10_lineUpShown_27 (fun H locs hP hS => ?_)
        refine c_aload hx hb dX10_lineUpShown_30 (lv_at hl 1 rfl) ?_
        refine c_aload hx hb dX10_lineUpShown_32 (lv_at hl 2 rfl) ?_
        obtain ⟨v4, hv4, h⟩ := ob h
        refine c_pR X hP hS hv4 (Nat.le_of_ble_eq_true rfl) (Nat.le_of_ble_eq_true rfl) rfl (Or.inl rfl) w_275 dX10_lineUpShown_34 (fun H locs hP hS => ?_)
        refine c_aload hx hb dX10_lineUpShown_37 (lv_at hl 2 rfl) ?_
        refine c_astore hx hb dX10_lineUpShown_39 hl (Nat.le_of_ble_eq_true rfl) (lvKr (lvKa rfl (lvKa rfl lvK0))) rfl (fun ls (hl : lv_has ls 6 [(4, cv Φ x5), (3, cv Φ x3), (5, cv Φ x5)]) => ?_)
        exact N_X10_lineUpShown_41 X hP hS ih (lv_sub hl [1, 0, 2] rfl) h
set_option maxRecDepth 20000 in
set_option maxHeartbeats 4000000 in
theorem K_X10_lineUpShown (l : Launch) (D : cD) (Φ : cG) (σ : cS) (x0 : Nat) (x1 : Option Nat) (x2 : Option Nat) (x3 : Option Nat) {q : Option Nat × cS} (h : f_X10_lineUpShown x0 x1 x2 x3 σ = some q) : Met l yX10_lineUpShown (Cond.code yX10_lineUpShown cX10_lineUpShown 6 (some (.object "Cascadery$Element")) :: BG) (rA 0 0 0 0) (cPc D Φ σ [cv Φ (some x0), cv Φ x1, cv Φ x2, cv Φ x3]) (cQw D Φ q.2 (some (cv Φ q.1))) 0 0 (cReg Φ) := by
  refine Met.ofW (cc := cX10_lineUpShown) (maxL := 6) (ret := (some (.object "Cascadery$Element"))) (by decide) rfl ?_
  intro p e s m args below meth c s₁ B hml hv
  obtain ⟨rfl, hP, hK, hZ⟩ := hv
  have X : cX p s m [cv Φ (some x0), cv Φ x1, cv Φ x2, cv Φ x3].toArray meth c cX10_lineUpShown 6 (some (.object "Cascadery$Element")) RX10 D Φ := cX_of B hml hK hZ
  have hx := X.1
  have hb := X.2.1
  have hown := X.2.2.2.1
  have hts := X.2.2.2.2.1
  have hl := lv_entry [cv Φ (some x0), cv Φ x1, cv Φ x2, cv Φ x3] (n := 6) (by simp only [lgs_r, lgs_i, lgs_l, lgs_0, List.length]; exact Nat.le_of_ble_eq_true rfl)
  rw [lg_entry_eq]
  generalize (lg_sl [cv Φ (some x0), cv Φ x1, cv Φ x2, cv Φ x3] ++ List.replicate (6 - (lg_sl [cv Φ (some x0), cv Φ x1, cv Φ x2, cv Φ x3]).length) Slot.unset).toArray = ls at hl ⊢
  simp only [lv_args_r, lv_args_i, lv_args_l, lv_args_0] at hl
  have hl : lv_has ls 6 [(0, cv Φ (some x0)), (1, cv Φ x1), (2, cv Φ x2), (3, cv Φ x3)] := hl
  have hS : va_S (cReg Φ) s.heap s.heap [] := va_S.rf
  show cWw p l e 0 0 0 0 s m [cv Φ (some x0), cv Φ x1, cv Φ x2, cv Φ x3].toArray below meth c D Φ q.2 (some (cv Φ q.1)) s.heap [] 0 0 (F0 m 0 ls [])
  have h : (f_X10_lineUpShown_6 x0 4000 (x3) (x1) (x2) σ) = some q := h
  refine c_aload_n hx hb dX10_lineUpShown_0 rfl (lv_at hl 1 rfl) ?_
  refine c_astore hx hb dX10_lineUpShown_1 hl (Nat.le_of_ble_eq_true rfl) (lvKa rfl (lvKa rfl (lvKa rfl (lvKr lvK0)))) rfl (fun ls (hl : lv_has ls 6 [(4, cv Φ x1), (0, cv Φ (some x0)), (1, cv Φ x1), (2, cv Φ x2), (3, cv Φ x3)]) => ?_)
  refine c_aload_n hx hb dX10_lineUpShown_3 rfl (lv_at hl 3 rfl) ?_
  refine c_astore hx hb dX10_lineUpShown_4 hl (Nat.le_of_ble_eq_true rfl) (lvKr (lvKa rfl (lvKa rfl (lvKa rfl (lvKa rfl lvK0))))) rfl (fun ls (hl : lv_has ls 6 [(5, cv Φ x2), (4, cv Φ x1), (0, cv Φ (some x0)), (1, cv Φ x1), (2, cv Φ x2), (3, cv Φ x3)]) => ?_)
  exact N_X10_lineUpShown_6 X hP hS (lv_sub hl [5, 1, 0] rfl) h
theorem ww_X10_lineUpShown : Cond.instanceMethod yX10_lineUpShown ∈ BG ∧ Cond.selects (yX10_lineUpShown).cls yX10_lineUpShown yX10_lineUpShown ∈ BG ∧ Cond.initialized (yX10_lineUpShown).cls ∈ BG ∧ Cond.code yX10_lineUpShown cX10_lineUpShown 6 (some (.object "Cascadery$Element")) ∈ BG := ⟨w_816, w_9, w_58, w_817⟩
theorem hy_X10_lineUpShown : (yX10_lineUpShown).cls ≠ "java/lang/invoke/MethodHandle" ∧ (yX10_lineUpShown).cls ≠ "java/lang/invoke/VarHandle" ∧ (parseMethodDescriptor (yX10_lineUpShown).desc).map (fun d => d.parameters.length) = some 3 := ⟨by decide, by decide, by decide +kernel⟩
def f_X10_lineUp_32  (x0 : Nat) (x1 : Option Nat) (x2 : Option Nat) (σ : cS) : Option (cS) := (gR σ x1 3 11).bind (fun v1 => (rc σ (some x0) 10).bind (fun v2 => (f_X10_lineUpShown v2 (x2) (v1) (x1) σ).bind (fun v3 => (gR v3.2 x1 3 10).bind (fun v4 => (rc v3.2 (some x0) 10).bind (fun v5 => (f_X10_lineUpShown v5 (v3.1) (v4) (x1) v3.2).bind (fun v6 => some v6.2))))))
def f_X10_lineUp (x0 : Nat) (x1 : Option Nat) (σ : cS) : Option (cS) := (gR σ x1 3 15).bind (fun v1 => if v1 = none then (f_X10_lineUp_32 x0 (x1) (x1) σ) else ((gI σ x1 3 1).bind (fun v2 => if v2 = (7:Int32) then ((gR σ x1 3 15).bind (fun v3 => (gR σ v3 3 10).bind (fun v4 => (rc σ (some x0) 10).bind (fun v5 => (f_X10_lineUpShown v5 (x1) (v4) (x1) σ).bind (fun v6 => f_X10_lineUp_32 x0 (x1) (v6.1) v6.2))))) else (f_X10_lineUp_32 x0 (x1) (x1) σ))))
set_option maxRecDepth 20000 in
set_option maxHeartbeats 4000000 in
theorem N_X10_lineUp_32 {p : Program} {l : Launch} {e : Env} {s : State} {m : MethodId} {args : Array Value} {below : List Frame} {meth : Method} {c : Code} {D : cD} {Φ : cG} {x0 : Nat}   {x1 : Option Nat} {x2 : Option Nat} {σ : cS} {H : Heap} {locs : List Loc} {ls : Array Slot} {q : cS} (X : cX p s m args meth c cX10_lineUp 3 none RX10 D Φ) (hP : cP D Φ σ H) (hS : va_S (cReg Φ) s.heap H locs)  (hl : lv_has ls 3 [(0, cv Φ (some x0)), (1, cv Φ x1), (2, cv Φ x2)]) (h : f_X10_lineUp_32  x0 x1 x2 σ = some q) : cWw p l e 1 0 0 25 s m args below meth c D Φ q none H locs 0 0 (F0 m 32 ls []) := by
  have hx := X.1
  have hb := X.2.1
  have hown := X.2.2.2.1
  have hts := X.2.2.2.2.1
  have h : ((gR σ x1 3 11).bind (fun v1 => (rc σ (some x0) 10).bind (fun v2 => (f_X10_lineUpShown v2 (x2) (v1) (x1) σ).bind (fun v3 => (gR v3.2 x1 3 10).bind (fun v4 => (rc v3.2 (some x0) 10).bind (fun v5 => (f_X10_lineUpShown v5 (v3.1) (v4) (x1) v3.2).bind (fun v6 => some v6.2))))))) = some q := h
  refine c_aload_n hx hb dX10_lineUp_32 rfl (lv_at hl 0 rfl) ?_
  refine c_aload_n hx hb dX10_lineUp_33 rfl (lv_at hl 2 rfl) ?_
  refine c_aload_n hx hb dX10_lineUp_34 rfl (lv_at hl 1 rfl) ?_
  obtain ⟨v1, hv1, h⟩ := ob h
  refine c_gR X hP hv1 (Nat.le_of_ble_eq_true rfl) (Nat.le_of_ble_eq_true rfl) rfl w_261 dX10_lineUp_35 ?_
  refine c_aload_n hx hb dX10_lineUp_38 rfl (lv_at hl 1 rfl) ?_
  obtain ⟨v2, hv2, h⟩ := ob h
  obtain ⟨v3, hv3, h⟩ := ob h
  refine c_cw (c_runV X (K_X10_lineUpShown l D Φ σ v2 (x2) (v1) (x1) hv3) hv2 ⟨Nat.le_of_ble_eq_true rfl, by decide⟩ ⟨w_814, ww_X10_lineUpShown⟩ rfl hy_X10_lineUpShown rfl ⟨(Nat.le_of_ble_eq_true rfl), (Nat.le_of_ble_eq_true rfl)⟩ hP hS hl.1 (Nat.le_of_ble_eq_true rfl) dX10_lineUp_39 rfl ⟨(Nat.le_of_ble_eq_true rfl), (Nat.le_of_ble_eq_true rfl)⟩) hS (fun H locs hP hS => ?_)
  refine W.eq (g2 := F0 m 42 ls [cv Φ v3.1]) rfl ?_
  refine c_astore_n hx hb dX10_lineUp_42 rfl hl (Nat.le_of_ble_eq_true rfl) (lvKa rfl (lvKr (lvKa rfl lvK0))) rfl (fun ls (hl : lv_has ls 3 [(2, cv Φ v3.1), (0, cv Φ (some x0)), (1, cv Φ x1)]) => ?_)
  refine c_aload_n hx hb dX10_lineUp_43 rfl (lv_at hl 1 rfl) ?_
  refine c_aload_n hx hb dX10_lineUp_44 rfl (lv_at hl 0 rfl) ?_
  refine c_aload_n hx hb dX10_lineUp_45 rfl (lv_at hl 2 rfl) ?_
  obtain ⟨v4, hv4, h⟩ := ob h
  refine c_gR X hP hv4 (Nat.le_of_ble_eq_true rfl) (Nat.le_of_ble_eq_true rfl) rfl w_259 dX10_lineUp_46 ?_
  refine c_aload_n hx hb dX10_lineUp_49 rfl (lv_at hl 2 rfl) ?_
  obtain ⟨v5, hv5, h⟩ := ob h
  obtain ⟨v6, hv6, h⟩ := ob h
  refine c_cw (c_runV X (K_X10_lineUpShown l D Φ v3.2 v5 (v3.1) (v4) (x1) hv6) hv5 ⟨Nat.le_of_ble_eq_true rfl, by decide⟩ ⟨w_814, ww_X10_lineUpShown⟩ rfl hy_X10_lineUpShown rfl ⟨(Nat.le_of_ble_eq_true rfl), (Nat.le_of_ble_eq_true rfl)⟩ hP hS hl.1 (Nat.le_of_ble_eq_true rfl) dX10_lineUp_50 rfl ⟨(Nat.le_of_ble_eq_true rfl), (Nat.le_of_ble_eq_true rfl)⟩) hS (fun H locs hP hS => ?_)
  refine W.eq (g2 := F0 m 53 ls [cv Φ v6.1]) rfl ?_
  refine lv_pop hx hb dX10_lineUp_53 (cv_cat _ _) ?_
  obtain rfl := sj h
  exact c_wv X hP hS (Nat.le_of_ble_eq_true rfl) (Nat.le_of_ble_eq_true rfl) dX10_lineUp_54
set_option maxRecDepth 20000 in
set_option maxHeartbeats 4000000 in
theorem K_X10_lineUp (l : Launch) (D : cD) (Φ : cG) (σ : cS) (x0 : Nat) (x1 : Option Nat) {q : cS} (h : f_X10_lineUp x0 x1 σ = some q) : Met l yX10_lineUp (Cond.code yX10_lineUp cX10_lineUp 3 none :: BG) (rA 1 0 0 25) (cPc D Φ σ [cv Φ (some x0), cv Φ x1]) (cQw D Φ q none) 0 0 (cReg Φ) := by
  refine Met.ofW (cc := cX10_lineUp) (maxL := 3) (ret := none) (by decide) rfl ?_
  intro p e s m args below meth c s₁ B hml hv
  obtain ⟨rfl, hP, hK, hZ⟩ := hv
  have X : cX p s m [cv Φ (some x0), cv Φ x1].toArray meth c cX10_lineUp 3 none RX10 D Φ := cX_of B hml hK hZ
  have hx := X.1
  have hb := X.2.1
  have hown := X.2.2.2.1
  have hts := X.2.2.2.2.1
  have hl := lv_entry [cv Φ (some x0), cv Φ x1] (n := 3) (by simp only [lgs_r, lgs_i, lgs_l, lgs_0, List.length]; exact Nat.le_of_ble_eq_true rfl)
  rw [lg_entry_eq]
  generalize (lg_sl [cv Φ (some x0), cv Φ x1] ++ List.replicate (3 - (lg_sl [cv Φ (some x0), cv Φ x1]).length) Slot.unset).toArray = ls at hl ⊢
  simp only [lv_args_r, lv_args_i, lv_args_l, lv_args_0] at hl
  have hl : lv_has ls 3 [(0, cv Φ (some x0)), (1, cv Φ x1)] := hl
  have hS : va_S (cReg Φ) s.heap s.heap [] := va_S.rf
  show cWw p l e 1 0 0 25 s m [cv Φ (some x0), cv Φ x1].toArray below meth c D Φ q none s.heap [] 0 0 (F0 m 0 ls [])
  have h : ((gR σ x1 3 15).bind (fun v1 => if v1 = none then (f_X10_lineUp_32 x0 (x1) (x1) σ) else ((gI σ x1 3 1).bind (fun v2 => if v2 = (7:Int32) then ((gR σ x1 3 15).bind (fun v3 => (gR σ v3 3 10).bind (fun v4 => (rc σ (some x0) 10).bind (fun v5 => (f_X10_lineUpShown v5 (x1) (v4) (x1) σ).bind (fun v6 => f_X10_lineUp_32 x0 (x1) (v6.1) v6.2))))) else (f_X10_lineUp_32 x0 (x1) (x1) σ))))) = some q := h
  refine c_aload_n hx hb dX10_lineUp_0 rfl (lv_at hl 1 rfl) ?_
  refine c_astore_n hx hb dX10_lineUp_1 rfl hl (Nat.le_of_ble_eq_true rfl) (lvKa rfl (lvKr lvK0)) rfl (fun ls (hl : lv_has ls 3 [(2, cv Φ x1), (0, cv Φ (some x0)), (1, cv Φ x1)]) => ?_)
  refine c_aload_n hx hb dX10_lineUp_2 rfl (lv_at hl 2 rfl) ?_
  obtain ⟨v1, hv1, h⟩ := ob h
  refine c_gR X hP hv1 (Nat.le_of_ble_eq_true rfl) (Nat.le_of_ble_eq_true rfl) rfl w_271 dX10_lineUp_3 ?_
  refine c_ifnull (Φ := Φ) (tgt := 32) hx hb dX10_lineUp_6 rfl (fun hc => ?_) (fun hc => ?_)
  · have h := ip hc h
    exact N_X10_lineUp_32 X hP hS (lv_sub hl [1, 2, 0] rfl) h
  · have h := ine hc h
    refine c_aload_n hx hb dX10_lineUp_9 rfl (lv_at hl 2 rfl) ?_
    obtain ⟨v2, hv2, h⟩ := ob h
    refine c_gI X hP hv2 (Nat.le_of_ble_eq_true rfl) (Nat.le_of_ble_eq_true rfl) rfl w_231 dX10_lineUp_10 ?_
    refine lv_bipush (v := (7:Int32)) hx hb dX10_lineUp_13 (by decide) ?_
    refine lv_icmp_ne (tgt := 32) hx hb dX10_lineUp_15 rfl (fun hc => ?_) (fun hc => ?_)
    · have h := ine hc h
      exact N_X10_lineUp_32 X hP hS (lv_sub hl [1, 2, 0] rfl) h
    · have h := ip hc h
      refine c_aload_n hx hb dX10_lineUp_18 rfl (lv_at hl 1 rfl) ?_
      refine c_aload_n hx hb dX10_lineUp_19 rfl (lv_at hl 0 rfl) ?_
      refine c_aload_n hx hb dX10_lineUp_20 rfl (lv_at hl 2 rfl) ?_
      obtain ⟨v3, hv3, h⟩ := ob h
      refine c_gR X hP hv3 (Nat.le_of_ble_eq_true rfl) (Nat.le_of_ble_eq_true rfl) rfl w_271 dX10_lineUp_21 ?_
      obtain ⟨v4, hv4, h⟩ := ob h
      refine c_gR X hP hv4 (Nat.le_of_ble_eq_true rfl) (Nat.le_of_ble_eq_true rfl) rfl w_259 dX10_lineUp_24 ?_
      refine c_aload_n hx hb dX10_lineUp_27 rfl (lv_at hl 2 rfl) ?_
      obtain ⟨v5, hv5, h⟩ := ob h
      obtain ⟨v6, hv6, h⟩ := ob h
      refine c_cw (c_runV X (K_X10_lineUpShown l D Φ σ v5 (x1) (v4) (x1) hv6) hv5 ⟨Nat.le_of_ble_eq_true rfl, by decide⟩ ⟨w_814, ww_X10_lineUpShown⟩ rfl hy_X10_lineUpShown rfl ⟨(Nat.le_of_ble_eq_true rfl), (Nat.le_of_ble_eq_true rfl)⟩ hP hS hl.1 (Nat.le_of_ble_eq_true rfl) dX10_lineUp_28 rfl ⟨(Nat.le_of_ble_eq_true rfl), (Nat.le_of_ble_eq_true rfl)⟩) hS (fun H locs hP hS => ?_)
      refine W.eq (g2 := F0 m 31 ls [cv Φ v6.1]) rfl ?_
      refine c_astore_n hx hb dX10_lineUp_31 rfl hl (Nat.le_of_ble_eq_true rfl) (lvKa rfl (lvKa rfl (lvKr lvK0))) rfl (fun ls (hl : lv_has ls 3 [(2, cv Φ v6.1), (0, cv Φ (some x0)), (1, cv Φ x1)]) => ?_)
      exact N_X10_lineUp_32 X hP hS (lv_sub hl [1, 2, 0] rfl) h
theorem ww_X10_lineUp : Cond.instanceMethod yX10_lineUp ∈ BG ∧ Cond.selects (yX10_lineUp).cls yX10_lineUp yX10_lineUp ∈ BG ∧ Cond.initialized (yX10_lineUp).cls ∈ BG ∧ Cond.code yX10_lineUp cX10_lineUp 3 none ∈ BG := ⟨w_812, w_8, w_58, w_813⟩
theorem hy_X10_lineUp : (yX10_lineUp).cls ≠ "java/lang/invoke/MethodHandle" ∧ (yX10_lineUp).cls ≠ "java/lang/invoke/VarHandle" ∧ (parseMethodDescriptor (yX10_lineUp).desc).map (fun d => d.parameters.length) = some 1 := ⟨by decide, by decide, by decide +kernel⟩
def f_X10_layOut_122  (x0 : Nat)  (σ : cS) : Option (cS) := some σ
def f_X10_layOut_96  (x0 : Nat) : Nat → Option Nat → Int32 → cS → Option (cS)
  | 0, _, _, _ => none
  | n + 1, x1, x2, σ => if (30:Int32) ≤ x2 then (f_X10_layOut_122 x0 σ) else (if x1 = none then (f_X10_layOut_122 x0 σ) else ((rc σ (some x0) 10).bind (fun v1 => (f_X10_lineUp v1 (x1) σ).bind (fun v2 => (gR v2 x1 3 17).bind (fun v3 => f_X10_layOut_96 x0 n (v3) ((x2 + (1:Int32))) v2)))))
def f_X10_layOut_75 (k48 : Int32 → cS → Option (cS)) (x0 : Nat) (x1 : Int32) (σ : cS) : Option (cS) := k48 ((x1 + (1:Int32))) σ
def f_X10_layOut_48  (x0 : Nat) : Nat → Int32 → cS → Option (cS)
  | 0, _, _ => none
  | n + 1, x1, σ => (gI σ (some x0) 10 1).bind (fun v1 => if v1 ≤ x1 then ((gR σ (some x0) 10 0).bind (fun v2 => (pR σ v2 3 17 none).bind (fun v3 => (gR v3 (some x0) 10 0).bind (fun v4 => f_X10_layOut_96 x0 4000 (v4) ((0:Int32)) v3)))) else ((rc σ (some x0) 10).bind (fun v5 => (f_X10_at v5 (x1) σ).bind (fun v6 => if v6 = none then (f_X10_layOut_75 (f_X10_layOut_48 x0 n) x0 (x1) σ) else ((rc σ (some x0) 10).bind (fun v7 => (f_X10_findShownParent v7 (v6) σ).bind (fun v8 => (pR σ v6 3 16 v8).bind (fun v9 => f_X10_layOut_75 (f_X10_layOut_48 x0 n) x0 (x1) v9))))))))
def f_X10_layOut_40 (k17 : Int32 → cS → Option (cS)) (x0 : Nat) (x1 : Int32) (σ : cS) : Option (cS) := k17 ((x1 + (1:Int32))) σ
def f_X10_layOut_17  (x0 : Nat) : Nat → Int32 → cS → Option (cS)
  | 0, _, _ => none
  | n + 1, x1, σ => (gI σ (some x0) 10 1).bind (fun v1 => if v1 ≤ x1 then (f_X10_layOut_48 x0 4000 ((0:Int32)) σ) else ((rc σ (some x0) 10).bind (fun v2 => (f_X10_at v2 (x1) σ).bind (fun v3 => if v3 = none then (f_X10_layOut_40 (f_X10_layOut_17 x0 n) x0 (x1) σ) else ((rc σ (some x0) 10).bind (fun v4 => (f_X10_settle v4 (v3) σ).bind (fun v5 => f_X10_layOut_40 (f_X10_layOut_17 x0 n) x0 (x1) v5)))))))
def f_X10_layOut (x0 : Nat)  (σ : cS) : Option (cS) := (gI σ (some x0) 10 3).bind (fun v1 => (pI σ (some x0) 10 3 (v1 + (1:Int32))).bind (fun v2 => (pI v2 (some x0) 10 2 (0:Int32)).bind (fun v3 => f_X10_layOut_17 x0 4000 ((0:Int32)) v3)))
set_option maxRecDepth 20000 in
set_option maxHeartbeats 4000000 in
theorem N_X10_layOut_122 {p : Program} {l : Launch} {e : Env} {s : State} {m : MethodId} {args : Array Value} {below : List Frame} {meth : Method} {c : Code} {D : cD} {Φ : cG} {x0 : Nat}    {σ : cS} {H : Heap} {locs : List Loc} {ls : Array Slot} {q : cS} (X : cX p s m args meth c cX10_layOut 3 none RX10 D Φ) (hP : cP D Φ σ H) (hS : va_S (cReg Φ) s.heap H locs)  (hl : lv_has ls 3 []) (h : f_X10_layOut_122  x0  σ = some q) : cWw p l e 2 0 0 47 s m args below meth c D Φ q none H locs 0 0 (F0 m 122 ls []) := by
  have hx := X.1
  have hb := X.2.1
  have hown := X.2.2.2.1
  have hts := X.2.2.2.2.1
  have h : (some σ) = some q := h
  obtain rfl := sj h
  exact c_wv X hP hS (Nat.le_of_ble_eq_true rfl) (Nat.le_of_ble_eq_true rfl) dX10_layOut_122
set_option maxRecDepth 20000 in
set_option maxHeartbeats 4000000 in
theorem N_X10_layOut_96 {p : Program} {l : Launch} {e : Env} {s : State} {m : MethodId} {args : Array Value} {below : List Frame} {meth : Method} {c : Code} {D : cD} {Φ : cG} {x0 : Nat}  {n : Nat} {x1 : Option Nat} {x2 : Int32} {σ : cS} {H : Heap} {locs : List Loc} {ls : Array Slot} {q : cS} (X : cX p s m args meth c cX10_layOut 3 none RX10 D Φ) (hP : cP D Φ σ H) (hS : va_S (cReg Φ) s.heap H locs)  (hl : lv_has ls 3 [(0, cv Φ (some x0)), (1, cv Φ x1), (2, .int x2)]) (h : f_X10_layOut_96  x0 n x1 x2 σ = some q) : cWw p l e 2 0 0 47 s m args below meth c D Φ q none H locs 0 0 (F0 m 96 ls []) := by
  have hx := X.1
  have hb := X.2.1
  have hown := X.2.2.2.1
  have hts := X.2.2.2.2.1
  induction n generalizing x1 x2 σ H locs ls with
  | zero => exact absurd (show none = some q from h) (by simp)
  | succ n ih =>
    have h : (if (30:Int32) ≤ x2 then (f_X10_layOut_122 x0 σ) else (if x1 = none then (f_X10_layOut_122 x0 σ) else ((rc σ (some x0) 10).bind (fun v1 => (f_X10_lineUp v1 (x1) σ).bind (fun v2 => (gR v2 x1 3 17).bind (fun v3 => f_X10_layOut_96 x0 n (v3) ((x2 + (1:Int32))) v2)))))) = some q := h
    refine lv_iload_n hx hb dX10_layOut_96 rfl (lv_at hl 2 rfl) ?_
    refine lv_bipush (v := (30:Int32)) hx hb dX10_layOut_97 (by decide) ?_
    refine lv_icmp_ge (tgt := 122) hx hb dX10_layOut_99 rfl (fun hc => ?_) (fun hc => ?_)
    · have h := ip hc h
      exact N_X10_layOut_122 X hP hS (lv_sub hl [] rfl) h
    · have h := ine hc h
      refine c_aload_n hx hb dX10_layOut_102 rfl (lv_at hl 1 rfl) ?_
      refine c_ifnull (Φ := Φ) (tgt := 122) hx hb dX10_layOut_103 rfl (fun hc => ?_) (fun hc => ?_)
      · have h := ip hc h
        exact N_X10_layOut_122 X hP hS (lv_sub hl [] rfl) h
      · have h := ine hc h
        refine c_aload_n hx hb dX10_layOut_106 rfl (lv_at hl 0 rfl) ?_
        refine c_aload_n hx hb dX10_layOut_107 rfl (lv_at hl 1 rfl) ?_
        obtain ⟨v1, hv1, h⟩ := ob h
        obtain ⟨v2, hv2, h⟩ := ob h
        refine c_cw (c_runV X (K_X10_lineUp l D Φ σ v1 (x1) hv2) hv1 ⟨Nat.le_of_ble_eq_true rfl, by decide⟩ ⟨w_810, ww_X10_lineUp⟩ rfl hy_X10_lineUp rfl ⟨(Nat.le_of_ble_eq_true rfl), (Nat.le_of_ble_eq_true rfl)⟩ hP hS hl.1 (Nat.le_of_ble_eq_true rfl) dX10_layOut_108 rfl ⟨(Nat.le_of_ble_eq_true rfl), (Nat.le_of_ble_eq_true rfl)⟩) hS (fun H locs hP hS => ?_)
        refine W.eq (g2 := F0 m 111 ls []) rfl ?_
        refine c_aload_n hx hb dX10_layOut_111 rfl (lv_at hl 1 rfl) ?_
        obtain ⟨v3, hv3, h⟩ := ob h
        refine c_gR X hP hv3 (Nat.le_of_ble_eq_true rfl) (Nat.le_of_ble_eq_true rfl) rfl w_275 dX10_layOut_112 ?_
        refine c_astore_n hx hb dX10_layOut_115 rfl hl (Nat.le_of_ble_eq_true rfl) (lvKr (lvKa rfl (lvKa rfl lvK0))) rfl (fun ls (hl : lv_has ls 3 [(1, cv Φ v3), (0, cv Φ (some x0)), (2, .int x2)]) => ?_)
        refine c_iinc (v := (x2 + (1:Int32))) hx hb dX10_layOut_116 hl (k := 2) rfl rfl (Nat.le_of_ble_eq_true rfl) (lvKr (lvKa rfl (lvKa rfl lvK0))) rfl (fun ls (hl : lv_has ls 3 [(2, .int (x2 + (1:Int32))), (1, cv Φ v3), (0, cv Φ (some x0))]) => ?_)
        refine lv_goto (tgt := 96) hx hb dX10_layOut_119 rfl ?_
        exact ih hP hS (lv_sub hl [2, 1, 0] rfl) h
set_option maxRecDepth 20000 in
set_option maxHeartbeats 4000000 in
theorem N_X10_layOut_75 {p : Program} {l : Launch} {e : Env} {s : State} {m : MethodId} {args : Array Value} {below : List Frame} {meth : Method} {c : Code} {D : cD} {Φ : cG} {x0 : Nat} {k48 : Int32 → cS → Option (cS)}  {x1 : Int32} {σ : cS} {H : Heap} {locs : List Loc} {ls : Array Slot} {q : cS} (X : cX p s m args meth c cX10_layOut 3 none RX10 D Φ) (hP : cP D Φ σ H) (hS : va_S (cReg Φ) s.heap H locs) (hk48 : ∀ {x1 : Int32} {σ : cS} {H : Heap} {locs : List Loc} {ls : Array Slot}, cP D Φ σ H → va_S (cReg Φ) s.heap H locs → lv_has ls 3 [(0, cv Φ (some x0)), (1, .int x1)] → k48 x1 σ = some q → cWw p l e 2 0 0 47 s m args below meth c D Φ q none H locs 0 0 (F0 m 48 ls [])) (hl : lv_has ls 3 [(0, cv Φ (some x0)), (1, .int x1)]) (h : f_X10_layOut_75 k48 x0 x1 σ = some q) : cWw p l e 2 0 0 47 s m args below meth c D Φ q none H locs 0 0 (F0 m 75 ls []) := by
  have hx := X.1
  have hb := X.2.1
  have hown := X.2.2.2.1
  have hts := X.2.2.2.2.1
  have h : (k48 ((x1 + (1:Int32))) σ) = some q := h
  refine c_iinc (v := (x1 + (1:Int32))) hx hb dX10_layOut_75 hl (k := 1) rfl rfl (Nat.le_of_ble_eq_true rfl) (lvKr (lvKa rfl lvK0)) rfl (fun ls (hl : lv_has ls 3 [(1, .int (x1 + (1:Int32))), (0, cv Φ (some x0))]) => ?_)
  refine lv_goto (tgt := 48) hx hb dX10_layOut_78 rfl ?_
  exact hk48 hP hS (lv_sub hl [1, 0] rfl) h
set_option maxRecDepth 20000 in
set_option maxHeartbeats 4000000 in
theorem N_X10_layOut_48 {p : Program} {l : Launch} {e : Env} {s : State} {m : MethodId} {args : Array Value} {below : List Frame} {meth : Method} {c : Code} {D : cD} {Φ : cG} {x0 : Nat}  {n : Nat} {x1 : Int32} {σ : cS} {H : Heap} {locs : List Loc} {ls : Array Slot} {q : cS} (X : cX p s m args meth c cX10_layOut 3 none RX10 D Φ) (hP : cP D Φ σ H) (hS : va_S (cReg Φ) s.heap H locs)  (hl : lv_has ls 3 [(0, cv Φ (some x0)), (1, .int x1)]) (h : f_X10_layOut_48  x0 n x1 σ = some q) : cWw p l e 2 0 0 47 s m args below meth c D Φ q none H locs 0 0 (F0 m 48 ls []) := by
  have hx := X.1
  have hb := X.2.1
  have hown := X.2.2.2.1
  have hts := X.2.2.2.2.1
  induction n generalizing x1 σ H locs ls with
  | zero => exact absurd (show none = some q from h) (by simp)
  | succ n ih =>
    have h : ((gI σ (some x0) 10 1).bind (fun v1 => if v1 ≤ x1 then ((gR σ (some x0) 10 0).bind (fun v2 => (pR σ v2 3 17 none).bind (fun v3 => (gR v3 (some x0) 10 0).bind (fun v4 => f_X10_layOut_96 x0 4000 (v4) ((0:Int32)) v3)))) else ((rc σ (some x0) 10).bind (fun v5 => (f_X10_at v5 (x1) σ).bind (fun v6 => if v6 = none then (f_X10_layOut_75 (f_X10_layOut_48 x0 n) x0 (x1) σ) else ((rc σ (some x0) 10).bind (fun v7 => (f_X10_findShownParent v7 (v6) σ).bind (fun v8 => (pR σ v6 3 16 v8).bind (fun v9 => f_X10_layOut_75 (f_X10_layOut_48 x0 n) x0 (x1) v9))))))))) = some q := h
    refine lv_iload_n hx hb dX10_layOut_48 rfl (lv_at hl 1 rfl) ?_
    refine c_aload_n hx hb dX10_layOut_49 rfl (lv_at hl 0 rfl) ?_
    obtain ⟨v1, hv1, h⟩ := ob h
    refine c_gI X hP hv1 (Nat.le_of_ble_eq_true rfl) (Nat.le_of_ble_eq_true rfl) rfl w_328 dX10_layOut_50 ?_
    refine lv_icmp_ge (tgt := 81) hx hb dX10_layOut_53 rfl (fun hc => ?_) (fun hc => ?_)
    · have h := ip hc h
      refine c_aload_n hx hb dX10_layOut_81 rfl (lv_at hl 0 rfl) ?_
      obtain ⟨v2, hv2, h⟩ := ob h
      refine c_gR X hP hv2 (Nat.le_of_ble_eq_true rfl) (Nat.le_of_ble_eq_true rfl) rfl w_326 dX10_layOut_82 ?_
      refine c_null (Φ := Φ) hx hb dX10_layOut_85 ?_
      obtain ⟨v3, hv3, h⟩ := ob h
      refine c_pR X hP hS hv3 (Nat.le_of_ble_eq_true rfl) (Nat.le_of_ble_eq_true rfl) rfl (Or.inl rfl) w_275 dX10_layOut_86 (fun H locs hP hS => ?_)
      refine c_aload_n hx hb dX10_layOut_89 rfl (lv_at hl 0 rfl) ?_
      obtain ⟨v4, hv4, h⟩ := ob h
      refine c_gR X hP hv4 (Nat.le_of_ble_eq_true rfl) (Nat.le_of_ble_eq_true rfl) rfl w_326 dX10_layOut_90 ?_
      refine c_astore_n hx hb dX10_layOut_93 rfl hl (Nat.le_of_ble_eq_true rfl) (lvKr (lvKa rfl lvK0)) rfl (fun ls (hl : lv_has ls 3 [(1, cv Φ v4), (0, cv Φ (some x0))]) => ?_)
      refine lv_iconst (v := (0:Int32)) hx hb dX10_layOut_94 (by decide) ?_
      refine c_istore_n hx hb dX10_layOut_95 rfl hl (Nat.le_of_ble_eq_true rfl) (lvKr (lvKa rfl lvK0)) rfl (fun ls (hl : lv_has ls 3 [(2, .int (0:Int32)), (1, cv Φ v4), (0, cv Φ (some x0))]) => ?_)
      exact N_X10_layOut_96 X hP hS (lv_sub hl [2, 1, 0] rfl) h
    · have h := ine hc h
      refine c_aload_n hx hb dX10_layOut_56 rfl (lv_at hl 0 rfl) ?_
      refine lv_iload_n hx hb dX10_layOut_57 rfl (lv_at hl 1 rfl) ?_
      obtain ⟨v5, hv5, h⟩ := ob h
      obtain ⟨v6, hv6, h⟩ := ob h
      refine c_cr (c_runV X (K_X10_at l D Φ σ v5 (x1) hv6) hv5 ⟨Nat.le_of_ble_eq_true rfl, by decide⟩ ⟨w_785, ww_X10_at⟩ rfl hy_X10_at rfl ⟨(Nat.le_of_ble_eq_true rfl), (Nat.le_of_ble_eq_true rfl)⟩ hP hS hl.1 (Nat.le_of_ble_eq_true rfl) dX10_layOut_58 rfl ⟨(Nat.le_of_ble_eq_true rfl), (Nat.le_of_ble_eq_true rfl)⟩) ?_
      refine c_astore_n hx hb dX10_layOut_61 rfl hl (Nat.le_of_ble_eq_true rfl) (lvKa rfl (lvKi lvK0)) rfl (fun ls (hl : lv_has ls 3 [(2, cv Φ v6), (0, cv Φ (some x0)), (1, .int x1)]) => ?_)
      refine c_aload_n hx hb dX10_layOut_62 rfl (lv_at hl 0 rfl) ?_
      refine c_ifnull (Φ := Φ) (tgt := 75) hx hb dX10_layOut_63 rfl (fun hc => ?_) (fun hc => ?_)
      · have h := ip hc h
        exact N_X10_layOut_75 X hP hS ih (lv_sub hl [1, 2] rfl) h
      · have h := ine hc h
        refine c_aload_n hx hb dX10_layOut_66 rfl (lv_at hl 0 rfl) ?_
        refine c_aload_n hx hb dX10_layOut_67 rfl (lv_at hl 1 rfl) ?_
        refine c_aload_n hx hb dX10_layOut_68 rfl (lv_at hl 0 rfl) ?_
        obtain ⟨v7, hv7, h⟩ := ob h
        obtain ⟨v8, hv8, h⟩ := ob h
        refine c_cr (c_runV X (K_X10_findShownParent l D Φ σ v7 (v6) hv8) hv7 ⟨Nat.le_of_ble_eq_true rfl, by decide⟩ ⟨w_802, ww_X10_findShownParent⟩ rfl hy_X10_findShownParent rfl ⟨(Nat.le_of_ble_eq_true rfl), (Nat.le_of_ble_eq_true rfl)⟩ hP hS hl.1 (Nat.le_of_ble_eq_true rfl) dX10_layOut_69 rfl ⟨(Nat.le_of_ble_eq_true rfl), (Nat.le_of_ble_eq_true rfl)⟩) ?_
        obtain ⟨v9, hv9, h⟩ := ob h
        refine c_pR X hP hS hv9 (Nat.le_of_ble_eq_true rfl) (Nat.le_of_ble_eq_true rfl) rfl (Or.inl rfl) w_274 dX10_layOut_72 (fun H locs hP hS => ?_)
        exact N_X10_layOut_75 X hP hS ih (lv_sub hl [1, 2] rfl) h
set_option maxRecDepth 20000 in
set_option maxHeartbeats 4000000 in
theorem N_X10_layOut_40 {p : Program} {l : Launch} {e : Env} {s : State} {m : MethodId} {args : Array Value} {below : List Frame} {meth : Method} {c : Code} {D : cD} {Φ : cG} {x0 : Nat} {k17 : Int32 → cS → Option (cS)}  {x1 : Int32} {σ : cS} {H : Heap} {locs : List Loc} {ls : Array Slot} {q : cS} (X : cX p s m args meth c cX10_layOut 3 none RX10 D Φ) (hP : cP D Φ σ H) (hS : va_S (cReg Φ) s.heap H locs) (hk17 : ∀ {x1 : Int32} {σ : cS} {H : Heap} {locs : List Loc} {ls : Array Slot}, cP D Φ σ H → va_S (cReg Φ) s.heap H locs → lv_has ls 3 [(0, cv Φ (some x0)), (1, .int x1)] → k17 x1 σ = some q → cWw p l e 2 0 0 47 s m args below meth c D Φ q none H locs 0 0 (F0 m 17 ls [])) (hl : lv_has ls 3 [(0, cv Φ (some x0)), (1, .int x1)]) (h : f_X10_layOut_40 k17 x0 x1 σ = some q) : cWw p l e 2 0 0 47 s m args below meth c D Φ q none H locs 0 0 (F0 m 40 ls []) := by
  have hx := X.1
  have hb := X.2.1
  have hown := X.2.2.2.1
  have hts := X.2.2.2.2.1
  have h : (k17 ((x1 + (1:Int32))) σ) = some q := h
  refine c_iinc (v := (x1 + (1:Int32))) hx hb dX10_layOut_40 hl (k := 1) rfl rfl (Nat.le_of_ble_eq_true rfl) (lvKr (lvKa rfl lvK0)) rfl (fun ls (hl : lv_has ls 3 [(1, .int (x1 + (1:Int32))), (0, cv Φ (some x0))]) => ?_)
  refine lv_goto (tgt := 17) hx hb dX10_layOut_43 rfl ?_
  exact hk17 hP hS (lv_sub hl [1, 0] rfl) h
set_option maxRecDepth 20000 in
set_option maxHeartbeats 4000000 in
theorem N_X10_layOut_17 {p : Program} {l : Launch} {e : Env} {s : State} {m : MethodId} {args : Array Value} {below : List Frame} {meth : Method} {c : Code} {D : cD} {Φ : cG} {x0 : Nat}  {n : Nat} {x1 : Int32} {σ : cS} {H : Heap} {locs : List Loc} {ls : Array Slot} {q : cS} (X : cX p s m args meth c cX10_layOut 3 none RX10 D Φ) (hP : cP D Φ σ H) (hS : va_S (cReg Φ) s.heap H locs)  (hl : lv_has ls 3 [(0, cv Φ (some x0)), (1, .int x1)]) (h : f_X10_layOut_17  x0 n x1 σ = some q) : cWw p l e 2 0 0 47 s m args below meth c D Φ q none H locs 0 0 (F0 m 17 ls []) := by
  have hx := X.1
  have hb := X.2.1
  have hown := X.2.2.2.1
  have hts := X.2.2.2.2.1
  induction n generalizing x1 σ H locs ls with
  | zero => exact absurd (show none = some q from h) (by simp)
  | succ n ih =>
    have h : ((gI σ (some x0) 10 1).bind (fun v1 => if v1 ≤ x1 then (f_X10_layOut_48 x0 4000 ((0:Int32)) σ) else ((rc σ (some x0) 10).bind (fun v2 => (f_X10_at v2 (x1) σ).bind (fun v3 => if v3 = none then (f_X10_layOut_40 (f_X10_layOut_17 x0 n) x0 (x1) σ) else ((rc σ (some x0) 10).bind (fun v4 => (f_X10_settle v4 (v3) σ).bind (fun v5 => f_X10_layOut_40 (f_X10_layOut_17 x0 n) x0 (x1) v5)))))))) = some q := h
    refine lv_iload_n hx hb dX10_layOut_17 rfl (lv_at hl 1 rfl) ?_
    refine c_aload_n hx hb dX10_layOut_18 rfl (lv_at hl 0 rfl) ?_
    obtain ⟨v1, hv1, h⟩ := ob h
    refine c_gI X hP hv1 (Nat.le_of_ble_eq_true rfl) (Nat.le_of_ble_eq_true rfl) rfl w_328 dX10_layOut_19 ?_
    refine lv_icmp_ge (tgt := 46) hx hb dX10_layOut_22 rfl (fun hc => ?_) (fun hc => ?_)
    · have h := ip hc h
      refine lv_iconst (v := (0:Int32)) hx hb dX10_layOut_46 (by decide) ?_
      refine c_istore_n hx hb dX10_layOut_47 rfl hl (Nat.le_of_ble_eq_true rfl) (lvKr (lvKa rfl lvK0)) rfl (fun ls (hl : lv_has ls 3 [(1, .int (0:Int32)), (0, cv Φ (some x0))]) => ?_)
      exact N_X10_layOut_48 X hP hS (lv_sub hl [1, 0] rfl) h
    · have h := ine hc h
      refine c_aload_n hx hb dX10_layOut_25 rfl (lv_at hl 0 rfl) ?_
      refine lv_iload_n hx hb dX10_layOut_26 rfl (lv_at hl 1 rfl) ?_
      obtain ⟨v2, hv2, h⟩ := ob h
      obtain ⟨v3, hv3, h⟩ := ob h
      refine c_cr (c_runV X (K_X10_at l D Φ σ v2 (x1) hv3) hv2 ⟨Nat.le_of_ble_eq_true rfl, by decide⟩ ⟨w_785, ww_X10_at⟩ rfl hy_X10_at rfl ⟨(Nat.le_of_ble_eq_true rfl), (Nat.le_of_ble_eq_true rfl)⟩ hP hS hl.1 (Nat.le_of_ble_eq_true rfl) dX10_layOut_27 rfl ⟨(Nat.le_of_ble_eq_true rfl), (Nat.le_of_ble_eq_true rfl)⟩) ?_
      refine c_astore_n hx hb dX10_layOut_30 rfl hl (Nat.le_of_ble_eq_true rfl) (lvKa rfl (lvKi lvK0)) rfl (fun ls (hl : lv_has ls 3 [(2, cv Φ v3), (0, cv Φ (some x0)), (1, .int x1)]) => ?_)
      refine c_aload_n hx hb dX10_layOut_31 rfl (lv_at hl 0 rfl) ?_
      refine c_ifnull (Φ := Φ) (tgt := 40) hx hb dX10_layOut_32 rfl (fun hc => ?_) (fun hc => ?_)
      · have h := ip hc h
        exact N_X10_layOut_40 X hP hS ih (lv_sub hl [1, 2] rfl) h
      · have h := ine hc h
        refine c_aload_n hx hb dX10_layOut_35 rfl (lv_at hl 1 rfl) ?_
        refine c_aload_n hx hb dX10_layOut_36 rfl (lv_at hl 0 rfl) ?_
        obtain ⟨v4, hv4, h⟩ := ob h
        obtain ⟨v5, hv5, h⟩ := ob h
        refine c_cw (c_runV X (K_X10_settle l D Φ σ v4 (v3) hv5) hv4 ⟨Nat.le_of_ble_eq_true rfl, by decide⟩ ⟨w_786, ww_X10_settle⟩ rfl hy_X10_settle rfl ⟨(Nat.le_of_ble_eq_true rfl), (Nat.le_of_ble_eq_true rfl)⟩ hP hS hl.1 (Nat.le_of_ble_eq_true rfl) dX10_layOut_37 rfl ⟨(Nat.le_of_ble_eq_true rfl), (Nat.le_of_ble_eq_true rfl)⟩) hS (fun H locs hP hS => ?_)
        refine W.eq (g2 := F0 m 40 ls []) rfl ?_
        exact N_X10_layOut_40 X hP hS ih (lv_sub hl [1, 2] rfl) h
set_option maxRecDepth 20000 in
set_option maxHeartbeats 4000000 in
theorem K_X10_layOut (l : Launch) (D : cD) (Φ : cG) (σ : cS) (x0 : Nat)  {q : cS} (h : f_X10_layOut x0  σ = some q) : Met l yX10_layOut (Cond.code yX10_layOut cX10_layOut 3 none :: BG) (rA 2 0 0 47) (cPc D Φ σ [cv Φ (some x0)]) (cQw D Φ q none) 0 0 (cReg Φ) := by
  refine Met.ofW (cc := cX10_layOut) (maxL := 3) (ret := none) (by decide) rfl ?_
  intro p e s m args below meth c s₁ B hml hv
  obtain ⟨rfl, hP, hK, hZ⟩ := hv
  have X : cX p s m [cv Φ (some x0)].toArray meth c cX10_layOut 3 none RX10 D Φ := cX_of B hml hK hZ
  have hx := X.1
  have hb := X.2.1
  have hown := X.2.2.2.1
  have hts := X.2.2.2.2.1
  have hl := lv_entry [cv Φ (some x0)] (n := 3) (by simp only [lgs_r, lgs_i, lgs_l, lgs_0, List.length]; exact Nat.le_of_ble_eq_true rfl)
  rw [lg_entry_eq]
  generalize (lg_sl [cv Φ (some x0)] ++ List.replicate (3 - (lg_sl [cv Φ (some x0)]).length) Slot.unset).toArray = ls at hl ⊢
  simp only [lv_args_r, lv_args_i, lv_args_l, lv_args_0] at hl
  have hl : lv_has ls 3 [(0, cv Φ (some x0))] := hl
  have hS : va_S (cReg Φ) s.heap s.heap [] := va_S.rf
  show cWw p l e 2 0 0 47 s m [cv Φ (some x0)].toArray below meth c D Φ q none s.heap [] 0 0 (F0 m 0 ls [])
  have h : ((gI σ (some x0) 10 3).bind (fun v1 => (pI σ (some x0) 10 3 (v1 + (1:Int32))).bind (fun v2 => (pI v2 (some x0) 10 2 (0:Int32)).bind (fun v3 => f_X10_layOut_17 x0 4000 ((0:Int32)) v3)))) = some q := h
  refine c_aload_n hx hb dX10_layOut_0 rfl (lv_at hl 0 rfl) ?_
  refine c_dupq hx hb dX10_layOut_1 ?_
  obtain ⟨v1, hv1, h⟩ := ob h
  refine c_gI X hP hv1 (Nat.le_of_ble_eq_true rfl) (Nat.le_of_ble_eq_true rfl) rfl w_335 dX10_layOut_2 ?_
  refine lv_iconst (v := (1:Int32)) hx hb dX10_layOut_5 (by decide) ?_
  refine lv_iadd hx hb dX10_layOut_6 ?_
  obtain ⟨v2, hv2, h⟩ := ob h
  refine c_pI X hP hS hv2 (Nat.le_of_ble_eq_true rfl) (Nat.le_of_ble_eq_true rfl) rfl rfl (Or.inl rfl) w_335 dX10_layOut_7 (fun H locs hP hS => ?_)
  refine c_aload_n hx hb dX10_layOut_10 rfl (lv_at hl 0 rfl) ?_
  refine lv_iconst (v := (0:Int32)) hx hb dX10_layOut_11 (by decide) ?_
  obtain ⟨v3, hv3, h⟩ := ob h
  refine c_pI X hP hS hv3 (Nat.le_of_ble_eq_true rfl) (Nat.le_of_ble_eq_true rfl) rfl rfl (Or.inl rfl) w_331 dX10_layOut_12 (fun H locs hP hS => ?_)
  refine lv_iconst (v := (0:Int32)) hx hb dX10_layOut_15 (by decide) ?_
  refine c_istore_n hx hb dX10_layOut_16 rfl hl (Nat.le_of_ble_eq_true rfl) (lvKr lvK0) rfl (fun ls (hl : lv_has ls 3 [(1, .int (0:Int32)), (0, cv Φ (some x0))]) => ?_)
  exact N_X10_layOut_17 X hP hS (lv_sub hl [1, 0] rfl) h
theorem ww_X10_layOut : Cond.instanceMethod yX10_layOut ∈ BG ∧ Cond.selects (yX10_layOut).cls yX10_layOut yX10_layOut ∈ BG ∧ Cond.initialized (yX10_layOut).cls ∈ BG ∧ Cond.code yX10_layOut cX10_layOut 3 none ∈ BG := ⟨w_782, w_783, w_58, w_784⟩
theorem hy_X10_layOut : (yX10_layOut).cls ≠ "java/lang/invoke/MethodHandle" ∧ (yX10_layOut).cls ≠ "java/lang/invoke/VarHandle" ∧ (parseMethodDescriptor (yX10_layOut).desc).map (fun d => d.parameters.length) = some 0 := ⟨by decide, by decide, by decide +kernel⟩
def f_X10_insert_60  (x0 : Nat) (x1 : Option Nat) (x2 : Option Nat) (x3 : Option Nat) (x5 : Option Nat) (x6 : Option Nat) (σ : cS) : Option (cS) := (pR σ x1 3 8 x2).bind (fun v1 => (pR v1 x1 3 9 x3).bind (fun v2 => (rc v2 (some x0) 10).bind (fun v3 => (f_X10_link v3 (x1) (x5) (x1) v2).bind (fun v4 => (rc v4 (some x0) 10).bind (fun v5 => (f_X10_link v5 (x1) (x1) (x6) v4).bind (fun v6 => (rc v6 (some x0) 10).bind (fun v7 => (f_X10_layOut v7  v6).bind (fun v8 => some v8))))))))
def f_X10_insert_31  (x0 : Nat) : Nat → Option Nat → Option Nat → Option Nat → Int32 → Option Nat → Option Nat → Int32 → cS → Option (cS)
  | 0, _, _, _, _, _, _, _, _ => none
  | n + 1, x1, x2, x3, x4, x5, x6, x7, σ => if x4 ≤ x7 then (f_X10_insert_60 x0 (x1) (x2) (x3) (x5) (x6) σ) else (if x6 = none then (f_X10_insert_60 x0 (x1) (x2) (x3) (x5) (x6) σ) else ((gR σ x6 3 12).bind (fun v1 => f_X10_insert_31 x0 n (x1) (x2) (x3) (x4) (x6) (v1) ((x7 + (1:Int32))) σ)))
def f_X10_insert_26  (x0 : Nat) (x1 : Option Nat) (x2 : Option Nat) (x3 : Option Nat) (x4 : Int32) (x5 : Option Nat) (y0 : Option Nat) (σ : cS) : Option (cS) := f_X10_insert_31 x0 4000 (x1) (x2) (x3) (x4) (x5) (y0) ((0:Int32)) σ
def f_X10_insert (x0 : Nat) (x1 : Option Nat) (x2 : Option Nat) (x3 : Option Nat) (x4 : Int32) (σ : cS) : Option (cS) := if x2 = none then (if x3 = none then (f_X10_insert_26 x0 (x1) (x2) (x3) (x4) (none) (none) σ) else ((gR σ x3 3 11).bind (fun v1 => f_X10_insert_26 x0 (x1) (x2) (x3) (x4) (none) (v1) σ))) else ((gR σ x2 3 10).bind (fun v2 => f_X10_insert_26 x0 (x1) (x2) (x3) (x4) (none) (v2) σ))
set_option maxRecDepth 20000 in
set_option maxHeartbeats 4000000 in
theorem N_X10_insert_60 {p : Program} {l : Launch} {e : Env} {s : State} {m : MethodId} {args : Array Value} {below : List Frame} {meth : Method} {c : Code} {D : cD} {Φ : cG} {x0 : Nat}   {x1 : Option Nat} {x2 : Option Nat} {x3 : Option Nat} {x5 : Option Nat} {x6 : Option Nat} {σ : cS} {H : Heap} {locs : List Loc} {ls : Array Slot} {q : cS} (X : cX p s m args meth c cX10_insert 8 none RX10 D Φ) (hP : cP D Φ σ H) (hS : va_S (cReg Φ) s.heap H locs)  (hl : lv_has ls 8 [(0, cv Φ (some x0)), (1, cv Φ x1), (2, cv Φ x2), (3, cv Φ x3), (5, cv Φ x5), (6, cv Φ x6)]) (h : f_X10_insert_60  x0 x1 x2 x3 x5 x6 σ = some q) : cWw p l e 3 0 0 69 s m args below meth c D Φ q none H locs 0 0 (F0 m 60 ls []) := by
  have hx := X.1
  have hb := X.2.1
  have hown := X.2.2.2.1
  have hts := X.2.2.2.2.1
  have h : ((pR σ x1 3 8 x2).bind (fun v1 => (pR v1 x1 3 9 x3).bind (fun v2 => (rc v2 (some x0) 10).bind (fun v3 => (f_X10_link v3 (x1) (x5) (x1) v2).bind (fun v4 => (rc v4 (some x0) 10).bind (fun v5 => (f_X10_link v5 (x1) (x1) (x6) v4).bind (fun v6 => (rc v6 (some x0) 10).bind (fun v7 => (f_X10_layOut v7  v6).bind (fun v8 => some v8))))))))) = some q := h
  refine c_aload_n hx hb dX10_insert_60 rfl (lv_at hl 1 rfl) ?_
  refine c_aload_n hx hb dX10_insert_61 rfl (lv_at hl 2 rfl) ?_
  obtain ⟨v1, hv1, h⟩ := ob h
  refine c_pR X hP hS hv1 (Nat.le_of_ble_eq_true rfl) (Nat.le_of_ble_eq_true rfl) rfl (Or.inl rfl) w_252 dX10_insert_62 (fun H locs hP hS => ?_)
  refine c_aload_n hx hb dX10_insert_65 rfl (lv_at hl 1 rfl) ?_
  refine c_aload_n hx hb dX10_insert_66 rfl (lv_at hl 3 rfl) ?_
  obtain ⟨v2, hv2, h⟩ := ob h
  refine c_pR X hP hS hv2 (Nat.le_of_ble_eq_true rfl) (Nat.le_of_ble_eq_true rfl) rfl (Or.inl rfl) w_256 dX10_insert_67 (fun H locs hP hS => ?_)
  refine c_aload_n hx hb dX10_insert_70 rfl (lv_at hl 0 rfl) ?_
  refine c_aload_n hx hb dX10_insert_71 rfl (lv_at hl 1 rfl) ?_
  refine c_aload hx hb dX10_insert_72 (lv_at hl 4 rfl) ?_
  refine c_aload_n hx hb dX10_insert_74 rfl (lv_at hl 1 rfl) ?_
  obtain ⟨v3, hv3, h⟩ := ob h
  obtain ⟨v4, hv4, h⟩ := ob h
  refine c_cw (c_runV X (K_X10_link l D Φ v2 v3 (x1) (x5) (x1) hv4) hv3 ⟨Nat.le_of_ble_eq_true rfl, by decide⟩ ⟨w_777, ww_X10_link⟩ rfl hy_X10_link rfl ⟨(Nat.le_of_ble_eq_true rfl), (Nat.le_of_ble_eq_true rfl)⟩ hP hS hl.1 (Nat.le_of_ble_eq_true rfl) dX10_insert_75 rfl ⟨(Nat.le_of_ble_eq_true rfl), (Nat.le_of_ble_eq_true rfl)⟩) hS (fun H locs hP hS => ?_)
  refine W.eq (g2 := F0 m 78 ls []) rfl ?_
  refine c_aload_n hx hb dX10_insert_78 rfl (lv_at hl 0 rfl) ?_
  refine c_aload_n hx hb dX10_insert_79 rfl (lv_at hl 1 rfl) ?_
  refine c_aload_n hx hb dX10_insert_80 rfl (lv_at hl 1 rfl) ?_
  refine c_aload hx hb dX10_insert_81 (lv_at hl 5 rfl) ?_
  obtain ⟨v5, hv5, h⟩ := ob h
  obtain ⟨v6, hv6, h⟩ := ob h
  refine c_cw (c_runV X (K_X10_link l D Φ v4 v5 (x1) (x1) (x6) hv6) hv5 ⟨Nat.le_of_ble_eq_true rfl, by decide⟩ ⟨w_777, ww_X10_link⟩ rfl hy_X10_link rfl ⟨(Nat.le_of_ble_eq_true rfl), (Nat.le_of_ble_eq_true rfl)⟩ hP hS hl.1 (Nat.le_of_ble_eq_true rfl) dX10_insert_83 rfl ⟨(Nat.le_of_ble_eq_true rfl), (Nat.le_of_ble_eq_true rfl)⟩) hS (fun H locs hP hS => ?_)
  refine W.eq (g2 := F0 m 86 ls []) rfl ?_
  refine c_aload_n hx hb dX10_insert_86 rfl (lv_at hl 0 rfl) ?_
  obtain ⟨v7, hv7, h⟩ := ob h
  obtain ⟨v8, hv8, h⟩ := ob h
  refine c_cw (c_runV X (K_X10_layOut l D Φ v6 v7  hv8) hv7 ⟨Nat.le_of_ble_eq_true rfl, by decide⟩ ⟨w_781, ww_X10_layOut⟩ rfl hy_X10_layOut rfl ⟨(Nat.le_of_ble_eq_true rfl), (Nat.le_of_ble_eq_true rfl)⟩ hP hS hl.1 (Nat.le_of_ble_eq_true rfl) dX10_insert_87 rfl ⟨(Nat.le_of_ble_eq_true rfl), (Nat.le_of_ble_eq_true rfl)⟩) hS (fun H locs hP hS => ?_)
  refine W.eq (g2 := F0 m 90 ls []) rfl ?_
  obtain rfl := sj h
  exact c_wv X hP hS (Nat.le_of_ble_eq_true rfl) (Nat.le_of_ble_eq_true rfl) dX10_insert_90
set_option maxRecDepth 20000 in
set_option maxHeartbeats 4000000 in
theorem N_X10_insert_31 {p : Program} {l : Launch} {e : Env} {s : State} {m : MethodId} {args : Array Value} {below : List Frame} {meth : Method} {c : Code} {D : cD} {Φ : cG} {x0 : Nat}  {n : Nat} {x1 : Option Nat} {x2 : Option Nat} {x3 : Option Nat} {x4 : Int32} {x5 : Option Nat} {x6 : Option Nat} {x7 : Int32} {σ : cS} {H : Heap} {locs : List Loc} {ls : Array Slot} {q : cS} (X : cX p s m args meth c cX10_insert 8 none RX10 D Φ) (hP : cP D Φ σ H) (hS : va_S (cReg Φ) s.heap H locs)  (hl : lv_has ls 8 [(0, cv Φ (some x0)), (1, cv Φ x1), (2, cv Φ x2), (3, cv Φ x3), (4, .int x4), (5, cv Φ x5), (6, cv Φ x6), (7, .int x7)]) (h : f_X10_insert_31  x0 n x1 x2 x3 x4 x5 x6 x7 σ = some q) : cWw p l e 3 0 0 69 s m args below meth c D Φ q none H locs 0 0 (F0 m 31 ls []) := by
  have hx := X.1
  have hb := X.2.1
  have hown := X.2.2.2.1
  have hts := X.2.2.2.2.1
  induction n generalizing x1 x2 x3 x4 x5 x6 x7 σ H locs ls with
  | zero => exact absurd (show none = some q from h) (by simp)
  | succ n ih =>
    have h : (if x4 ≤ x7 then (f_X10_insert_60 x0 (x1) (x2) (x3) (x5) (x6) σ) else (if x6 = none then (f_X10_insert_60 x0 (x1) (x2) (x3) (x5) (x6) σ) else ((gR σ x6 3 12).bind (fun v1 => f_X10_insert_31 x0 n (x1) (x2) (x3) (x4) (x6) (v1) ((x7 + (1:Int32))) σ)))) = some q := h
    refine lv_iload hx hb dX10_insert_31 (lv_at hl 7 rfl) ?_
    refine lv_iload hx hb dX10_insert_33 (lv_at hl 4 rfl) ?_
    refine lv_icmp_ge (tgt := 60) hx hb dX10_insert_35 rfl (fun hc => ?_) (fun hc => ?_)
    · have h := ip hc h
      exact N_X10_insert_60 X hP hS (lv_sub hl [0, 1, 2, 3, 5, 6] rfl) h
    · have h := ine hc h
      refine c_aload hx hb dX10_insert_38 (lv_at hl 6 rfl) ?_
      refine c_ifnull (Φ := Φ) (tgt := 60) hx hb dX10_insert_40 rfl (fun hc => ?_) (fun hc => ?_)
      · have h := ip hc h
        exact N_X10_insert_60 X hP hS (lv_sub hl [0, 1, 2, 3, 5, 6] rfl) h
      · have h := ine hc h
        refine c_aload hx hb dX10_insert_43 (lv_at hl 6 rfl) ?_
        refine c_astore hx hb dX10_insert_45 hl (Nat.le_of_ble_eq_true rfl) (lvKa rfl (lvKa rfl (lvKa rfl (lvKa rfl (lvKi (lvKa rfl (lvKa rfl (lvKa rfl lvK0)))))))) rfl (fun ls (hl : lv_has ls 8 [(5, cv Φ x6), (0, cv Φ (some x0)), (1, cv Φ x1), (2, cv Φ x2), (3, cv Φ x3), (4, .int x4), (6, cv Φ x6), (7, .int x7)]) => ?_)
        refine c_aload hx hb dX10_insert_47 (lv_at hl 6 rfl) ?_
        obtain ⟨v1, hv1, h⟩ := ob h
        refine c_gR X hP hv1 (Nat.le_of_ble_eq_true rfl) (Nat.le_of_ble_eq_true rfl) rfl w_263 dX10_insert_49 ?_
        refine c_astore hx hb dX10_insert_52 hl (Nat.le_of_ble_eq_true rfl) (lvKr (lvKa rfl (lvKa rfl (lvKa rfl (lvKa rfl (lvKa rfl (lvKa rfl (lvKa rfl lvK0)))))))) rfl (fun ls (hl : lv_has ls 8 [(6, cv Φ v1), (5, cv Φ x6), (0, cv Φ (some x0)), (1, cv Φ x1), (2, cv Φ x2), (3, cv Φ x3), (4, .int x4), (7, .int x7)]) => ?_)
        refine c_iinc (v := (x7 + (1:Int32))) hx hb dX10_insert_54 hl (k := 7) rfl rfl (Nat.le_of_ble_eq_true rfl) (lvKr (lvKa rfl (lvKa rfl (lvKa rfl (lvKa rfl (lvKa rfl (lvKa rfl (lvKa rfl lvK0)))))))) rfl (fun ls (hl : lv_has ls 8 [(7, .int (x7 + (1:Int32))), (6, cv Φ v1), (5, cv Φ x6), (0, cv Φ (some x0)), (1, cv Φ x1), (2, cv Φ x2), (3, cv Φ x3), (4, .int x4)]) => ?_)
        refine lv_goto (tgt := 31) hx hb dX10_insert_57 rfl ?_
        exact ih hP hS (lv_sub hl [3, 4, 5, 6, 7, 2, 1, 0] rfl) h
set_option maxRecDepth 20000 in
set_option maxHeartbeats 4000000 in
theorem N_X10_insert_26 {p : Program} {l : Launch} {e : Env} {s : State} {m : MethodId} {args : Array Value} {below : List Frame} {meth : Method} {c : Code} {D : cD} {Φ : cG} {x0 : Nat}   {x1 : Option Nat} {x2 : Option Nat} {x3 : Option Nat} {x4 : Int32} {x5 : Option Nat} {y0 : Option Nat} {σ : cS} {H : Heap} {locs : List Loc} {ls : Array Slot} {q : cS} (X : cX p s m args meth c cX10_insert 8 none RX10 D Φ) (hP : cP D Φ σ H) (hS : va_S (cReg Φ) s.heap H locs)  (hl : lv_has ls 8 [(0, cv Φ (some x0)), (1, cv Φ x1), (2, cv Φ x2), (3, cv Φ x3), (4, .int x4), (5, cv Φ x5)]) (h : f_X10_insert_26  x0 x1 x2 x3 x4 x5 y0 σ = some q) : cWw p l e 3 0 0 69 s m args below meth c D Φ q none H locs 0 0 (F0 m 26 ls [cv Φ y0]) := by
  have hx := X.1
  have hb := X.2.1
  have hown := X.2.2.2.1
  have hts := X.2.2.2.2.1
  have h : (f_X10_insert_31 x0 4000 (x1) (x2) (x3) (x4) (x5) (y0) ((0:Int32)) σ) = some q := h
  refine c_astore hx hb dX10_insert_26 hl (Nat.le_of_ble_eq_true rfl) (lvKa rfl (lvKa rfl (lvKa rfl (lvKa rfl (lvKa rfl (lvKr lvK0)))))) rfl (fun ls (hl : lv_has ls 8 [(6, cv Φ y0), (0, cv Φ (some x0)), (1, cv Φ x1), (2, cv Φ x2), (3, cv Φ x3), (4, .int x4), (5, cv Φ x5)]) => ?_)
  refine lv_iconst (v := (0:Int32)) hx hb dX10_insert_28 (by decide) ?_
  refine c_istore hx hb dX10_insert_29 hl (Nat.le_of_ble_eq_true rfl) (lvKr (lvKa rfl (lvKa rfl (lvKa rfl (lvKa rfl (lvKa rfl (lvKa rfl lvK0))))))) rfl (fun ls (hl : lv_has ls 8 [(7, .int (0:Int32)), (6, cv Φ y0), (0, cv Φ (some x0)), (1, cv Φ x1), (2, cv Φ x2), (3, cv Φ x3), (4, .int x4), (5, cv Φ x5)]) => ?_)
  exact N_X10_insert_31 X hP hS (lv_sub hl [2, 3, 4, 5, 6, 7, 1, 0] rfl) h
set_option maxRecDepth 20000 in
set_option maxHeartbeats 4000000 in
theorem K_X10_insert (l : Launch) (D : cD) (Φ : cG) (σ : cS) (x0 : Nat) (x1 : Option Nat) (x2 : Option Nat) (x3 : Option Nat) (x4 : Int32) {q : cS} (h : f_X10_insert x0 x1 x2 x3 x4 σ = some q) : Met l yX10_insert (Cond.code yX10_insert cX10_insert 8 none :: BG) (rA 3 0 0 69) (cPc D Φ σ [cv Φ (some x0), cv Φ x1, cv Φ x2, cv Φ x3, .int x4]) (cQw D Φ q none) 0 0 (cReg Φ) := by
  refine Met.ofW (cc := cX10_insert) (maxL := 8) (ret := none) (by decide) rfl ?_
  intro p e s m args below meth c s₁ B hml hv
  obtain ⟨rfl, hP, hK, hZ⟩ := hv
  have X : cX p s m [cv Φ (some x0), cv Φ x1, cv Φ x2, cv Φ x3, .int x4].toArray meth c cX10_insert 8 none RX10 D Φ := cX_of B hml hK hZ
  have hx := X.1
  have hb := X.2.1
  have hown := X.2.2.2.1
  have hts := X.2.2.2.2.1
  have hl := lv_entry [cv Φ (some x0), cv Φ x1, cv Φ x2, cv Φ x3, .int x4] (n := 8) (by simp only [lgs_r, lgs_i, lgs_l, lgs_0, List.length]; exact Nat.le_of_ble_eq_true rfl)
  rw [lg_entry_eq]
  generalize (lg_sl [cv Φ (some x0), cv Φ x1, cv Φ x2, cv Φ x3, .int x4] ++ List.replicate (8 - (lg_sl [cv Φ (some x0), cv Φ x1, cv Φ x2, cv Φ x3, .int x4]).length) Slot.unset).toArray = ls at hl ⊢
  simp only [lv_args_r, lv_args_i, lv_args_l, lv_args_0] at hl
  have hl : lv_has ls 8 [(0, cv Φ (some x0)), (1, cv Φ x1), (2, cv Φ x2), (3, cv Φ x3), (4, .int x4)] := hl
  have hS : va_S (cReg Φ) s.heap s.heap [] := va_S.rf
  show cWw p l e 3 0 0 69 s m [cv Φ (some x0), cv Φ x1, cv Φ x2, cv Φ x3, .int x4].toArray below meth c D Φ q none s.heap [] 0 0 (F0 m 0 ls [])
  have h : (if x2 = none then (if x3 = none then (f_X10_insert_26 x0 (x1) (x2) (x3) (x4) (none) (none) σ) else ((gR σ x3 3 11).bind (fun v1 => f_X10_insert_26 x0 (x1) (x2) (x3) (x4) (none) (v1) σ))) else ((gR σ x2 3 10).bind (fun v2 => f_X10_insert_26 x0 (x1) (x2) (x3) (x4) (none) (v2) σ))) = some q := h
  refine c_null (Φ := Φ) hx hb dX10_insert_0 ?_
  refine c_astore hx hb dX10_insert_1 hl (Nat.le_of_ble_eq_true rfl) (lvKa rfl (lvKa rfl (lvKa rfl (lvKa rfl (lvKi lvK0))))) rfl (fun ls (hl : lv_has ls 8 [(5, cv Φ none), (0, cv Φ (some x0)), (1, cv Φ x1), (2, cv Φ x2), (3, cv Φ x3), (4, .int x4)]) => ?_)
  refine c_aload_n hx hb dX10_insert_3 rfl (lv_at hl 3 rfl) ?_
  refine c_ifnull (Φ := Φ) (tgt := 14) hx hb dX10_insert_4 rfl (fun hc => ?_) (fun hc => ?_)
  · have h := ip hc h
    refine c_aload_n hx hb dX10_insert_14 rfl (lv_at hl 4 rfl) ?_
    refine c_ifnull (Φ := Φ) (tgt := 25) hx hb dX10_insert_15 rfl (fun hc => ?_) (fun hc => ?_)
    · have h := ip hc h
      refine c_null (Φ := Φ) hx hb dX10_insert_25 ?_
      exact N_X10_insert_26 X hP hS (lv_sub hl [1, 2, 3, 4, 5, 0] rfl) h
    · have h := ine hc h
      refine c_aload_n hx hb dX10_insert_18 rfl (lv_at hl 4 rfl) ?_
      obtain ⟨v1, hv1, h⟩ := ob h
      refine c_gR X hP hv1 (Nat.le_of_ble_eq_true rfl) (Nat.le_of_ble_eq_true rfl) rfl w_261 dX10_insert_19 ?_
      refine lv_goto (tgt := 26) hx hb dX10_insert_22 rfl ?_
      exact N_X10_insert_26 X hP hS (lv_sub hl [1, 2, 3, 4, 5, 0] rfl) h
  · have h := ine hc h
    refine c_aload_n hx hb dX10_insert_7 rfl (lv_at hl 3 rfl) ?_
    obtain ⟨v2, hv2, h⟩ := ob h
    refine c_gR X hP hv2 (Nat.le_of_ble_eq_true rfl) (Nat.le_of_ble_eq_true rfl) rfl w_259 dX10_insert_8 ?_
    refine lv_goto (tgt := 26) hx hb dX10_insert_11 rfl ?_
    exact N_X10_insert_26 X hP hS (lv_sub hl [1, 2, 3, 4, 5, 0] rfl) h
theorem ww_X10_insert : Cond.instanceMethod yX10_insert ∈ BG ∧ Cond.selects (yX10_insert).cls yX10_insert yX10_insert ∈ BG ∧ Cond.initialized (yX10_insert).cls ∈ BG ∧ Cond.code yX10_insert cX10_insert 8 none ∈ BG := ⟨w_774, w_775, w_58, w_776⟩
theorem hy_X10_insert : (yX10_insert).cls ≠ "java/lang/invoke/MethodHandle" ∧ (yX10_insert).cls ≠ "java/lang/invoke/VarHandle" ∧ (parseMethodDescriptor (yX10_insert).desc).map (fun d => d.parameters.length) = some 4 := ⟨by decide, by decide, by decide +kernel⟩
def f_X10_remove (x0 : Nat) (x1 : Option Nat) (σ : cS) : Option (cS) := (gR σ x1 3 13).bind (fun v1 => (gR σ x1 3 12).bind (fun v2 => (rc σ (some x0) 10).bind (fun v3 => (f_X10_link v3 (x1) (v1) (v2) σ).bind (fun v4 => (pR v4 x1 3 8 none).bind (fun v5 => (pR v5 x1 3 9 none).bind (fun v6 => (pR v6 x1 3 12 none).bind (fun v7 => (pR v7 x1 3 13 none).bind (fun v8 => (rc v8 (some x0) 10).bind (fun v9 => (f_X10_layOut v9  v8).bind (fun v10 => some v10))))))))))
set_option maxRecDepth 20000 in
set_option maxHeartbeats 4000000 in
theorem K_X10_remove (l : Launch) (D : cD) (Φ : cG) (σ : cS) (x0 : Nat) (x1 : Option Nat) {q : cS} (h : f_X10_remove x0 x1 σ = some q) : Met l yX10_remove (Cond.code yX10_remove cX10_remove 2 none :: BG) (rA 3 0 0 69) (cPc D Φ σ [cv Φ (some x0), cv Φ x1]) (cQw D Φ q none) 0 0 (cReg Φ) := by
  refine Met.ofW (cc := cX10_remove) (maxL := 2) (ret := none) (by decide) rfl ?_
  intro p e s m args below meth c s₁ B hml hv
  obtain ⟨rfl, hP, hK, hZ⟩ := hv
  have X : cX p s m [cv Φ (some x0), cv Φ x1].toArray meth c cX10_remove 2 none RX10 D Φ := cX_of B hml hK hZ
  have hx := X.1
  have hb := X.2.1
  have hown := X.2.2.2.1
  have hts := X.2.2.2.2.1
  have hl := lv_entry [cv Φ (some x0), cv Φ x1] (n := 2) (by simp only [lgs_r, lgs_i, lgs_l, lgs_0, List.length]; exact Nat.le_of_ble_eq_true rfl)
  rw [lg_entry_eq]
  generalize (lg_sl [cv Φ (some x0), cv Φ x1] ++ List.replicate (2 - (lg_sl [cv Φ (some x0), cv Φ x1]).length) Slot.unset).toArray = ls at hl ⊢
  simp only [lv_args_r, lv_args_i, lv_args_l, lv_args_0] at hl
  have hl : lv_has ls 2 [(0, cv Φ (some x0)), (1, cv Φ x1)] := hl
  have hS : va_S (cReg Φ) s.heap s.heap [] := va_S.rf
  show cWw p l e 3 0 0 69 s m [cv Φ (some x0), cv Φ x1].toArray below meth c D Φ q none s.heap [] 0 0 (F0 m 0 ls [])
  have h : ((gR σ x1 3 13).bind (fun v1 => (gR σ x1 3 12).bind (fun v2 => (rc σ (some x0) 10).bind (fun v3 => (f_X10_link v3 (x1) (v1) (v2) σ).bind (fun v4 => (pR v4 x1 3 8 none).bind (fun v5 => (pR v5 x1 3 9 none).bind (fun v6 => (pR v6 x1 3 12 none).bind (fun v7 => (pR v7 x1 3 13 none).bind (fun v8 => (rc v8 (some x0) 10).bind (fun v9 => (f_X10_layOut v9  v8).bind (fun v10 => some v10))))))))))) = some q := h
  refine c_aload_n hx hb dX10_remove_0 rfl (lv_at hl 0 rfl) ?_
  refine c_aload_n hx hb dX10_remove_1 rfl (lv_at hl 1 rfl) ?_
  refine c_aload_n hx hb dX10_remove_2 rfl (lv_at hl 1 rfl) ?_
  obtain ⟨v1, hv1, h⟩ := ob h
  refine c_gR X hP hv1 (Nat.le_of_ble_eq_true rfl) (Nat.le_of_ble_eq_true rfl) rfl w_264 dX10_remove_3 ?_
  refine c_aload_n hx hb dX10_remove_6 rfl (lv_at hl 1 rfl) ?_
  obtain ⟨v2, hv2, h⟩ := ob h
  refine c_gR X hP hv2 (Nat.le_of_ble_eq_true rfl) (Nat.le_of_ble_eq_true rfl) rfl w_263 dX10_remove_7 ?_
  obtain ⟨v3, hv3, h⟩ := ob h
  obtain ⟨v4, hv4, h⟩ := ob h
  refine c_cw (c_runV X (K_X10_link l D Φ σ v3 (x1) (v1) (v2) hv4) hv3 ⟨Nat.le_of_ble_eq_true rfl, by decide⟩ ⟨w_777, ww_X10_link⟩ rfl hy_X10_link rfl ⟨(Nat.le_of_ble_eq_true rfl), (Nat.le_of_ble_eq_true rfl)⟩ hP hS hl.1 (Nat.le_of_ble_eq_true rfl) dX10_remove_10 rfl ⟨(Nat.le_of_ble_eq_true rfl), (Nat.le_of_ble_eq_true rfl)⟩) hS (fun H locs hP hS => ?_)
  refine W.eq (g2 := F0 m 13 ls []) rfl ?_
  refine c_aload_n hx hb dX10_remove_13 rfl (lv_at hl 1 rfl) ?_
  refine c_null (Φ := Φ) hx hb dX10_remove_14 ?_
  obtain ⟨v5, hv5, h⟩ := ob h
  refine c_pR X hP hS hv5 (Nat.le_of_ble_eq_true rfl) (Nat.le_of_ble_eq_true rfl) rfl (Or.inl rfl) w_252 dX10_remove_15 (fun H locs hP hS => ?_)
  refine c_aload_n hx hb dX10_remove_18 rfl (lv_at hl 1 rfl) ?_
  refine c_null (Φ := Φ) hx hb dX10_remove_19 ?_
  obtain ⟨v6, hv6, h⟩ := ob h
  refine c_pR X hP hS hv6 (Nat.le_of_ble_eq_true rfl) (Nat.le_of_ble_eq_true rfl) rfl (Or.inl rfl) w_256 dX10_remove_20 (fun H locs hP hS => ?_)
  refine c_aload_n hx hb dX10_remove_23 rfl (lv_at hl 1 rfl) ?_
  refine c_null (Φ := Φ) hx hb dX10_remove_24 ?_
  obtain ⟨v7, hv7, h⟩ := ob h
  refine c_pR X hP hS hv7 (Nat.le_of_ble_eq_true rfl) (Nat.le_of_ble_eq_true rfl) rfl (Or.inl rfl) w_263 dX10_remove_25 (fun H locs hP hS => ?_)
  refine c_aload_n hx hb dX10_remove_28 rfl (lv_at hl 1 rfl) ?_
  refine c_null (Φ := Φ) hx hb dX10_remove_29 ?_
  obtain ⟨v8, hv8, h⟩ := ob h
  refine c_pR X hP hS hv8 (Nat.le_of_ble_eq_true rfl) (Nat.le_of_ble_eq_true rfl) rfl (Or.inl rfl) w_264 dX10_remove_30 (fun H locs hP hS => ?_)
  refine c_aload_n hx hb dX10_remove_33 rfl (lv_at hl 0 rfl) ?_
  obtain ⟨v9, hv9, h⟩ := ob h
  obtain ⟨v10, hv10, h⟩ := ob h
  refine c_cw (c_runV X (K_X10_layOut l D Φ v8 v9  hv10) hv9 ⟨Nat.le_of_ble_eq_true rfl, by decide⟩ ⟨w_781, ww_X10_layOut⟩ rfl hy_X10_layOut rfl ⟨(Nat.le_of_ble_eq_true rfl), (Nat.le_of_ble_eq_true rfl)⟩ hP hS hl.1 (Nat.le_of_ble_eq_true rfl) dX10_remove_34 rfl ⟨(Nat.le_of_ble_eq_true rfl), (Nat.le_of_ble_eq_true rfl)⟩) hS (fun H locs hP hS => ?_)
  refine W.eq (g2 := F0 m 37 ls []) rfl ?_
  obtain rfl := sj h
  exact c_wv X hP hS (Nat.le_of_ble_eq_true rfl) (Nat.le_of_ble_eq_true rfl) dX10_remove_37
theorem ww_X10_remove : Cond.instanceMethod yX10_remove ∈ BG ∧ Cond.selects (yX10_remove).cls yX10_remove yX10_remove ∈ BG ∧ Cond.initialized (yX10_remove).cls ∈ BG ∧ Cond.code yX10_remove cX10_remove 2 none ∈ BG := ⟨w_846, w_847, w_58, w_848⟩
theorem hy_X10_remove : (yX10_remove).cls ≠ "java/lang/invoke/MethodHandle" ∧ (yX10_remove).cls ≠ "java/lang/invoke/VarHandle" ∧ (parseMethodDescriptor (yX10_remove).desc).map (fun d => d.parameters.length) = some 1 := ⟨by decide, by decide, by decide +kernel⟩
def f_X10_below_49 (k7 : Option Nat → Int32 → Option Nat → Option (Int32)) (x0 : Nat) (x1 : Option Nat) (x2 : Int32) (x3 : Option Nat) (σ : cS) : Option (Int32) := (gR σ x3 3 17).bind (fun v1 => k7 (x1) (x2) (v1))
def f_X10_below_40 (k7 : Option Nat → Int32 → Option Nat → Option (Int32)) (x0 : Nat) (x1 : Option Nat) (x2 : Int32) (x3 : Option Nat) (σ : cS) : Option (Int32) := (gI σ x3 3 0).bind (fun v1 => f_X10_below_49 k7 x0 (x1) ((x2 ||| ((1:Int32) <<< (v1 &&& 31)))) (x3) σ)
def f_X10_below_7  (x0 : Nat) : Nat → Option Nat → Int32 → Option Nat → cS → Option (Int32)
  | 0, _, _, _, _ => none
  | n + 1, x1, x2, x3, σ => if x3 = none then (some x2) else ((gR σ x3 3 16).bind (fun v1 => if v1 = none then (f_X10_below_49 (fun z0 z1 z2 => f_X10_below_7 x0 n z0 z1 z2 σ) x0 (x1) (x2) (x3) σ) else (if v1 = x1 then (f_X10_below_40 (fun z0 z1 z2 => f_X10_below_7 x0 n z0 z1 z2 σ) x0 (x1) (x2) (x3) σ) else ((gI σ v1 3 0).bind (fun v2 => if ((x2 >>> (v2 &&& 31)) &&& (1:Int32)) = (0:Int32) then (f_X10_below_49 (fun z0 z1 z2 => f_X10_below_7 x0 n z0 z1 z2 σ) x0 (x1) (x2) (x3) σ) else (f_X10_below_40 (fun z0 z1 z2 => f_X10_below_7 x0 n z0 z1 z2 σ) x0 (x1) (x2) (x3) σ))))))
def f_X10_below (x0 : Nat) (x1 : Option Nat) (σ : cS) : Option (Int32) := (gR σ x1 3 17).bind (fun v1 => f_X10_below_7 x0 4000 (x1) ((0:Int32)) (v1) σ)
set_option maxRecDepth 20000 in
set_option maxHeartbeats 4000000 in
theorem N_X10_below_49 {p : Program} {l : Launch} {e : Env} {s : State} {m : MethodId} {args : Array Value} {below : List Frame} {meth : Method} {c : Code} {D : cD} {Φ : cG} {x0 : Nat} {k7 : Option Nat → Int32 → Option Nat → Option (Int32)}  {x1 : Option Nat} {x2 : Int32} {x3 : Option Nat} {σ : cS} {ls : Array Slot} {r : Int32} (X : cX p s m args meth c cX10_below 5 (some .int) RX10 D Φ) (hP : cP D Φ σ s.heap) (hS : va_S (cReg Φ) s.heap s.heap []) (hk7 : ∀ {x1 : Option Nat} {x2 : Int32} {x3 : Option Nat} {ls : Array Slot}, lv_has ls 5 [(1, cv Φ x1), (2, .int x2), (3, cv Φ x3)] → k7 x1 x2 x3 = some r → cWr p l e 0 0 s m args below meth c (some (.int r)) (F0 m 7 ls [])) (hl : lv_has ls 5 [(1, cv Φ x1), (2, .int x2), (3, cv Φ x3)]) (h : f_X10_below_49 k7 x0 x1 x2 x3 σ = some r) : cWr p l e 0 0 s m args below meth c (some (.int r)) (F0 m 49 ls []) := by
  have hx := X.1
  have hb := X.2.1
  have hown := X.2.2.2.1
  have hts := X.2.2.2.2.1
  have h : ((gR σ x3 3 17).bind (fun v1 => k7 (x1) (x2) (v1))) = some r := h
  refine c_aload_n hx hb dX10_below_49 rfl (lv_at hl 2 rfl) ?_
  obtain ⟨v1, hv1, h⟩ := ob h
  refine c_gR X hP hv1 (Nat.le_of_ble_eq_true rfl) (Nat.le_of_ble_eq_true rfl) rfl w_275 dX10_below_50 ?_
  refine c_astore_n hx hb dX10_below_53 rfl hl (Nat.le_of_ble_eq_true rfl) (lvKa rfl (lvKi (lvKa rfl lvK0))) rfl (fun ls (hl : lv_has ls 5 [(3, cv Φ v1), (1, cv Φ x1), (2, .int x2)]) => ?_)
  refine lv_goto (tgt := 7) hx hb dX10_below_54 rfl ?_
  exact hk7 (lv_sub hl [1, 2, 0] rfl) h
set_option maxRecDepth 20000 in
set_option maxHeartbeats 4000000 in
theorem N_X10_below_40 {p : Program} {l : Launch} {e : Env} {s : State} {m : MethodId} {args : Array Value} {below : List Frame} {meth : Method} {c : Code} {D : cD} {Φ : cG} {x0 : Nat} {k7 : Option Nat → Int32 → Option Nat → Option (Int32)}  {x1 : Option Nat} {x2 : Int32} {x3 : Option Nat} {σ : cS} {ls : Array Slot} {r : Int32} (X : cX p s m args meth c cX10_below 5 (some .int) RX10 D Φ) (hP : cP D Φ σ s.heap) (hS : va_S (cReg Φ) s.heap s.heap []) (hk7 : ∀ {x1 : Option Nat} {x2 : Int32} {x3 : Option Nat} {ls : Array Slot}, lv_has ls 5 [(1, cv Φ x1), (2, .int x2), (3, cv Φ x3)] → k7 x1 x2 x3 = some r → cWr p l e 0 0 s m args below meth c (some (.int r)) (F0 m 7 ls [])) (hl : lv_has ls 5 [(1, cv Φ x1), (2, .int x2), (3, cv Φ x3)]) (h : f_X10_below_40 k7 x0 x1 x2 x3 σ = some r) : cWr p l e 0 0 s m args below meth c (some (.int r)) (F0 m 40 ls []) := by
  have hx := X.1
  have hb := X.2.1
  have hown := X.2.2.2.1
  have hts := X.2.2.2.2.1
  have h : ((gI σ x3 3 0).bind (fun v1 => f_X10_below_49 k7 x0 (x1) ((x2 ||| ((1:Int32) <<< (v1 &&& 31)))) (x3) σ)) = some r := h
  refine lv_iload_n hx hb dX10_below_40 rfl (lv_at hl 1 rfl) ?_
  refine lv_iconst (v := (1:Int32)) hx hb dX10_below_41 (by decide) ?_
  refine c_aload_n hx hb dX10_below_42 rfl (lv_at hl 2 rfl) ?_
  obtain ⟨v1, hv1, h⟩ := ob h
  refine c_gI X hP hv1 (Nat.le_of_ble_eq_true rfl) (Nat.le_of_ble_eq_true rfl) rfl w_225 dX10_below_43 ?_
  refine lv_ishl hx hb dX10_below_46 ?_
  refine lv_ior hx hb dX10_below_47 ?_
  refine c_istore_n hx hb dX10_below_48 rfl hl (Nat.le_of_ble_eq_true rfl) (lvKr (lvKa rfl (lvKa rfl lvK0))) rfl (fun ls (hl : lv_has ls 5 [(2, .int (x2 ||| ((1:Int32) <<< (v1 &&& 31)))), (1, cv Φ x1), (3, cv Φ x3)]) => ?_)
  exact N_X10_below_49 X hP hS hk7 (lv_sub hl [1, 0, 2] rfl) h
set_option maxRecDepth 20000 in
set_option maxHeartbeats 4000000 in
theorem N_X10_below_7 {p : Program} {l : Launch} {e : Env} {s : State} {m : MethodId} {args : Array Value} {below : List Frame} {meth : Method} {c : Code} {D : cD} {Φ : cG} {x0 : Nat}  {n : Nat} {x1 : Option Nat} {x2 : Int32} {x3 : Option Nat} {σ : cS} {ls : Array Slot} {r : Int32} (X : cX p s m args meth c cX10_below 5 (some .int) RX10 D Φ) (hP : cP D Φ σ s.heap) (hS : va_S (cReg Φ) s.heap s.heap [])  (hl : lv_has ls 5 [(1, cv Φ x1), (2, .int x2), (3, cv Φ x3)]) (h : f_X10_below_7  x0 n x1 x2 x3 σ = some r) : cWr p l e 0 0 s m args below meth c (some (.int r)) (F0 m 7 ls []) := by
  have hx := X.1
  have hb := X.2.1
  have hown := X.2.2.2.1
  have hts := X.2.2.2.2.1
  induction n generalizing x1 x2 x3 ls with
  | zero => exact absurd (show none = some r from h) (by simp)
  | succ n ih =>
    have h : (if x3 = none then (some x2) else ((gR σ x3 3 16).bind (fun v1 => if v1 = none then (f_X10_below_49 (fun z0 z1 z2 => f_X10_below_7 x0 n z0 z1 z2 σ) x0 (x1) (x2) (x3) σ) else (if v1 = x1 then (f_X10_below_40 (fun z0 z1 z2 => f_X10_below_7 x0 n z0 z1 z2 σ) x0 (x1) (x2) (x3) σ) else ((gI σ v1 3 0).bind (fun v2 => if ((x2 >>> (v2 &&& 31)) &&& (1:Int32)) = (0:Int32) then (f_X10_below_49 (fun z0 z1 z2 => f_X10_below_7 x0 n z0 z1 z2 σ) x0 (x1) (x2) (x3) σ) else (f_X10_below_40 (fun z0 z1 z2 => f_X10_below_7 x0 n z0 z1 z2 σ) x0 (x1) (x2) (x3) σ))))))) = some r := h
    refine c_aload_n hx hb dX10_below_7 rfl (lv_at hl 2 rfl) ?_
    refine c_ifnull (Φ := Φ) (tgt := 57) hx hb dX10_below_8 rfl (fun hc => ?_) (fun hc => ?_)
    · have h := ip hc h
      refine lv_iload_n hx hb dX10_below_57 rfl (lv_at hl 1 rfl) ?_
      obtain rfl := sj h
      exact c_ri X dX10_below_58
    · have h := ine hc h
      refine c_aload_n hx hb dX10_below_11 rfl (lv_at hl 2 rfl) ?_
      obtain ⟨v1, hv1, h⟩ := ob h
      refine c_gR X hP hv1 (Nat.le_of_ble_eq_true rfl) (Nat.le_of_ble_eq_true rfl) rfl w_274 dX10_below_12 ?_
      refine c_astore hx hb dX10_below_15 hl (Nat.le_of_ble_eq_true rfl) (lvKa rfl (lvKa rfl (lvKr lvK0))) rfl (fun ls (hl : lv_has ls 5 [(4, cv Φ v1), (1, cv Φ x1), (2, .int x2), (3, cv Φ x3)]) => ?_)
      refine c_aload hx hb dX10_below_17 (lv_at hl 0 rfl) ?_
      refine c_ifnull (Φ := Φ) (tgt := 49) hx hb dX10_below_19 rfl (fun hc => ?_) (fun hc => ?_)
      · have h := ip hc h
        exact N_X10_below_49 X hP hS ih (lv_sub hl [1, 2, 3] rfl) h
      · have h := ine hc h
        refine c_aload hx hb dX10_below_22 (lv_at hl 0 rfl) ?_
        refine c_aload_n hx hb dX10_below_24 rfl (lv_at hl 1 rfl) ?_
        refine c_acmp_eq (tgt := 40) X hP dX10_below_25 rfl (fun hc => ?_) (fun hc => ?_)
        · have h := ip hc h
          exact N_X10_below_40 X hP hS ih (lv_sub hl [1, 2, 3] rfl) h
        · have h := ine hc h
          refine lv_iload_n hx hb dX10_below_28 rfl (lv_at hl 2 rfl) ?_
          refine c_aload hx hb dX10_below_29 (lv_at hl 0 rfl) ?_
          obtain ⟨v2, hv2, h⟩ := ob h
          refine c_gI X hP hv2 (Nat.le_of_ble_eq_true rfl) (Nat.le_of_ble_eq_true rfl) rfl w_225 dX10_below_31 ?_
          refine lv_ishr hx hb dX10_below_34 ?_
          refine lv_iconst (v := (1:Int32)) hx hb dX10_below_35 (by decide) ?_
          refine lv_iand hx hb dX10_below_36 ?_
          refine lv_if_eq (tgt := 49) hx hb dX10_below_37 rfl (fun hc => ?_) (fun hc => ?_)
          · have h := ip hc h
            exact N_X10_below_49 X hP hS ih (lv_sub hl [1, 2, 3] rfl) h
          · have h := ine hc h
            exact N_X10_below_40 X hP hS ih (lv_sub hl [1, 2, 3] rfl) h
set_option maxRecDepth 20000 in
set_option maxHeartbeats 4000000 in
theorem K_X10_below (l : Launch) (D : cD) (Φ : cG) (σ : cS) (x0 : Nat) (x1 : Option Nat) {r : Int32} (h : f_X10_below x0 x1 σ = some r) : Met l yX10_below (Cond.code yX10_below cX10_below 5 (some .int) :: BG) (rA 0 0 0 0) (cPc D Φ σ [cv Φ (some x0), cv Φ x1]) (cQr (some (.int r))) 0 0 (fun _ => False) := by
  refine Met.ofW (cc := cX10_below) (maxL := 5) (ret := (some .int)) (by decide) rfl ?_
  intro p e s m args below meth c s₁ B hml hv
  obtain ⟨rfl, hP, hK, hZ⟩ := hv
  have X : cX p s m [cv Φ (some x0), cv Φ x1].toArray meth c cX10_below 5 (some .int) RX10 D Φ := cX_of B hml hK hZ
  have hx := X.1
  have hb := X.2.1
  have hown := X.2.2.2.1
  have hts := X.2.2.2.2.1
  have hl := lv_entry [cv Φ (some x0), cv Φ x1] (n := 5) (by simp only [lgs_r, lgs_i, lgs_l, lgs_0, List.length]; exact Nat.le_of_ble_eq_true rfl)
  rw [lg_entry_eq]
  generalize (lg_sl [cv Φ (some x0), cv Φ x1] ++ List.replicate (5 - (lg_sl [cv Φ (some x0), cv Φ x1]).length) Slot.unset).toArray = ls at hl ⊢
  simp only [lv_args_r, lv_args_i, lv_args_l, lv_args_0] at hl
  have hl : lv_has ls 5 [(0, cv Φ (some x0)), (1, cv Φ x1)] := hl
  have hS : va_S (cReg Φ) s.heap s.heap [] := va_S.rf
  show cWr p l e 0 0 s m [cv Φ (some x0), cv Φ x1].toArray below meth c (some (.int r)) (F0 m 0 ls [])
  have h : ((gR σ x1 3 17).bind (fun v1 => f_X10_below_7 x0 4000 (x1) ((0:Int32)) (v1) σ)) = some r := h
  refine lv_iconst (v := (0:Int32)) hx hb dX10_below_0 (by decide) ?_
  refine c_istore_n hx hb dX10_below_1 rfl hl (Nat.le_of_ble_eq_true rfl) (lvKa rfl (lvKr lvK0)) rfl (fun ls (hl : lv_has ls 5 [(2, .int (0:Int32)), (0, cv Φ (some x0)), (1, cv Φ x1)]) => ?_)
  refine c_aload_n hx hb dX10_below_2 rfl (lv_at hl 2 rfl) ?_
  obtain ⟨v1, hv1, h⟩ := ob h
  refine c_gR X hP hv1 (Nat.le_of_ble_eq_true rfl) (Nat.le_of_ble_eq_true rfl) rfl w_275 dX10_below_3 ?_
  refine c_astore_n hx hb dX10_below_6 rfl hl (Nat.le_of_ble_eq_true rfl) (lvKi (lvKa rfl (lvKa rfl lvK0))) rfl (fun ls (hl : lv_has ls 5 [(3, cv Φ v1), (2, .int (0:Int32)), (0, cv Φ (some x0)), (1, cv Φ x1)]) => ?_)
  exact N_X10_below_7 X hP hS (lv_sub hl [3, 1, 0] rfl) h
theorem ww_X10_below : Cond.instanceMethod yX10_below ∈ BG ∧ Cond.selects (yX10_below).cls yX10_below yX10_below ∈ BG ∧ Cond.initialized (yX10_below).cls ∈ BG ∧ Cond.code yX10_below cX10_below 5 (some .int) ∈ BG := ⟨w_823, w_824, w_58, w_825⟩
theorem hy_X10_below : (yX10_below).cls ≠ "java/lang/invoke/MethodHandle" ∧ (yX10_below).cls ≠ "java/lang/invoke/VarHandle" ∧ (parseMethodDescriptor (yX10_below).desc).map (fun d => d.parameters.length) = some 1 := ⟨by decide, by decide, by decide +kernel⟩
def f_X10_around_82 (k17 : Option Nat → Int32 → Option Nat → Option (Int32)) (x0 : Nat) (x1 : Option Nat) (x2 : Int32) (x3 : Option Nat) (σ : cS) : Option (Int32) := (gR σ x3 3 17).bind (fun v1 => k17 (x1) (x2) (v1))
def f_X10_around_73 (k17 : Option Nat → Int32 → Option Nat → Option (Int32)) (x0 : Nat) (x1 : Option Nat) (x2 : Int32) (x3 : Option Nat) (σ : cS) : Option (Int32) := (gI σ x3 3 0).bind (fun v1 => f_X10_around_82 k17 x0 (x1) ((x2 ||| ((1:Int32) <<< (v1 &&& 31)))) (x3) σ)
def f_X10_around_47 (k17 : Option Nat → Int32 → Option Nat → Option (Int32)) (x0 : Nat) (x1 : Option Nat) (x2 : Int32) (x3 : Option Nat) (y0 : Int32) (σ : cS) : Option (Int32) := (gR σ x3 3 15).bind (fun v1 => (gR σ x1 3 15).bind (fun v2 => if v1 = v2 then (f_X10_around_73 k17 x0 (x1) (x2) (x3) σ) else ((gR σ x1 3 15).bind (fun v3 => if x3 = v3 then (f_X10_around_73 k17 x0 (x1) (x2) (x3) σ) else (if y0 = (0:Int32) then (f_X10_around_82 k17 x0 (x1) (x2) (x3) σ) else (f_X10_around_73 k17 x0 (x1) (x2) (x3) σ))))))
def f_X10_around_46 (k17 : Option Nat → Int32 → Option Nat → Option (Int32)) (x0 : Nat) (x1 : Option Nat) (x2 : Int32) (x3 : Option Nat) (σ : cS) : Option (Int32) := f_X10_around_47 k17 x0 (x1) (x2) (x3) ((0:Int32)) σ
def f_X10_around_17  (x0 : Nat) : Nat → Option Nat → Int32 → Option Nat → cS → Option (Int32)
  | 0, _, _, _, _ => none
  | n + 1, x1, x2, x3, σ => if x3 = none then (some x2) else ((gR σ x3 3 15).bind (fun v1 => if v1 = none then (f_X10_around_46 (fun z0 z1 z2 => f_X10_around_17 x0 n z0 z1 z2 σ) x0 (x1) (x2) (x3) σ) else ((gR σ x3 3 15).bind (fun v2 => (gR σ v2 3 15).bind (fun v3 => (gR σ x1 3 15).bind (fun v4 => if v3 = v4 then (f_X10_around_47 (fun z0 z1 z2 => f_X10_around_17 x0 n z0 z1 z2 σ) x0 (x1) (x2) (x3) ((1:Int32)) σ) else (f_X10_around_46 (fun z0 z1 z2 => f_X10_around_17 x0 n z0 z1 z2 σ) x0 (x1) (x2) (x3) σ)))))))
def f_X10_around (x0 : Nat) (x1 : Option Nat) (σ : cS) : Option (Int32) := (rc σ (some x0) 10).bind (fun v1 => (f_X10_holdsElement v1 (x1) σ).bind (fun v2 => if v2 = (0:Int32) then (some (0:Int32)) else ((gR σ (some x0) 10 0).bind (fun v3 => f_X10_around_17 x0 4000 (x1) ((0:Int32)) (v3) σ))))
set_option maxRecDepth 20000 in
set_option maxHeartbeats 4000000 in
theorem N_X10_around_82 {p : Program} {l : Launch} {e : Env} {s : State} {m : MethodId} {args : Array Value} {below : List Frame} {meth : Method} {c : Code} {D : cD} {Φ : cG} {x0 : Nat} {k17 : Option Nat → Int32 → Option Nat → Option (Int32)}  {x1 : Option Nat} {x2 : Int32} {x3 : Option Nat} {σ : cS} {ls : Array Slot} {r : Int32} (X : cX p s m args meth c cX10_around 5 (some .int) RX10 D Φ) (hP : cP D Φ σ s.heap) (hS : va_S (cReg Φ) s.heap s.heap []) (hk17 : ∀ {x1 : Option Nat} {x2 : Int32} {x3 : Option Nat} {ls : Array Slot}, lv_has ls 5 [(1, cv Φ x1), (2, .int x2), (3, cv Φ x3)] → k17 x1 x2 x3 = some r → cWr p l e 1 21 s m args below meth c (some (.int r)) (F0 m 17 ls [])) (hl : lv_has ls 5 [(1, cv Φ x1), (2, .int x2), (3, cv Φ x3)]) (h : f_X10_around_82 k17 x0 x1 x2 x3 σ = some r) : cWr p l e 1 21 s m args below meth c (some (.int r)) (F0 m 82 ls []) := by
  have hx := X.1
  have hb := X.2.1
  have hown := X.2.2.2.1
  have hts := X.2.2.2.2.1
  have h : ((gR σ x3 3 17).bind (fun v1 => k17 (x1) (x2) (v1))) = some r := h
  refine c_aload_n hx hb dX10_around_82 rfl (lv_at hl 2 rfl) ?_
  obtain ⟨v1, hv1, h⟩ := ob h
  refine c_gR X hP hv1 (Nat.le_of_ble_eq_true rfl) (Nat.le_of_ble_eq_true rfl) rfl w_275 dX10_around_83 ?_
  refine c_astore_n hx hb dX10_around_86 rfl hl (Nat.le_of_ble_eq_true rfl) (lvKa rfl (lvKi (lvKa rfl lvK0))) rfl (fun ls (hl : lv_has ls 5 [(3, cv Φ v1), (1, cv Φ x1), (2, .int x2)]) => ?_)
  refine lv_goto (tgt := 17) hx hb dX10_around_87 rfl ?_
  exact hk17 (lv_sub hl [1, 2, 0] rfl) h
set_option maxRecDepth 20000 in
set_option maxHeartbeats 4000000 in
theorem N_X10_around_73 {p : Program} {l : Launch} {e : Env} {s : State} {m : MethodId} {args : Array Value} {below : List Frame} {meth : Method} {c : Code} {D : cD} {Φ : cG} {x0 : Nat} {k17 : Option Nat → Int32 → Option Nat → Option (Int32)}  {x1 : Option Nat} {x2 : Int32} {x3 : Option Nat} {σ : cS} {ls : Array Slot} {r : Int32} (X : cX p s m args meth c cX10_around 5 (some .int) RX10 D Φ) (hP : cP D Φ σ s.heap) (hS : va_S (cReg Φ) s.heap s.heap []) (hk17 : ∀ {x1 : Option Nat} {x2 : Int32} {x3 : Option Nat} {ls : Array Slot}, lv_has ls 5 [(1, cv Φ x1), (2, .int x2), (3, cv Φ x3)] → k17 x1 x2 x3 = some r → cWr p l e 1 21 s m args below meth c (some (.int r)) (F0 m 17 ls [])) (hl : lv_has ls 5 [(1, cv Φ x1), (2, .int x2), (3, cv Φ x3)]) (h : f_X10_around_73 k17 x0 x1 x2 x3 σ = some r) : cWr p l e 1 21 s m args below meth c (some (.int r)) (F0 m 73 ls []) := by
  have hx := X.1
  have hb := X.2.1
  have hown := X.2.2.2.1
  have hts := X.2.2.2.2.1
  have h : ((gI σ x3 3 0).bind (fun v1 => f_X10_around_82 k17 x0 (x1) ((x2 ||| ((1:Int32) <<< (v1 &&& 31)))) (x3) σ)) = some r := h
  refine lv_iload_n hx hb dX10_around_73 rfl (lv_at hl 1 rfl) ?_
  refine lv_iconst (v := (1:Int32)) hx hb dX10_around_74 (by decide) ?_
  refine c_aload_n hx hb dX10_around_75 rfl (lv_at hl 2 rfl) ?_
  obtain ⟨v1, hv1, h⟩ := ob h
  refine c_gI X hP hv1 (Nat.le_of_ble_eq_true rfl) (Nat.le_of_ble_eq_true rfl) rfl w_225 dX10_around_76 ?_
  refine lv_ishl hx hb dX10_around_79 ?_
  refine lv_ior hx hb dX10_around_80 ?_
  refine c_istore_n hx hb dX10_around_81 rfl hl (Nat.le_of_ble_eq_true rfl) (lvKr (lvKa rfl (lvKa rfl lvK0))) rfl (fun ls (hl : lv_has ls 5 [(2, .int (x2 ||| ((1:Int32) <<< (v1 &&& 31)))), (1, cv Φ x1), (3, cv Φ x3)]) => ?_)
  exact N_X10_around_82 X hP hS hk17 (lv_sub hl [1, 0, 2] rfl) h
set_option maxRecDepth 20000 in
set_option maxHeartbeats 4000000 in
theorem N_X10_around_47 {p : Program} {l : Launch} {e : Env} {s : State} {m : MethodId} {args : Array Value} {below : List Frame} {meth : Method} {c : Code} {D : cD} {Φ : cG} {x0 : Nat} {k17 : Option Nat → Int32 → Option Nat → Option (Int32)}  {x1 : Option Nat} {x2 : Int32} {x3 : Option Nat} {y0 : Int32} {σ : cS} {ls : Array Slot} {r : Int32} (X : cX p s m args meth c cX10_around 5 (some .int) RX10 D Φ) (hP : cP D Φ σ s.heap) (hS : va_S (cReg Φ) s.heap s.heap []) (hk17 : ∀ {x1 : Option Nat} {x2 : Int32} {x3 : Option Nat} {ls : Array Slot}, lv_has ls 5 [(1, cv Φ x1), (2, .int x2), (3, cv Φ x3)] → k17 x1 x2 x3 = some r → cWr p l e 1 21 s m args below meth c (some (.int r)) (F0 m 17 ls [])) (hl : lv_has ls 5 [(1, cv Φ x1), (2, .int x2), (3, cv Φ x3)]) (h : f_X10_around_47 k17 x0 x1 x2 x3 y0 σ = some r) : cWr p l e 1 21 s m args below meth c (some (.int r)) (F0 m 47 ls [.int y0]) := by
  have hx := X.1
  have hb := X.2.1
  have hown := X.2.2.2.1
  have hts := X.2.2.2.2.1
  have h : ((gR σ x3 3 15).bind (fun v1 => (gR σ x1 3 15).bind (fun v2 => if v1 = v2 then (f_X10_around_73 k17 x0 (x1) (x2) (x3) σ) else ((gR σ x1 3 15).bind (fun v3 => if x3 = v3 then (f_X10_around_73 k17 x0 (x1) (x2) (x3) σ) else (if y0 = (0:Int32) then (f_X10_around_82 k17 x0 (x1) (x2) (x3) σ) else (f_X10_around_73 k17 x0 (x1) (x2) (x3) σ))))))) = some r := h
  refine c_istore hx hb dX10_around_47 hl (Nat.le_of_ble_eq_true rfl) (lvKa rfl (lvKa rfl (lvKr lvK0))) rfl (fun ls (hl : lv_has ls 5 [(4, .int y0), (1, cv Φ x1), (2, .int x2), (3, cv Φ x3)]) => ?_)
  refine c_aload_n hx hb dX10_around_49 rfl (lv_at hl 3 rfl) ?_
  obtain ⟨v1, hv1, h⟩ := ob h
  refine c_gR X hP hv1 (Nat.le_of_ble_eq_true rfl) (Nat.le_of_ble_eq_true rfl) rfl w_271 dX10_around_50 ?_
  refine c_aload_n hx hb dX10_around_53 rfl (lv_at hl 1 rfl) ?_
  obtain ⟨v2, hv2, h⟩ := ob h
  refine c_gR X hP hv2 (Nat.le_of_ble_eq_true rfl) (Nat.le_of_ble_eq_true rfl) rfl w_271 dX10_around_54 ?_
  refine c_acmp_eq (tgt := 73) X hP dX10_around_57 rfl (fun hc => ?_) (fun hc => ?_)
  · have h := ip hc h
    exact N_X10_around_73 X hP hS hk17 (lv_sub hl [1, 2, 3] rfl) h
  · have h := ine hc h
    refine c_aload_n hx hb dX10_around_60 rfl (lv_at hl 3 rfl) ?_
    refine c_aload_n hx hb dX10_around_61 rfl (lv_at hl 1 rfl) ?_
    obtain ⟨v3, hv3, h⟩ := ob h
    refine c_gR X hP hv3 (Nat.le_of_ble_eq_true rfl) (Nat.le_of_ble_eq_true rfl) rfl w_271 dX10_around_62 ?_
    refine c_acmp_eq (tgt := 73) X hP dX10_around_65 rfl (fun hc => ?_) (fun hc => ?_)
    · have h := ip hc h
      exact N_X10_around_73 X hP hS hk17 (lv_sub hl [1, 2, 3] rfl) h
    · have h := ine hc h
      refine lv_iload hx hb dX10_around_68 (lv_at hl 0 rfl) ?_
      refine lv_if_eq (tgt := 82) hx hb dX10_around_70 rfl (fun hc => ?_) (fun hc => ?_)
      · have h := ip hc h
        exact N_X10_around_82 X hP hS hk17 (lv_sub hl [1, 2, 3] rfl) h
      · have h := ine hc h
        exact N_X10_around_73 X hP hS hk17 (lv_sub hl [1, 2, 3] rfl) h
set_option maxRecDepth 20000 in
set_option maxHeartbeats 4000000 in
theorem N_X10_around_46 {p : Program} {l : Launch} {e : Env} {s : State} {m : MethodId} {args : Array Value} {below : List Frame} {meth : Method} {c : Code} {D : cD} {Φ : cG} {x0 : Nat} {k17 : Option Nat → Int32 → Option Nat → Option (Int32)}  {x1 : Option Nat} {x2 : Int32} {x3 : Option Nat} {σ : cS} {ls : Array Slot} {r : Int32} (X : cX p s m args meth c cX10_around 5 (some .int) RX10 D Φ) (hP : cP D Φ σ s.heap) (hS : va_S (cReg Φ) s.heap s.heap []) (hk17 : ∀ {x1 : Option Nat} {x2 : Int32} {x3 : Option Nat} {ls : Array Slot}, lv_has ls 5 [(1, cv Φ x1), (2, .int x2), (3, cv Φ x3)] → k17 x1 x2 x3 = some r → cWr p l e 1 21 s m args below meth c (some (.int r)) (F0 m 17 ls [])) (hl : lv_has ls 5 [(1, cv Φ x1), (2, .int x2), (3, cv Φ x3)]) (h : f_X10_around_46 k17 x0 x1 x2 x3 σ = some r) : cWr p l e 1 21 s m args below meth c (some (.int r)) (F0 m 46 ls []) := by
  have hx := X.1
  have hb := X.2.1
  have hown := X.2.2.2.1
  have hts := X.2.2.2.2.1
  have h : (f_X10_around_47 k17 x0 (x1) (x2) (x3) ((0:Int32)) σ) = some r := h
  refine lv_iconst (v := (0:Int32)) hx hb dX10_around_46 (by decide) ?_
  exact N_X10_around_47 X hP hS hk17 (lv_sub hl [0, 1, 2] rfl) h
set_option maxRecDepth 20000 in
set_option maxHeartbeats 4000000 in
theorem N_X10_around_17 {p : Program} {l : Launch} {e : Env} {s : State} {m : MethodId} {args : Array Value} {below : List Frame} {meth : Method} {c : Code} {D : cD} {Φ : cG} {x0 : Nat}  {n : Nat} {x1 : Option Nat} {x2 : Int32} {x3 : Option Nat} {σ : cS} {ls : Array Slot} {r : Int32} (X : cX p s m args meth c cX10_around 5 (some .int) RX10 D Φ) (hP : cP D Φ σ s.heap) (hS : va_S (cReg Φ) s.heap s.heap [])  (hl : lv_has ls 5 [(1, cv Φ x1), (2, .int x2), (3, cv Φ x3)]) (h : f_X10_around_17  x0 n x1 x2 x3 σ = some r) : cWr p l e 1 21 s m args below meth c (some (.int r)) (F0 m 17 ls []) := by
  have hx := X.1
  have hb := X.2.1
  have hown := X.2.2.2.1
  have hts := X.2.2.2.2.1
  induction n generalizing x1 x2 x3 ls with
  | zero => exact absurd (show none = some r from h) (by simp)
  | succ n ih =>
    have h : (if x3 = none then (some x2) else ((gR σ x3 3 15).bind (fun v1 => if v1 = none then (f_X10_around_46 (fun z0 z1 z2 => f_X10_around_17 x0 n z0 z1 z2 σ) x0 (x1) (x2) (x3) σ) else ((gR σ x3 3 15).bind (fun v2 => (gR σ v2 3 15).bind (fun v3 => (gR σ x1 3 15).bind (fun v4 => if v3 = v4 then (f_X10_around_47 (fun z0 z1 z2 => f_X10_around_17 x0 n z0 z1 z2 σ) x0 (x1) (x2) (x3) ((1:Int32)) σ) else (f_X10_around_46 (fun z0 z1 z2 => f_X10_around_17 x0 n z0 z1 z2 σ) x0 (x1) (x2) (x3) σ)))))))) = some r := h
    refine c_aload_n hx hb dX10_around_17 rfl (lv_at hl 2 rfl) ?_
    refine c_ifnull (Φ := Φ) (tgt := 90) hx hb dX10_around_18 rfl (fun hc => ?_) (fun hc => ?_)
    · have h := ip hc h
      refine lv_iload_n hx hb dX10_around_90 rfl (lv_at hl 1 rfl) ?_
      obtain rfl := sj h
      exact c_ri X dX10_around_91
    · have h := ine hc h
      refine c_aload_n hx hb dX10_around_21 rfl (lv_at hl 2 rfl) ?_
      obtain ⟨v1, hv1, h⟩ := ob h
      refine c_gR X hP hv1 (Nat.le_of_ble_eq_true rfl) (Nat.le_of_ble_eq_true rfl) rfl w_271 dX10_around_22 ?_
      refine c_ifnull (Φ := Φ) (tgt := 46) hx hb dX10_around_25 rfl (fun hc => ?_) (fun hc => ?_)
      · have h := ip hc h
        exact N_X10_around_46 X hP hS ih (lv_sub hl [0, 1, 2] rfl) h
      · have h := ine hc h
        refine c_aload_n hx hb dX10_around_28 rfl (lv_at hl 2 rfl) ?_
        obtain ⟨v2, hv2, h⟩ := ob h
        refine c_gR X hP hv2 (Nat.le_of_ble_eq_true rfl) (Nat.le_of_ble_eq_true rfl) rfl w_271 dX10_around_29 ?_
        obtain ⟨v3, hv3, h⟩ := ob h
        refine c_gR X hP hv3 (Nat.le_of_ble_eq_true rfl) (Nat.le_of_ble_eq_true rfl) rfl w_271 dX10_around_32 ?_
        refine c_aload_n hx hb dX10_around_35 rfl (lv_at hl 0 rfl) ?_
        obtain ⟨v4, hv4, h⟩ := ob h
        refine c_gR X hP hv4 (Nat.le_of_ble_eq_true rfl) (Nat.le_of_ble_eq_true rfl) rfl w_271 dX10_around_36 ?_
        refine c_acmp_ne (tgt := 46) X hP dX10_around_39 rfl (fun hc => ?_) (fun hc => ?_)
        · have h := ine hc h
          exact N_X10_around_46 X hP hS ih (lv_sub hl [0, 1, 2] rfl) h
        · have h := ip hc h
          refine lv_iconst (v := (1:Int32)) hx hb dX10_around_42 (by decide) ?_
          refine lv_goto (tgt := 47) hx hb dX10_around_43 rfl ?_
          exact N_X10_around_47 X hP hS ih (lv_sub hl [0, 1, 2] rfl) h
set_option maxRecDepth 20000 in
set_option maxHeartbeats 4000000 in
theorem K_X10_around (l : Launch) (D : cD) (Φ : cG) (σ : cS) (x0 : Nat) (x1 : Option Nat) {r : Int32} (h : f_X10_around x0 x1 σ = some r) : Met l yX10_around (Cond.code yX10_around cX10_around 5 (some .int) :: BG) (rA 1 0 0 21) (cPc D Φ σ [cv Φ (some x0), cv Φ x1]) (cQr (some (.int r))) 0 0 (fun _ => False) := by
  refine Met.ofW (cc := cX10_around) (maxL := 5) (ret := (some .int)) (by decide) rfl ?_
  intro p e s m args below meth c s₁ B hml hv
  obtain ⟨rfl, hP, hK, hZ⟩ := hv
  have X : cX p s m [cv Φ (some x0), cv Φ x1].toArray meth c cX10_around 5 (some .int) RX10 D Φ := cX_of B hml hK hZ
  have hx := X.1
  have hb := X.2.1
  have hown := X.2.2.2.1
  have hts := X.2.2.2.2.1
  have hl := lv_entry [cv Φ (some x0), cv Φ x1] (n := 5) (by simp only [lgs_r, lgs_i, lgs_l, lgs_0, List.length]; exact Nat.le_of_ble_eq_true rfl)
  rw [lg_entry_eq]
  generalize (lg_sl [cv Φ (some x0), cv Φ x1] ++ List.replicate (5 - (lg_sl [cv Φ (some x0), cv Φ x1]).length) Slot.unset).toArray = ls at hl ⊢
  simp only [lv_args_r, lv_args_i, lv_args_l, lv_args_0] at hl
  have hl : lv_has ls 5 [(0, cv Φ (some x0)), (1, cv Φ x1)] := hl
  have hS : va_S (cReg Φ) s.heap s.heap [] := va_S.rf
  show cWr p l e 1 21 s m [cv Φ (some x0), cv Φ x1].toArray below meth c (some (.int r)) (F0 m 0 ls [])
  have h : ((rc σ (some x0) 10).bind (fun v1 => (f_X10_holdsElement v1 (x1) σ).bind (fun v2 => if v2 = (0:Int32) then (some (0:Int32)) else ((gR σ (some x0) 10 0).bind (fun v3 => f_X10_around_17 x0 4000 (x1) ((0:Int32)) (v3) σ))))) = some r := h
  refine lv_iconst (v := (0:Int32)) hx hb dX10_around_0 (by decide) ?_
  refine c_istore_n hx hb dX10_around_1 rfl hl (Nat.le_of_ble_eq_true rfl) (lvKa rfl (lvKr lvK0)) rfl (fun ls (hl : lv_has ls 5 [(2, .int (0:Int32)), (0, cv Φ (some x0)), (1, cv Φ x1)]) => ?_)
  refine c_aload_n hx hb dX10_around_2 rfl (lv_at hl 1 rfl) ?_
  refine c_aload_n hx hb dX10_around_3 rfl (lv_at hl 2 rfl) ?_
  obtain ⟨v1, hv1, h⟩ := ob h
  obtain ⟨v2, hv2, h⟩ := ob h
  refine c_cr (c_runV X (K_X10_holdsElement l D Φ σ v1 (x1) hv2) hv1 ⟨Nat.le_of_ble_eq_true rfl, by decide⟩ ⟨w_931, ww_X10_holdsElement⟩ rfl hy_X10_holdsElement rfl ⟨(Nat.le_of_ble_eq_true rfl), (Nat.le_of_ble_eq_true rfl)⟩ hP hS hl.1 (Nat.le_of_ble_eq_true rfl) dX10_around_4 rfl ⟨(Nat.le_of_ble_eq_true rfl), (Nat.le_of_ble_eq_true rfl)⟩) ?_
  refine lv_if_ne (tgt := 12) hx hb dX10_around_7 rfl (fun hc => ?_) (fun hc => ?_)
  · have h := ine hc h
    refine c_aload_n hx hb dX10_around_12 rfl (lv_at hl 1 rfl) ?_
    obtain ⟨v3, hv3, h⟩ := ob h
    refine c_gR X hP hv3 (Nat.le_of_ble_eq_true rfl) (Nat.le_of_ble_eq_true rfl) rfl w_326 dX10_around_13 ?_
    refine c_astore_n hx hb dX10_around_16 rfl hl (Nat.le_of_ble_eq_true rfl) (lvKi (lvKa rfl (lvKa rfl lvK0))) rfl (fun ls (hl : lv_has ls 5 [(3, cv Φ v3), (2, .int (0:Int32)), (0, cv Φ (some x0)), (1, cv Φ x1)]) => ?_)
    exact N_X10_around_17 X hP hS (lv_sub hl [3, 1, 0] rfl) h
  · have h := ip hc h
    refine lv_iload_n hx hb dX10_around_10 rfl (lv_at hl 0 rfl) ?_
    obtain rfl := sj h
    exact c_ri X dX10_around_11
theorem ww_X10_around : Cond.instanceMethod yX10_around ∈ BG ∧ Cond.selects (yX10_around).cls yX10_around yX10_around ∈ BG ∧ Cond.initialized (yX10_around).cls ∈ BG ∧ Cond.code yX10_around cX10_around 5 (some .int) ∈ BG := ⟨w_1103, w_1104, w_58, w_1105⟩
theorem hy_X10_around : (yX10_around).cls ≠ "java/lang/invoke/MethodHandle" ∧ (yX10_around).cls ≠ "java/lang/invoke/VarHandle" ∧ (parseMethodDescriptor (yX10_around).desc).map (fun d => d.parameters.length) = some 1 := ⟨by decide, by decide, by decide +kernel⟩
def f_X11_mark (x0 : Nat) (x1 : Int32) (σ : cS) : Option (cS) := (gI σ (some x0) 11 10).bind (fun v1 => (gR σ (some x0) 11 0).bind (fun v2 => (gI σ v2 10 2).bind (fun v3 => (pI σ (some x0) 11 10 (v1 ||| (x1 &&& v3))).bind (fun v4 => some v4))))
set_option maxRecDepth 20000 in
set_option maxHeartbeats 4000000 in
theorem K_X11_mark (l : Launch) (D : cD) (Φ : cG) (σ : cS) (x0 : Nat) (x1 : Int32) {q : cS} (h : f_X11_mark x0 x1 σ = some q) : Met l yX11_mark (Cond.code yX11_mark cX11_mark 2 none :: BG) (rA 0 0 0 0) (cPc D Φ σ [cv Φ (some x0), .int x1]) (cQw D Φ q none) 0 0 (cReg Φ) := by
  refine Met.ofW (cc := cX11_mark) (maxL := 2) (ret := none) (by decide) rfl ?_
  intro p e s m args below meth c s₁ B hml hv
  obtain ⟨rfl, hP, hK, hZ⟩ := hv
  have X : cX p s m [cv Φ (some x0), .int x1].toArray meth c cX11_mark 2 none RX11 D Φ := cX_of B hml hK hZ
  have hx := X.1
  have hb := X.2.1
  have hown := X.2.2.2.1
  have hts := X.2.2.2.2.1
  have hl := lv_entry [cv Φ (some x0), .int x1] (n := 2) (by simp only [lgs_r, lgs_i, lgs_l, lgs_0, List.length]; exact Nat.le_of_ble_eq_true rfl)
  rw [lg_entry_eq]
  generalize (lg_sl [cv Φ (some x0), .int x1] ++ List.replicate (2 - (lg_sl [cv Φ (some x0), .int x1]).length) Slot.unset).toArray = ls at hl ⊢
  simp only [lv_args_r, lv_args_i, lv_args_l, lv_args_0] at hl
  have hl : lv_has ls 2 [(0, cv Φ (some x0)), (1, .int x1)] := hl
  have hS : va_S (cReg Φ) s.heap s.heap [] := va_S.rf
  show cWw p l e 0 0 0 0 s m [cv Φ (some x0), .int x1].toArray below meth c D Φ q none s.heap [] 0 0 (F0 m 0 ls [])
  have h : ((gI σ (some x0) 11 10).bind (fun v1 => (gR σ (some x0) 11 0).bind (fun v2 => (gI σ v2 10 2).bind (fun v3 => (pI σ (some x0) 11 10 (v1 ||| (x1 &&& v3))).bind (fun v4 => some v4))))) = some q := h
  refine c_aload_n hx hb dX11_mark_0 rfl (lv_at hl 0 rfl) ?_
  refine c_dupq hx hb dX11_mark_1 ?_
  obtain ⟨v1, hv1, h⟩ := ob h
  refine c_gI X hP hv1 (Nat.le_of_ble_eq_true rfl) (Nat.le_of_ble_eq_true rfl) rfl w_581 dX11_mark_2 ?_
  refine lv_iload_n hx hb dX11_mark_5 rfl (lv_at hl 1 rfl) ?_
  refine c_aload_n hx hb dX11_mark_6 rfl (lv_at hl 0 rfl) ?_
  obtain ⟨v2, hv2, h⟩ := ob h
  refine c_gR X hP hv2 (Nat.le_of_ble_eq_true rfl) (Nat.le_of_ble_eq_true rfl) rfl w_571 dX11_mark_7 ?_
  obtain ⟨v3, hv3, h⟩ := ob h
  refine c_gI X hP hv3 (Nat.le_of_ble_eq_true rfl) (Nat.le_of_ble_eq_true rfl) rfl w_332 dX11_mark_10 ?_
  refine lv_iand hx hb dX11_mark_13 ?_
  refine lv_ior hx hb dX11_mark_14 ?_
  obtain ⟨v4, hv4, h⟩ := ob h
  refine c_pI X hP hS hv4 (Nat.le_of_ble_eq_true rfl) (Nat.le_of_ble_eq_true rfl) rfl rfl (Or.inl rfl) w_581 dX11_mark_15 (fun H locs hP hS => ?_)
  obtain rfl := sj h
  exact c_wv X hP hS (Nat.le_of_ble_eq_true rfl) (Nat.le_of_ble_eq_true rfl) dX11_mark_18
theorem ww_X11_mark : Cond.instanceMethod yX11_mark ∈ BG ∧ Cond.selects (yX11_mark).cls yX11_mark yX11_mark ∈ BG ∧ Cond.initialized (yX11_mark).cls ∈ BG ∧ Cond.code yX11_mark cX11_mark 2 none ∈ BG := ⟨w_828, w_11, w_56, w_829⟩
theorem hy_X11_mark : (yX11_mark).cls ≠ "java/lang/invoke/MethodHandle" ∧ (yX11_mark).cls ≠ "java/lang/invoke/VarHandle" ∧ (parseMethodDescriptor (yX11_mark).desc).map (fun d => d.parameters.length) = some 1 := ⟨by decide, by decide, by decide +kernel⟩
def f_X11_markAll (x0 : Nat)  (σ : cS) : Option (cS) := (gR σ (some x0) 11 0).bind (fun v1 => (gI σ v1 10 2).bind (fun v2 => (rc σ (some x0) 11).bind (fun v3 => (f_X11_mark v3 (v2) σ).bind (fun v4 => some v4))))
set_option maxRecDepth 20000 in
set_option maxHeartbeats 4000000 in
theorem K_X11_markAll (l : Launch) (D : cD) (Φ : cG) (σ : cS) (x0 : Nat)  {q : cS} (h : f_X11_markAll x0  σ = some q) : Met l yX11_markAll (Cond.code yX11_markAll cX11_markAll 1 none :: BG) (rA 1 0 0 21) (cPc D Φ σ [cv Φ (some x0)]) (cQw D Φ q none) 0 0 (cReg Φ) := by
  refine Met.ofW (cc := cX11_markAll) (maxL := 1) (ret := none) (by decide) rfl ?_
  intro p e s m args below meth c s₁ B hml hv
  obtain ⟨rfl, hP, hK, hZ⟩ := hv
  have X : cX p s m [cv Φ (some x0)].toArray meth c cX11_markAll 1 none RX11 D Φ := cX_of B hml hK hZ
  have hx := X.1
  have hb := X.2.1
  have hown := X.2.2.2.1
  have hts := X.2.2.2.2.1
  have hl := lv_entry [cv Φ (some x0)] (n := 1) (by simp only [lgs_r, lgs_i, lgs_l, lgs_0, List.length]; exact Nat.le_of_ble_eq_true rfl)
  rw [lg_entry_eq]
  generalize (lg_sl [cv Φ (some x0)] ++ List.replicate (1 - (lg_sl [cv Φ (some x0)]).length) Slot.unset).toArray = ls at hl ⊢
  simp only [lv_args_r, lv_args_i, lv_args_l, lv_args_0] at hl
  have hl : lv_has ls 1 [(0, cv Φ (some x0))] := hl
  have hS : va_S (cReg Φ) s.heap s.heap [] := va_S.rf
  show cWw p l e 1 0 0 21 s m [cv Φ (some x0)].toArray below meth c D Φ q none s.heap [] 0 0 (F0 m 0 ls [])
  have h : ((gR σ (some x0) 11 0).bind (fun v1 => (gI σ v1 10 2).bind (fun v2 => (rc σ (some x0) 11).bind (fun v3 => (f_X11_mark v3 (v2) σ).bind (fun v4 => some v4))))) = some q := h
  refine c_aload_n hx hb dX11_markAll_0 rfl (lv_at hl 0 rfl) ?_
  refine c_aload_n hx hb dX11_markAll_1 rfl (lv_at hl 0 rfl) ?_
  obtain ⟨v1, hv1, h⟩ := ob h
  refine c_gR X hP hv1 (Nat.le_of_ble_eq_true rfl) (Nat.le_of_ble_eq_true rfl) rfl w_571 dX11_markAll_2 ?_
  obtain ⟨v2, hv2, h⟩ := ob h
  refine c_gI X hP hv2 (Nat.le_of_ble_eq_true rfl) (Nat.le_of_ble_eq_true rfl) rfl w_332 dX11_markAll_5 ?_
  obtain ⟨v3, hv3, h⟩ := ob h
  obtain ⟨v4, hv4, h⟩ := ob h
  refine c_cw (c_runV X (K_X11_mark l D Φ σ v3 (v2) hv4) hv3 ⟨Nat.le_of_ble_eq_true rfl, by decide⟩ ⟨w_826, ww_X11_mark⟩ rfl hy_X11_mark rfl ⟨(Nat.le_of_ble_eq_true rfl), (Nat.le_of_ble_eq_true rfl)⟩ hP hS hl.1 (Nat.le_of_ble_eq_true rfl) dX11_markAll_8 rfl ⟨(Nat.le_of_ble_eq_true rfl), (Nat.le_of_ble_eq_true rfl)⟩) hS (fun H locs hP hS => ?_)
  refine W.eq (g2 := F0 m 11 ls []) rfl ?_
  obtain rfl := sj h
  exact c_wv X hP hS (Nat.le_of_ble_eq_true rfl) (Nat.le_of_ble_eq_true rfl) dX11_markAll_11
theorem ww_X11_markAll : Cond.instanceMethod yX11_markAll ∈ BG ∧ Cond.selects (yX11_markAll).cls yX11_markAll yX11_markAll ∈ BG ∧ Cond.initialized (yX11_markAll).cls ∈ BG ∧ Cond.code yX11_markAll cX11_markAll 1 none ∈ BG := ⟨w_832, w_12, w_56, w_833⟩
theorem hy_X11_markAll : (yX11_markAll).cls ≠ "java/lang/invoke/MethodHandle" ∧ (yX11_markAll).cls ≠ "java/lang/invoke/VarHandle" ∧ (parseMethodDescriptor (yX11_markAll).desc).map (fun d => d.parameters.length) = some 0 := ⟨by decide, by decide, by decide +kernel⟩
