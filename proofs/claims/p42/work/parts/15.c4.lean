set_option maxRecDepth 100000 in
theorem w_822 : Cond.methodLink "Cascadery" 422 yX10_below ∈ BG := bg_in 822 (by decide +kernel) (by decide +kernel)
set_option maxRecDepth 100000 in
theorem w_247 : Cond.fieldLink "Cascadery" 84 "Cascadery$Element" "isHost" "Z" ∈ BG := bg_in 247 (by decide +kernel) (by decide +kernel)
set_option maxRecDepth 100000 in
theorem w_837 : Cond.code yX11_markSlotted cX11_markSlotted 3 none ∈ BG := bg_in 837 (by rfl) (by decide +kernel)
set_option maxRecDepth 100000 in
theorem w_836 : Cond.instanceMethod yX11_markSlotted ∈ BG := bg_in 836 (by decide +kernel) (by decide +kernel)
set_option maxRecDepth 100000 in
theorem w_13 : Cond.selects "Cascadery" yX11_markSlotted yX11_markSlotted ∈ BG := bg_in 13 (by decide +kernel) (by decide +kernel)
set_option maxRecDepth 100000 in
theorem w_834 : Cond.methodLink "Cascadery" 173 yX11_markSlotted ∈ BG := bg_in 834 (by decide +kernel) (by decide +kernel)
set_option maxRecDepth 100000 in
theorem w_573 : Cond.fieldLink "Cascadery" 56 "Cascadery" "cascade" "LCascadery$Cascade;" ∈ BG := bg_in 573 (by decide +kernel) (by decide +kernel)
set_option maxRecDepth 100000 in
theorem w_517 : Cond.fieldLink "Cascadery" 428 "Cascadery$Cascade" "hasHas" "Z" ∈ BG := bg_in 517 (by decide +kernel) (by decide +kernel)
set_option maxRecDepth 100000 in
theorem w_830 : Cond.methodLink "Cascadery" 93 yX11_markAll ∈ BG := bg_in 830 (by decide +kernel) (by decide +kernel)
set_option maxRecDepth 100000 in
theorem w_227 : Cond.fieldLink "Cascadery" 134 "Cascadery$Element" "number" "I" ∈ BG := bg_in 227 (by decide +kernel) (by decide +kernel)
set_option maxRecDepth 100000 in
theorem w_262 : Cond.fieldLink "Cascadery" 115 "Cascadery$Element" "next" "LCascadery$Element;" ∈ BG := bg_in 262 (by decide +kernel) (by decide +kernel)
set_option maxRecDepth 100000 in
theorem w_515 : Cond.fieldLink "Cascadery" 425 "Cascadery$Cascade" "hasOrder" "Z" ∈ BG := bg_in 515 (by decide +kernel) (by decide +kernel)
set_option maxRecDepth 100000 in
theorem w_821 : Cond.code yX11_markMove cX11_markMove 6 none ∈ BG := bg_in 821 (by rfl) (by decide +kernel)
set_option maxRecDepth 100000 in
theorem w_820 : Cond.instanceMethod yX11_markMove ∈ BG := bg_in 820 (by decide +kernel) (by decide +kernel)
set_option maxRecDepth 100000 in
theorem w_10 : Cond.selects "Cascadery" yX11_markMove yX11_markMove ∈ BG := bg_in 10 (by decide +kernel) (by decide +kernel)
set_option maxRecDepth 100000 in
theorem w_968 : Cond.code yX11_isMember cX11_isMember 2 (some .boolean) ∈ BG := bg_in 968 (by rfl) (by decide +kernel)
set_option maxRecDepth 100000 in
theorem w_967 : Cond.static yX11_isMember ∈ BG := bg_in 967 (by decide +kernel) (by decide +kernel)
set_option maxRecDepth 100000 in
theorem w_513 : Cond.fieldLink "Cascadery" 416 "Cascadery$Cascade" "farFeatures" "I" ∈ BG := bg_in 513 (by decide +kernel) (by decide +kernel)
set_option maxRecDepth 100000 in
theorem w_1102 : Cond.methodLink "Cascadery" 419 yX10_around ∈ BG := bg_in 1102 (by decide +kernel) (by decide +kernel)
set_option maxRecDepth 100000 in
theorem w_511 : Cond.fieldLink "Cascadery" 413 "Cascadery$Cascade" "nearFeatures" "I" ∈ BG := bg_in 511 (by decide +kernel) (by decide +kernel)
set_option maxRecDepth 100000 in
theorem w_1101 : Cond.code yX11_markFeature cX11_markFeature 3 none ∈ BG := bg_in 1101 (by rfl) (by decide +kernel)
set_option maxRecDepth 100000 in
theorem w_1100 : Cond.instanceMethod yX11_markFeature ∈ BG := bg_in 1100 (by decide +kernel) (by decide +kernel)
set_option maxRecDepth 100000 in
theorem w_47 : Cond.selects "Cascadery" yX11_markFeature yX11_markFeature ∈ BG := bg_in 47 (by decide +kernel) (by decide +kernel)
set_option maxRecDepth 100000 in
theorem w_233 : Cond.fieldLink "Cascadery" 141 "Cascadery$Element" "classes" "I" ∈ BG := bg_in 233 (by decide +kernel) (by decide +kernel)
set_option maxRecDepth 100000 in
theorem w_334 : Cond.fieldLink "Cascadery" 154 "Cascadery$Trees" "version" "I" ∈ BG := bg_in 334 (by decide +kernel) (by decide +kernel)
set_option maxRecDepth 100000 in
theorem w_1097 : Cond.methodLink "Cascadery" 157 yX7_feature ∈ BG := bg_in 1097 (by decide +kernel) (by decide +kernel)
set_option maxRecDepth 100000 in
theorem w_1098 : Cond.methodLink "Cascadery" 163 yX11_markFeature ∈ BG := bg_in 1098 (by decide +kernel) (by decide +kernel)
set_option maxRecDepth 100000 in
theorem w_1096 : Cond.code yX11_giveClass cX11_giveClass 4 none ∈ BG := bg_in 1096 (by rfl) (by decide +kernel)
set_option maxRecDepth 100000 in
theorem w_1095 : Cond.instanceMethod yX11_giveClass ∈ BG := bg_in 1095 (by decide +kernel) (by decide +kernel)
set_option maxRecDepth 100000 in
theorem w_46 : Cond.selects "Cascadery" yX11_giveClass yX11_giveClass ∈ BG := bg_in 46 (by decide +kernel) (by decide +kernel)
set_option maxRecDepth 100000 in
theorem w_635 : Cond.methodLink "Cascadery" 61 yX11_isBelow ∈ BG := bg_in 635 (by decide +kernel) (by decide +kernel)
set_option maxRecDepth 100000 in
theorem w_859 : Cond.code yX11_suitsTest cX11_suitsTest 3 (some .boolean) ∈ BG := bg_in 859 (by rfl) (by decide +kernel)
set_option maxRecDepth 100000 in
theorem w_858 : Cond.static yX11_suitsTest ∈ BG := bg_in 858 (by decide +kernel) (by decide +kernel)
set_option maxRecDepth 100000 in
theorem w_1313 : Cond.code yX11_isNumber cX11_isNumber 1 (some .boolean) ∈ BG := bg_in 1313 (by rfl) (by decide +kernel)
set_option maxRecDepth 100000 in
theorem w_1312 : Cond.static yX11_isNumber ∈ BG := bg_in 1312 (by decide +kernel) (by decide +kernel)
set_option maxRecDepth 100000 in
theorem w_1316 : Cond.code yX11_firstOf cX11_firstOf 1 (some .int) ∈ BG := bg_in 1316 (by rfl) (by decide +kernel)
set_option maxRecDepth 100000 in
theorem w_1315 : Cond.static yX11_firstOf ∈ BG := bg_in 1315 (by decide +kernel) (by decide +kernel)
set_option maxRecDepth 100000 in
theorem w_1320 : Cond.code yX11_lastOf cX11_lastOf 1 (some .int) ∈ BG := bg_in 1320 (by rfl) (by decide +kernel)
set_option maxRecDepth 100000 in
theorem w_1319 : Cond.static yX11_lastOf ∈ BG := bg_in 1319 (by decide +kernel) (by decide +kernel)
set_option maxRecDepth 100000 in
theorem w_1329 : Cond.code yX11_markDeclaration cX11_markDeclaration 2 none ∈ BG := bg_in 1329 (by rfl) (by decide +kernel)
set_option maxRecDepth 100000 in
theorem w_1328 : Cond.instanceMethod yX11_markDeclaration ∈ BG := bg_in 1328 (by decide +kernel) (by decide +kernel)
set_option maxRecDepth 100000 in
theorem w_54 : Cond.selects "Cascadery" yX11_markDeclaration yX11_markDeclaration ∈ BG := bg_in 54 (by decide +kernel) (by decide +kernel)
set_option maxRecDepth 100000 in
theorem w_283 : Cond.fieldLink "Cascadery" 324 "Cascadery$Element" "kept" "LCascadery$Style;" ∈ BG := bg_in 283 (by decide +kernel) (by decide +kernel)
set_option maxRecDepth 100000 in
theorem w_96 : Cond.fieldLink "Cascadery" 443 "Cascadery$Style" "isKnown" "Z" ∈ BG := bg_in 96 (by decide +kernel) (by decide +kernel)
set_option maxRecDepth 100000 in
theorem w_276 : Cond.fieldLink "Cascadery" 446 "Cascadery$Element" "after" "LCascadery$Element;" ∈ BG := bg_in 276 (by decide +kernel) (by decide +kernel)
set_option maxRecDepth 100000 in
theorem w_327 : Cond.fieldLink "Cascadery" 440 "Cascadery$Trees" "top" "LCascadery$Element;" ∈ BG := bg_in 327 (by decide +kernel) (by decide +kernel)
set_option maxRecDepth 100000 in
theorem w_908 : Cond.code yX11_lacksValues cX11_lacksValues 2 (some .boolean) ∈ BG := bg_in 908 (by rfl) (by decide +kernel)
set_option maxRecDepth 100000 in
theorem w_907 : Cond.instanceMethod yX11_lacksValues ∈ BG := bg_in 907 (by decide +kernel) (by decide +kernel)
set_option maxRecDepth 100000 in
theorem w_16 : Cond.selects "Cascadery" yX11_lacksValues yX11_lacksValues ∈ BG := bg_in 16 (by decide +kernel) (by decide +kernel)
set_option maxRecDepth 100000 in
theorem w_578 : Cond.fieldLink "Cascadery" 23 "Cascadery" "anewStyles" "[LCascadery$Style;" ∈ BG := bg_in 578 (by decide +kernel) (by decide +kernel)
set_option maxRecDepth 100000 in
theorem w_984 : Cond.code yX11_styleOf cX11_styleOf 3 (some (.object "Cascadery$Style")) ∈ BG := bg_in 984 (by rfl) (by decide +kernel)
set_option maxRecDepth 100000 in
theorem w_983 : Cond.instanceMethod yX11_styleOf ∈ BG := bg_in 983 (by decide +kernel) (by decide +kernel)
set_option maxRecDepth 100000 in
theorem w_29 : Cond.selects "Cascadery" yX11_styleOf yX11_styleOf ∈ BG := bg_in 29 (by decide +kernel) (by decide +kernel)
set_option maxRecDepth 100000 in
theorem w_981 : Cond.methodLink "Cascadery" 362 yX11_styleOf ∈ BG := bg_in 981 (by decide +kernel) (by decide +kernel)
set_option maxRecDepth 100000 in
theorem w_94 : Cond.fieldLink "Cascadery" 327 "Cascadery$Style" "values" "[I" ∈ BG := bg_in 94 (by decide +kernel) (by decide +kernel)
set_option maxRecDepth 100000 in
theorem w_273 : Cond.fieldLink "Cascadery" 184 "Cascadery$Element" "shownParent" "LCascadery$Element;" ∈ BG := bg_in 273 (by decide +kernel) (by decide +kernel)
set_option maxRecDepth 100000 in
theorem w_980 : Cond.code yX11_holderOf cX11_holderOf 5 (some (.object "Cascadery$Style")) ∈ BG := bg_in 980 (by rfl) (by decide +kernel)
set_option maxRecDepth 100000 in
theorem w_979 : Cond.instanceMethod yX11_holderOf ∈ BG := bg_in 979 (by decide +kernel) (by decide +kernel)
set_option maxRecDepth 100000 in
theorem w_28 : Cond.selects "Cascadery" yX11_holderOf yX11_holderOf ∈ BG := bg_in 28 (by decide +kernel) (by decide +kernel)
set_option maxRecDepth 100000 in
theorem w_985 : Cond.methodLink "Cascadery" 497 yX1_gather ∈ BG := bg_in 985 (by decide +kernel) (by decide +kernel)
set_option maxRecDepth 100000 in
theorem w_519 : Cond.fieldLink "Cascadery" 501 "Cascadery$Cascade" "sources" "[LCascadery$Rule;" ∈ BG := bg_in 519 (by decide +kernel) (by decide +kernel)
set_option maxRecDepth 100000 in
theorem w_509 : Cond.fieldLink "Cascadery" 318 "Cascadery$Cascade" "width" "I" ∈ BG := bg_in 509 (by decide +kernel) (by decide +kernel)
set_option maxRecDepth 100000 in
theorem w_1009 : Cond.methodLink "Cascadery" 505 yX9_findFrom ∈ BG := bg_in 1009 (by decide +kernel) (by decide +kernel)
set_option maxRecDepth 100000 in
theorem w_977 : Cond.methodLink "Cascadery" 351 yX11_holderOf ∈ BG := bg_in 977 (by decide +kernel) (by decide +kernel)
set_option maxRecDepth 100000 in
theorem w_976 : Cond.code yX11_findStyle cX11_findStyle 6 none ∈ BG := bg_in 976 (by rfl) (by decide +kernel)
set_option maxRecDepth 100000 in
theorem w_975 : Cond.instanceMethod yX11_findStyle ∈ BG := bg_in 975 (by decide +kernel) (by decide +kernel)
set_option maxRecDepth 100000 in
theorem w_27 : Cond.selects "Cascadery" yX11_findStyle yX11_findStyle ∈ BG := bg_in 27 (by decide +kernel) (by decide +kernel)
set_option maxRecDepth 100000 in
theorem w_574 : Cond.fieldLink "Cascadery" 11 "Cascadery" "animations" "[LCascadery$Animation;" ∈ BG := bg_in 574 (by decide +kernel) (by decide +kernel)
set_option maxRecDepth 100000 in
theorem w_1054 : Cond.code yX11_animationAt cX11_animationAt 2 (some (.object "Cascadery$Animation")) ∈ BG := bg_in 1054 (by rfl) (by decide +kernel)
set_option maxRecDepth 100000 in
theorem w_1053 : Cond.instanceMethod yX11_animationAt ∈ BG := bg_in 1053 (by decide +kernel) (by decide +kernel)
set_option maxRecDepth 100000 in
theorem w_40 : Cond.selects "Cascadery" yX11_animationAt yX11_animationAt ∈ BG := bg_in 40 (by decide +kernel) (by decide +kernel)
set_option maxRecDepth 100000 in
theorem w_1051 : Cond.methodLink "Cascadery" 380 yX11_animationAt ∈ BG := bg_in 1051 (by decide +kernel) (by decide +kernel)
set_option maxRecDepth 100000 in
theorem w_1050 : Cond.code yX11_playedFor cX11_playedFor 2 (some (.object "Cascadery$Animation")) ∈ BG := bg_in 1050 (by rfl) (by decide +kernel)
set_option maxRecDepth 100000 in
theorem w_1049 : Cond.instanceMethod yX11_playedFor ∈ BG := bg_in 1049 (by decide +kernel) (by decide +kernel)
set_option maxRecDepth 100000 in
theorem w_39 : Cond.selects "Cascadery" yX11_playedFor yX11_playedFor ∈ BG := bg_in 39 (by decide +kernel) (by decide +kernel)
set_option maxRecDepth 100000 in
theorem w_266 : Cond.fieldLink "Cascadery" 475 "Cascadery$Element" "previous" "LCascadery$Element;" ∈ BG := bg_in 266 (by decide +kernel) (by decide +kernel)
set_option maxRecDepth 100000 in
theorem w_585 : Cond.fieldLink "Cascadery" 449 "Cascadery" "restyledNow" "I" ∈ BG := bg_in 585 (by decide +kernel) (by decide +kernel)
set_option maxRecDepth 100000 in
theorem w_966 : Cond.methodLink "Cascadery" 144 yX11_isMember ∈ BG := bg_in 966 (by decide +kernel) (by decide +kernel)
set_option maxRecDepth 100000 in
theorem w_1076 : Cond.methodLink "Cascadery" 478 yX3_looksLike ∈ BG := bg_in 1076 (by decide +kernel) (by decide +kernel)
set_option maxRecDepth 100000 in
theorem w_1075 : Cond.code yX11_isLikePrevious cX11_isLikePrevious 3 (some .boolean) ∈ BG := bg_in 1075 (by rfl) (by decide +kernel)
set_option maxRecDepth 100000 in
theorem w_1074 : Cond.instanceMethod yX11_isLikePrevious ∈ BG := bg_in 1074 (by decide +kernel) (by decide +kernel)
set_option maxRecDepth 100000 in
theorem w_42 : Cond.selects "Cascadery" yX11_isLikePrevious yX11_isLikePrevious ∈ BG := bg_in 42 (by decide +kernel) (by decide +kernel)
set_option maxRecDepth 100000 in
theorem w_102 : Cond.fieldLink "Cascadery" 455 "Cascadery$Style" "changes" "I" ∈ BG := bg_in 102 (by decide +kernel) (by decide +kernel)
set_option maxRecDepth 100000 in
theorem w_579 : Cond.fieldLink "Cascadery" 28 "Cascadery" "foundStyle" "LCascadery$Style;" ∈ BG := bg_in 579 (by decide +kernel) (by decide +kernel)
set_option maxRecDepth 100000 in
theorem w_973 : Cond.methodLink "Cascadery" 464 yX11_findStyle ∈ BG := bg_in 973 (by decide +kernel) (by decide +kernel)
set_option maxRecDepth 100000 in
theorem w_577 : Cond.fieldLink "Cascadery" 334 "Cascadery" "now" "I" ∈ BG := bg_in 577 (by decide +kernel) (by decide +kernel)
set_option maxRecDepth 100000 in
theorem w_1047 : Cond.methodLink "Cascadery" 337 yX11_playedFor ∈ BG := bg_in 1047 (by decide +kernel) (by decide +kernel)
set_option maxRecDepth 100000 in
theorem w_1055 : Cond.methodLink "Cascadery" 468 yX9_adopt ∈ BG := bg_in 1055 (by decide +kernel) (by decide +kernel)
set_option maxRecDepth 100000 in
theorem w_583 : Cond.fieldLink "Cascadery" 374 "Cascadery" "restyledCount" "I" ∈ BG := bg_in 583 (by decide +kernel) (by decide +kernel)
set_option maxRecDepth 100000 in
theorem w_1072 : Cond.methodLink "Cascadery" 472 yX11_isLikePrevious ∈ BG := bg_in 1072 (by decide +kernel) (by decide +kernel)
set_option maxRecDepth 100000 in
theorem w_584 : Cond.fieldLink "Cascadery" 377 "Cascadery" "sharedCount" "I" ∈ BG := bg_in 584 (by decide +kernel) (by decide +kernel)
set_option maxRecDepth 100000 in
theorem w_972 : Cond.code yX11_restyle cX11_restyle 3 (some .boolean) ∈ BG := bg_in 972 (by rfl) (by decide +kernel)
set_option maxRecDepth 100000 in
theorem w_971 : Cond.instanceMethod yX11_restyle ∈ BG := bg_in 971 (by decide +kernel) (by decide +kernel)
set_option maxRecDepth 100000 in
theorem w_26 : Cond.selects "Cascadery" yX11_restyle yX11_restyle ∈ BG := bg_in 26 (by decide +kernel) (by decide +kernel)
set_option maxRecDepth 100000 in
theorem w_580 : Cond.fieldLink "Cascadery" 32 "Cascadery" "freeStyle" "LCascadery$Style;" ∈ BG := bg_in 580 (by decide +kernel) (by decide +kernel)
set_option maxRecDepth 100000 in
theorem w_1088 : Cond.constant "Cascadery" 509 (-1000000) ∈ BG := bg_in 1088 (by decide +kernel) (by decide +kernel)
set_option maxRecDepth 100000 in
theorem w_1087 : Cond.code yX11_sizeFor cX11_sizeFor 7 (some .int) ∈ BG := bg_in 1087 (by rfl) (by decide +kernel)
set_option maxRecDepth 100000 in
theorem w_1086 : Cond.instanceMethod yX11_sizeFor ∈ BG := bg_in 1086 (by decide +kernel) (by decide +kernel)
set_option maxRecDepth 100000 in
theorem w_44 : Cond.selects "Cascadery" yX11_sizeFor yX11_sizeFor ∈ BG := bg_in 44 (by decide +kernel) (by decide +kernel)
set_option maxRecDepth 100000 in
theorem w_99 : Cond.fieldLink "Cascadery" 331 "Cascadery$Style" "size" "I" ∈ BG := bg_in 99 (by decide +kernel) (by decide +kernel)
set_option maxRecDepth 100000 in
theorem w_1084 : Cond.methodLink "Cascadery" 481 yX11_sizeFor ∈ BG := bg_in 1084 (by decide +kernel) (by decide +kernel)
set_option maxRecDepth 100000 in
theorem w_1083 : Cond.code yX11_renewSize cX11_renewSize 3 (some .boolean) ∈ BG := bg_in 1083 (by rfl) (by decide +kernel)
set_option maxRecDepth 100000 in
theorem w_1082 : Cond.instanceMethod yX11_renewSize ∈ BG := bg_in 1082 (by decide +kernel) (by decide +kernel)
set_option maxRecDepth 100000 in
theorem w_43 : Cond.selects "Cascadery" yX11_renewSize yX11_renewSize ∈ BG := bg_in 43 (by decide +kernel) (by decide +kernel)
set_option maxRecDepth 100000 in
theorem w_586 : Cond.fieldLink "Cascadery" 452 "Cascadery" "movedNow" "I" ∈ BG := bg_in 586 (by decide +kernel) (by decide +kernel)
set_option maxRecDepth 100000 in
theorem w_1080 : Cond.methodLink "Cascadery" 461 yX11_renewSize ∈ BG := bg_in 1080 (by decide +kernel) (by decide +kernel)
set_option maxRecDepth 100000 in
theorem w_969 : Cond.methodLink "Cascadery" 458 yX11_restyle ∈ BG := bg_in 969 (by decide +kernel) (by decide +kernel)
set_option maxRecDepth 100000 in
theorem w_582 : Cond.fieldLink "Cascadery" 371 "Cascadery" "flushCount" "I" ∈ BG := bg_in 582 (by decide +kernel) (by decide +kernel)
set_option maxRecDepth 100000 in
theorem w_965 : Cond.code yX11_flush cX11_flush 3 none ∈ BG := bg_in 965 (by rfl) (by decide +kernel)
set_option maxRecDepth 100000 in
theorem w_964 : Cond.instanceMethod yX11_flush ∈ BG := bg_in 964 (by decide +kernel) (by decide +kernel)
set_option maxRecDepth 100000 in
theorem w_25 : Cond.selects "Cascadery" yX11_flush yX11_flush ∈ BG := bg_in 25 (by decide +kernel) (by decide +kernel)
set_option maxRecDepth 100000 in
theorem w_576 : Cond.fieldLink "Cascadery" 398 "Cascadery" "listenerCount" "I" ∈ BG := bg_in 576 (by decide +kernel) (by decide +kernel)
set_option maxRecDepth 100000 in
theorem w_575 : Cond.fieldLink "Cascadery" 17 "Cascadery" "listeners" "[LCascadery$Listener;" ∈ BG := bg_in 575 (by decide +kernel) (by decide +kernel)
set_option maxRecDepth 100000 in
theorem w_1092 : Cond.code yX11_tellListeners cX11_tellListeners 3 none ∈ BG := bg_in 1092 (by rfl) (by decide +kernel)
set_option maxRecDepth 100000 in
theorem w_1091 : Cond.instanceMethod yX11_tellListeners ∈ BG := bg_in 1091 (by decide +kernel) (by decide +kernel)
set_option maxRecDepth 100000 in
theorem w_45 : Cond.selects "Cascadery" yX11_tellListeners yX11_tellListeners ∈ BG := bg_in 45 (by decide +kernel) (by decide +kernel)
set_option maxRecDepth 100000 in
theorem w_909 : Cond.methodLink "Cascadery" 348 yX1_prepare ∈ BG := bg_in 909 (by decide +kernel) (by decide +kernel)
set_option maxRecDepth 100000 in
theorem w_962 : Cond.methodLink "Cascadery" 434 yX11_flush ∈ BG := bg_in 962 (by decide +kernel) (by decide +kernel)
set_option maxRecDepth 100000 in
theorem w_1089 : Cond.methodLink "Cascadery" 437 yX11_tellListeners ∈ BG := bg_in 1089 (by decide +kernel) (by decide +kernel)
set_option maxRecDepth 100000 in
theorem w_905 : Cond.methodLink "Cascadery" 431 yX11_lacksValues ∈ BG := bg_in 905 (by decide +kernel) (by decide +kernel)
set_option maxRecDepth 100000 in
theorem w_904 : Cond.code yX11_read cX11_read 3 none ∈ BG := bg_in 904 (by rfl) (by decide +kernel)
set_option maxRecDepth 100000 in
theorem w_903 : Cond.instanceMethod yX11_read ∈ BG := bg_in 903 (by decide +kernel) (by decide +kernel)
set_option maxRecDepth 100000 in
theorem w_15 : Cond.selects "Cascadery" yX11_read yX11_read ∈ BG := bg_in 15 (by decide +kernel) (by decide +kernel)
set_option maxRecDepth 100000 in
theorem w_1127 : Cond.code yX11_findAnew cX11_findAnew 5 none ∈ BG := bg_in 1127 (by rfl) (by decide +kernel)
set_option maxRecDepth 100000 in
theorem w_1126 : Cond.instanceMethod yX11_findAnew ∈ BG := bg_in 1126 (by decide +kernel) (by decide +kernel)
set_option maxRecDepth 100000 in
theorem w_48 : Cond.selects "Cascadery" yX11_findAnew yX11_findAnew ∈ BG := bg_in 48 (by decide +kernel) (by decide +kernel)
set_option maxRecDepth 100000 in
theorem w_1148 : Cond.code yX11_marked cX11_marked 1 (some .int) ∈ BG := bg_in 1148 (by rfl) (by decide +kernel)
set_option maxRecDepth 100000 in
theorem w_1146 : Cond.instanceMethod yX11_marked ∈ BG := bg_in 1146 (by decide +kernel) (by decide +kernel)
set_option maxRecDepth 100000 in
theorem w_1147 : Cond.selects "Cascadery" yX11_marked yX11_marked ∈ BG := bg_in 1147 (by decide +kernel) (by decide +kernel)
set_option maxRecDepth 100000 in
theorem w_1152 : Cond.code yX11_flushes cX11_flushes 1 (some .int) ∈ BG := bg_in 1152 (by rfl) (by decide +kernel)
set_option maxRecDepth 100000 in
theorem w_1150 : Cond.instanceMethod yX11_flushes ∈ BG := bg_in 1150 (by decide +kernel) (by decide +kernel)
set_option maxRecDepth 100000 in
theorem w_1151 : Cond.selects "Cascadery" yX11_flushes yX11_flushes ∈ BG := bg_in 1151 (by decide +kernel) (by decide +kernel)
set_option maxRecDepth 100000 in
theorem w_1156 : Cond.code yX11_restyled cX11_restyled 1 (some .int) ∈ BG := bg_in 1156 (by rfl) (by decide +kernel)
set_option maxRecDepth 100000 in
theorem w_1154 : Cond.instanceMethod yX11_restyled ∈ BG := bg_in 1154 (by decide +kernel) (by decide +kernel)
set_option maxRecDepth 100000 in
theorem w_1155 : Cond.selects "Cascadery" yX11_restyled yX11_restyled ∈ BG := bg_in 1155 (by decide +kernel) (by decide +kernel)
set_option maxRecDepth 100000 in
theorem w_1160 : Cond.code yX11_shared cX11_shared 1 (some .int) ∈ BG := bg_in 1160 (by rfl) (by decide +kernel)
set_option maxRecDepth 100000 in
theorem w_1158 : Cond.instanceMethod yX11_shared ∈ BG := bg_in 1158 (by decide +kernel) (by decide +kernel)
set_option maxRecDepth 100000 in
theorem w_1159 : Cond.selects "Cascadery" yX11_shared yX11_shared ∈ BG := bg_in 1159 (by decide +kernel) (by decide +kernel)
theorem dX11_markSlotted_0 : decode cX11_markSlotted 0 = .ok (.aload_n 1, 1) := by decide +kernel
theorem dX11_markSlotted_1 : decode cX11_markSlotted 1 = .ok (.ifnull 22, 3) := by decide +kernel
theorem dX11_markSlotted_4 : decode cX11_markSlotted 4 = .ok (.aload_n 1, 1) := by decide +kernel
theorem dX11_markSlotted_5 : decode cX11_markSlotted 5 = .ok (.getfield 84, 3) := by decide +kernel
theorem dX11_markSlotted_8 : decode cX11_markSlotted 8 = .ok (.ifCond .eq 15, 3) := by decide +kernel
theorem dX11_markSlotted_11 : decode cX11_markSlotted 11 = .ok (.aload_n 0, 1) := by decide +kernel
theorem dX11_markSlotted_12 : decode cX11_markSlotted 12 = .ok (.aload_n 0, 1) := by decide +kernel
theorem dX11_markSlotted_13 : decode cX11_markSlotted 13 = .ok (.getfield 48, 3) := by decide +kernel
theorem dX11_markSlotted_16 : decode cX11_markSlotted 16 = .ok (.aload_n 1, 1) := by decide +kernel
theorem dX11_markSlotted_17 : decode cX11_markSlotted 17 = .ok (.invokevirtual 422, 3) := by decide +kernel
theorem dX11_markSlotted_20 : decode cX11_markSlotted 20 = .ok (.invokevirtual 180, 3) := by decide +kernel
theorem dX11_markSlotted_23 : decode cX11_markSlotted 23 = .ok (.aload_n 2, 1) := by decide +kernel
theorem dX11_markSlotted_24 : decode cX11_markSlotted 24 = .ok (.ifnull 15, 3) := by decide +kernel
theorem dX11_markSlotted_27 : decode cX11_markSlotted 27 = .ok (.aload_n 0, 1) := by decide +kernel
theorem dX11_markSlotted_28 : decode cX11_markSlotted 28 = .ok (.aload_n 0, 1) := by decide +kernel
theorem dX11_markSlotted_29 : decode cX11_markSlotted 29 = .ok (.getfield 48, 3) := by decide +kernel
theorem dX11_markSlotted_32 : decode cX11_markSlotted 32 = .ok (.aload_n 2, 1) := by decide +kernel
theorem dX11_markSlotted_33 : decode cX11_markSlotted 33 = .ok (.invokevirtual 422, 3) := by decide +kernel
theorem dX11_markSlotted_36 : decode cX11_markSlotted 36 = .ok (.invokevirtual 180, 3) := by decide +kernel
theorem dX11_markSlotted_39 : decode cX11_markSlotted 39 = .ok (.return_, 1) := by decide +kernel
theorem dX11_markMove_0 : decode cX11_markMove 0 = .ok (.aload_n 0, 1) := by decide +kernel
theorem dX11_markMove_1 : decode cX11_markMove 1 = .ok (.iconst 1, 1) := by decide +kernel
theorem dX11_markMove_2 : decode cX11_markMove 2 = .ok (.aload_n 1, 1) := by decide +kernel
theorem dX11_markMove_3 : decode cX11_markMove 3 = .ok (.getfield 134, 3) := by decide +kernel
theorem dX11_markMove_6 : decode cX11_markMove 6 = .ok (.ishl, 1) := by decide +kernel
theorem dX11_markMove_7 : decode cX11_markMove 7 = .ok (.aload_n 0, 1) := by decide +kernel
theorem dX11_markMove_8 : decode cX11_markMove 8 = .ok (.getfield 48, 3) := by decide +kernel
theorem dX11_markMove_11 : decode cX11_markMove 11 = .ok (.aload_n 1, 1) := by decide +kernel
theorem dX11_markMove_12 : decode cX11_markMove 12 = .ok (.invokevirtual 422, 3) := by decide +kernel
theorem dX11_markMove_15 : decode cX11_markMove 15 = .ok (.ior, 1) := by decide +kernel
theorem dX11_markMove_16 : decode cX11_markMove 16 = .ok (.invokevirtual 180, 3) := by decide +kernel
theorem dX11_markMove_19 : decode cX11_markMove 19 = .ok (.aload_n 0, 1) := by decide +kernel
theorem dX11_markMove_20 : decode cX11_markMove 20 = .ok (.getfield 56, 3) := by decide +kernel
theorem dX11_markMove_23 : decode cX11_markMove 23 = .ok (.getfield 425, 3) := by decide +kernel
theorem dX11_markMove_26 : decode cX11_markMove 26 = .ok (.ifCond .eq 42, 3) := by decide +kernel
theorem dX11_markMove_29 : decode cX11_markMove 29 = .ok (.aload_n 2, 1) := by decide +kernel
theorem dX11_markMove_30 : decode cX11_markMove 30 = .ok (.astore 5, 2) := by decide +kernel
theorem dX11_markMove_32 : decode cX11_markMove 32 = .ok (.aload 5, 2) := by decide +kernel
theorem dX11_markMove_34 : decode cX11_markMove 34 = .ok (.ifnull 34, 3) := by decide +kernel
theorem dX11_markMove_37 : decode cX11_markMove 37 = .ok (.aload_n 0, 1) := by decide +kernel
theorem dX11_markMove_38 : decode cX11_markMove 38 = .ok (.iconst 1, 1) := by decide +kernel
theorem dX11_markMove_39 : decode cX11_markMove 39 = .ok (.aload 5, 2) := by decide +kernel
theorem dX11_markMove_41 : decode cX11_markMove 41 = .ok (.getfield 134, 3) := by decide +kernel
theorem dX11_markMove_44 : decode cX11_markMove 44 = .ok (.ishl, 1) := by decide +kernel
theorem dX11_markMove_45 : decode cX11_markMove 45 = .ok (.aload_n 0, 1) := by decide +kernel
theorem dX11_markMove_46 : decode cX11_markMove 46 = .ok (.getfield 48, 3) := by decide +kernel
theorem dX11_markMove_49 : decode cX11_markMove 49 = .ok (.aload 5, 2) := by decide +kernel
theorem dX11_markMove_51 : decode cX11_markMove 51 = .ok (.invokevirtual 422, 3) := by decide +kernel
theorem dX11_markMove_54 : decode cX11_markMove 54 = .ok (.ior, 1) := by decide +kernel
theorem dX11_markMove_55 : decode cX11_markMove 55 = .ok (.invokevirtual 180, 3) := by decide +kernel
theorem dX11_markMove_58 : decode cX11_markMove 58 = .ok (.aload 5, 2) := by decide +kernel
theorem dX11_markMove_60 : decode cX11_markMove 60 = .ok (.getfield 115, 3) := by decide +kernel
theorem dX11_markMove_63 : decode cX11_markMove 63 = .ok (.astore 5, 2) := by decide +kernel
theorem dX11_markMove_65 : decode cX11_markMove 65 = .ok (.goto (-33), 3) := by decide +kernel
theorem dX11_markMove_68 : decode cX11_markMove 68 = .ok (.aload_n 0, 1) := by decide +kernel
theorem dX11_markMove_69 : decode cX11_markMove 69 = .ok (.getfield 56, 3) := by decide +kernel
theorem dX11_markMove_72 : decode cX11_markMove 72 = .ok (.getfield 428, 3) := by decide +kernel
theorem dX11_markMove_75 : decode cX11_markMove 75 = .ok (.ifCond .eq 7, 3) := by decide +kernel
theorem dX11_markMove_78 : decode cX11_markMove 78 = .ok (.aload_n 0, 1) := by decide +kernel
theorem dX11_markMove_79 : decode cX11_markMove 79 = .ok (.invokevirtual 93, 3) := by decide +kernel
theorem dX11_markMove_82 : decode cX11_markMove 82 = .ok (.aload_n 0, 1) := by decide +kernel
theorem dX11_markMove_83 : decode cX11_markMove 83 = .ok (.aload_n 3, 1) := by decide +kernel
theorem dX11_markMove_84 : decode cX11_markMove 84 = .ok (.aload 4, 2) := by decide +kernel
theorem dX11_markMove_86 : decode cX11_markMove 86 = .ok (.invokevirtual 173, 3) := by decide +kernel
theorem dX11_markMove_89 : decode cX11_markMove 89 = .ok (.return_, 1) := by decide +kernel
theorem dX11_isMember_0 : decode cX11_isMember 0 = .ok (.iload_n 0, 1) := by decide +kernel
theorem dX11_isMember_1 : decode cX11_isMember 1 = .ok (.iload_n 1, 1) := by decide +kernel
theorem dX11_isMember_2 : decode cX11_isMember 2 = .ok (.ishr, 1) := by decide +kernel
theorem dX11_isMember_3 : decode cX11_isMember 3 = .ok (.iconst 1, 1) := by decide +kernel
theorem dX11_isMember_4 : decode cX11_isMember 4 = .ok (.iand, 1) := by decide +kernel
theorem dX11_isMember_5 : decode cX11_isMember 5 = .ok (.ifCond .eq 7, 3) := by decide +kernel
theorem dX11_isMember_8 : decode cX11_isMember 8 = .ok (.iconst 1, 1) := by decide +kernel
theorem dX11_isMember_9 : decode cX11_isMember 9 = .ok (.goto 4, 3) := by decide +kernel
theorem dX11_isMember_12 : decode cX11_isMember 12 = .ok (.iconst 0, 1) := by decide +kernel
theorem dX11_isMember_13 : decode cX11_isMember 13 = .ok (.ireturn, 1) := by decide +kernel
theorem dX11_markFeature_0 : decode cX11_markFeature 0 = .ok (.aload_n 0, 1) := by decide +kernel
theorem dX11_markFeature_1 : decode cX11_markFeature 1 = .ok (.getfield 56, 3) := by decide +kernel
theorem dX11_markFeature_4 : decode cX11_markFeature 4 = .ok (.getfield 413, 3) := by decide +kernel
theorem dX11_markFeature_7 : decode cX11_markFeature 7 = .ok (.iload_n 2, 1) := by decide +kernel
theorem dX11_markFeature_8 : decode cX11_markFeature 8 = .ok (.iand, 1) := by decide +kernel
theorem dX11_markFeature_9 : decode cX11_markFeature 9 = .ok (.ifCond .eq 13, 3) := by decide +kernel
theorem dX11_markFeature_12 : decode cX11_markFeature 12 = .ok (.aload_n 0, 1) := by decide +kernel
theorem dX11_markFeature_13 : decode cX11_markFeature 13 = .ok (.iconst 1, 1) := by decide +kernel
theorem dX11_markFeature_14 : decode cX11_markFeature 14 = .ok (.aload_n 1, 1) := by decide +kernel
theorem dX11_markFeature_15 : decode cX11_markFeature 15 = .ok (.getfield 134, 3) := by decide +kernel
theorem dX11_markFeature_18 : decode cX11_markFeature 18 = .ok (.ishl, 1) := by decide +kernel
theorem dX11_markFeature_19 : decode cX11_markFeature 19 = .ok (.invokevirtual 180, 3) := by decide +kernel
theorem dX11_markFeature_22 : decode cX11_markFeature 22 = .ok (.aload_n 0, 1) := by decide +kernel
theorem dX11_markFeature_23 : decode cX11_markFeature 23 = .ok (.getfield 56, 3) := by decide +kernel
theorem dX11_markFeature_26 : decode cX11_markFeature 26 = .ok (.getfield 416, 3) := by decide +kernel
theorem dX11_markFeature_29 : decode cX11_markFeature 29 = .ok (.iload_n 2, 1) := by decide +kernel
theorem dX11_markFeature_30 : decode cX11_markFeature 30 = .ok (.iand, 1) := by decide +kernel
theorem dX11_markFeature_31 : decode cX11_markFeature 31 = .ok (.ifCond .eq 15, 3) := by decide +kernel
theorem dX11_markFeature_34 : decode cX11_markFeature 34 = .ok (.aload_n 0, 1) := by decide +kernel
theorem dX11_markFeature_35 : decode cX11_markFeature 35 = .ok (.aload_n 0, 1) := by decide +kernel
theorem dX11_markFeature_36 : decode cX11_markFeature 36 = .ok (.getfield 48, 3) := by decide +kernel
theorem dX11_markFeature_39 : decode cX11_markFeature 39 = .ok (.aload_n 1, 1) := by decide +kernel
theorem dX11_markFeature_40 : decode cX11_markFeature 40 = .ok (.invokevirtual 419, 3) := by decide +kernel
theorem dX11_markFeature_43 : decode cX11_markFeature 43 = .ok (.invokevirtual 180, 3) := by decide +kernel
theorem dX11_markFeature_46 : decode cX11_markFeature 46 = .ok (.return_, 1) := by decide +kernel
theorem dX11_giveClass_0 : decode cX11_giveClass 0 = .ok (.aload_n 1, 1) := by decide +kernel
theorem dX11_giveClass_1 : decode cX11_giveClass 1 = .ok (.iload_n 3, 1) := by decide +kernel
theorem dX11_giveClass_2 : decode cX11_giveClass 2 = .ok (.ifCond .eq 14, 3) := by decide +kernel
theorem dX11_giveClass_5 : decode cX11_giveClass 5 = .ok (.aload_n 1, 1) := by decide +kernel
theorem dX11_giveClass_6 : decode cX11_giveClass 6 = .ok (.getfield 141, 3) := by decide +kernel
theorem dX11_giveClass_9 : decode cX11_giveClass 9 = .ok (.iconst 1, 1) := by decide +kernel
theorem dX11_giveClass_10 : decode cX11_giveClass 10 = .ok (.iload_n 2, 1) := by decide +kernel
theorem dX11_giveClass_11 : decode cX11_giveClass 11 = .ok (.ishl, 1) := by decide +kernel
theorem dX11_giveClass_12 : decode cX11_giveClass 12 = .ok (.ior, 1) := by decide +kernel
theorem dX11_giveClass_13 : decode cX11_giveClass 13 = .ok (.goto 13, 3) := by decide +kernel
theorem dX11_giveClass_16 : decode cX11_giveClass 16 = .ok (.aload_n 1, 1) := by decide +kernel
theorem dX11_giveClass_17 : decode cX11_giveClass 17 = .ok (.getfield 141, 3) := by decide +kernel
theorem dX11_giveClass_20 : decode cX11_giveClass 20 = .ok (.iconst 1, 1) := by decide +kernel
theorem dX11_giveClass_21 : decode cX11_giveClass 21 = .ok (.iload_n 2, 1) := by decide +kernel
theorem dX11_giveClass_22 : decode cX11_giveClass 22 = .ok (.ishl, 1) := by decide +kernel
theorem dX11_giveClass_23 : decode cX11_giveClass 23 = .ok (.iconst (-1), 1) := by decide +kernel
theorem dX11_giveClass_24 : decode cX11_giveClass 24 = .ok (.ixor, 1) := by decide +kernel
theorem dX11_giveClass_25 : decode cX11_giveClass 25 = .ok (.iand, 1) := by decide +kernel
theorem dX11_giveClass_26 : decode cX11_giveClass 26 = .ok (.putfield 141, 3) := by decide +kernel
theorem dX11_giveClass_29 : decode cX11_giveClass 29 = .ok (.aload_n 0, 1) := by decide +kernel
theorem dX11_giveClass_30 : decode cX11_giveClass 30 = .ok (.getfield 48, 3) := by decide +kernel
theorem dX11_giveClass_33 : decode cX11_giveClass 33 = .ok (.dup, 1) := by decide +kernel
theorem dX11_giveClass_34 : decode cX11_giveClass 34 = .ok (.getfield 154, 3) := by decide +kernel
theorem dX11_giveClass_37 : decode cX11_giveClass 37 = .ok (.iconst 1, 1) := by decide +kernel
theorem dX11_giveClass_38 : decode cX11_giveClass 38 = .ok (.iadd, 1) := by decide +kernel
theorem dX11_giveClass_39 : decode cX11_giveClass 39 = .ok (.putfield 154, 3) := by decide +kernel
theorem dX11_giveClass_42 : decode cX11_giveClass 42 = .ok (.aload_n 0, 1) := by decide +kernel
theorem dX11_giveClass_43 : decode cX11_giveClass 43 = .ok (.aload_n 1, 1) := by decide +kernel
theorem dX11_giveClass_44 : decode cX11_giveClass 44 = .ok (.iconst 1, 1) := by decide +kernel
theorem dX11_giveClass_45 : decode cX11_giveClass 45 = .ok (.iload_n 2, 1) := by decide +kernel
theorem dX11_giveClass_46 : decode cX11_giveClass 46 = .ok (.invokestatic 157, 3) := by decide +kernel
theorem dX11_giveClass_49 : decode cX11_giveClass 49 = .ok (.invokevirtual 163, 3) := by decide +kernel
theorem dX11_giveClass_52 : decode cX11_giveClass 52 = .ok (.return_, 1) := by decide +kernel
theorem dX11_suitsTest_0 : decode cX11_suitsTest 0 = .ok (.iload_n 0, 1) := by decide +kernel
theorem dX11_suitsTest_1 : decode cX11_suitsTest 1 = .ok (.tableswitch 140 0 9 #[55, 62, 69, 81, 104, 140, 140, 134, 140, 75], 55) := by decide +kernel
theorem dX11_suitsTest_56 : decode cX11_suitsTest 56 = .ok (.iload_n 1, 1) := by decide +kernel
theorem dX11_suitsTest_57 : decode cX11_suitsTest 57 = .ok (.bipush 8, 2) := by decide +kernel
theorem dX11_suitsTest_59 : decode cX11_suitsTest 59 = .ok (.invokestatic 61, 3) := by decide +kernel
theorem dX11_suitsTest_62 : decode cX11_suitsTest 62 = .ok (.ireturn, 1) := by decide +kernel
theorem dX11_suitsTest_63 : decode cX11_suitsTest 63 = .ok (.iload_n 1, 1) := by decide +kernel
theorem dX11_suitsTest_64 : decode cX11_suitsTest 64 = .ok (.bipush 8, 2) := by decide +kernel
theorem dX11_suitsTest_66 : decode cX11_suitsTest 66 = .ok (.invokestatic 61, 3) := by decide +kernel
theorem dX11_suitsTest_69 : decode cX11_suitsTest 69 = .ok (.ireturn, 1) := by decide +kernel
theorem dX11_suitsTest_70 : decode cX11_suitsTest 70 = .ok (.iload_n 1, 1) := by decide +kernel
theorem dX11_suitsTest_71 : decode cX11_suitsTest 71 = .ok (.iconst 4, 1) := by decide +kernel
theorem dX11_suitsTest_72 : decode cX11_suitsTest 72 = .ok (.invokestatic 61, 3) := by decide +kernel
theorem dX11_suitsTest_75 : decode cX11_suitsTest 75 = .ok (.ireturn, 1) := by decide +kernel
theorem dX11_suitsTest_76 : decode cX11_suitsTest 76 = .ok (.iload_n 1, 1) := by decide +kernel
theorem dX11_suitsTest_77 : decode cX11_suitsTest 77 = .ok (.iconst 4, 1) := by decide +kernel
theorem dX11_suitsTest_78 : decode cX11_suitsTest 78 = .ok (.invokestatic 61, 3) := by decide +kernel
theorem dX11_suitsTest_81 : decode cX11_suitsTest 81 = .ok (.ireturn, 1) := by decide +kernel
theorem dX11_suitsTest_82 : decode cX11_suitsTest 82 = .ok (.iload_n 1, 1) := by decide +kernel
theorem dX11_suitsTest_83 : decode cX11_suitsTest 83 = .ok (.iconst 2, 1) := by decide +kernel
theorem dX11_suitsTest_84 : decode cX11_suitsTest 84 = .ok (.invokestatic 61, 3) := by decide +kernel
theorem dX11_suitsTest_87 : decode cX11_suitsTest 87 = .ok (.ifCond .eq 16, 3) := by decide +kernel
theorem dX11_suitsTest_90 : decode cX11_suitsTest 90 = .ok (.iload_n 2, 1) := by decide +kernel
theorem dX11_suitsTest_91 : decode cX11_suitsTest 91 = .ok (.bipush 10, 2) := by decide +kernel
theorem dX11_suitsTest_93 : decode cX11_suitsTest 93 = .ok (.invokestatic 61, 3) := by decide +kernel
theorem dX11_suitsTest_96 : decode cX11_suitsTest 96 = .ok (.ifCond .eq 7, 3) := by decide +kernel
theorem dX11_suitsTest_99 : decode cX11_suitsTest 99 = .ok (.iconst 1, 1) := by decide +kernel
theorem dX11_suitsTest_100 : decode cX11_suitsTest 100 = .ok (.goto 4, 3) := by decide +kernel
theorem dX11_suitsTest_103 : decode cX11_suitsTest 103 = .ok (.iconst 0, 1) := by decide +kernel
theorem dX11_suitsTest_104 : decode cX11_suitsTest 104 = .ok (.ireturn, 1) := by decide +kernel
theorem dX11_suitsTest_105 : decode cX11_suitsTest 105 = .ok (.iload_n 1, 1) := by decide +kernel
theorem dX11_suitsTest_106 : decode cX11_suitsTest 106 = .ok (.bipush (-9), 2) := by decide +kernel
theorem dX11_suitsTest_108 : decode cX11_suitsTest 108 = .ok (.if_icmp .lt 25, 3) := by decide +kernel
theorem dX11_suitsTest_111 : decode cX11_suitsTest 111 = .ok (.iload_n 1, 1) := by decide +kernel
theorem dX11_suitsTest_112 : decode cX11_suitsTest 112 = .ok (.bipush 9, 2) := by decide +kernel
theorem dX11_suitsTest_114 : decode cX11_suitsTest 114 = .ok (.if_icmp .gt 19, 3) := by decide +kernel
theorem dX11_suitsTest_117 : decode cX11_suitsTest 117 = .ok (.iload_n 2, 1) := by decide +kernel
theorem dX11_suitsTest_118 : decode cX11_suitsTest 118 = .ok (.bipush (-9), 2) := by decide +kernel
theorem dX11_suitsTest_120 : decode cX11_suitsTest 120 = .ok (.if_icmp .lt 13, 3) := by decide +kernel
theorem dX11_suitsTest_123 : decode cX11_suitsTest 123 = .ok (.iload_n 2, 1) := by decide +kernel
theorem dX11_suitsTest_124 : decode cX11_suitsTest 124 = .ok (.bipush 9, 2) := by decide +kernel
theorem dX11_suitsTest_126 : decode cX11_suitsTest 126 = .ok (.if_icmp .gt 7, 3) := by decide +kernel
theorem dX11_suitsTest_129 : decode cX11_suitsTest 129 = .ok (.iconst 1, 1) := by decide +kernel
theorem dX11_suitsTest_130 : decode cX11_suitsTest 130 = .ok (.goto 4, 3) := by decide +kernel
theorem dX11_suitsTest_133 : decode cX11_suitsTest 133 = .ok (.iconst 0, 1) := by decide +kernel
theorem dX11_suitsTest_134 : decode cX11_suitsTest 134 = .ok (.ireturn, 1) := by decide +kernel
theorem dX11_suitsTest_135 : decode cX11_suitsTest 135 = .ok (.iload_n 1, 1) := by decide +kernel
theorem dX11_suitsTest_136 : decode cX11_suitsTest 136 = .ok (.iconst 4, 1) := by decide +kernel
theorem dX11_suitsTest_137 : decode cX11_suitsTest 137 = .ok (.invokestatic 61, 3) := by decide +kernel
theorem dX11_suitsTest_140 : decode cX11_suitsTest 140 = .ok (.ireturn, 1) := by decide +kernel
theorem dX11_suitsTest_141 : decode cX11_suitsTest 141 = .ok (.iload_n 0, 1) := by decide +kernel
theorem dX11_suitsTest_142 : decode cX11_suitsTest 142 = .ok (.iconst 5, 1) := by decide +kernel
theorem dX11_suitsTest_143 : decode cX11_suitsTest 143 = .ok (.if_icmp .eq 15, 3) := by decide +kernel
theorem dX11_suitsTest_146 : decode cX11_suitsTest 146 = .ok (.iload_n 0, 1) := by decide +kernel
theorem dX11_suitsTest_147 : decode cX11_suitsTest 147 = .ok (.bipush 6, 2) := by decide +kernel
theorem dX11_suitsTest_149 : decode cX11_suitsTest 149 = .ok (.if_icmp .eq 9, 3) := by decide +kernel
theorem dX11_suitsTest_152 : decode cX11_suitsTest 152 = .ok (.iload_n 0, 1) := by decide +kernel
theorem dX11_suitsTest_153 : decode cX11_suitsTest 153 = .ok (.bipush 8, 2) := by decide +kernel
theorem dX11_suitsTest_155 : decode cX11_suitsTest 155 = .ok (.if_icmp .ne 7, 3) := by decide +kernel
theorem dX11_suitsTest_158 : decode cX11_suitsTest 158 = .ok (.iconst 1, 1) := by decide +kernel
theorem dX11_suitsTest_159 : decode cX11_suitsTest 159 = .ok (.goto 4, 3) := by decide +kernel
theorem dX11_suitsTest_162 : decode cX11_suitsTest 162 = .ok (.iconst 0, 1) := by decide +kernel
theorem dX11_suitsTest_163 : decode cX11_suitsTest 163 = .ok (.ireturn, 1) := by decide +kernel
theorem dX11_isNumber_0 : decode cX11_isNumber 0 = .ok (.iload_n 0, 1) := by decide +kernel
theorem dX11_isNumber_1 : decode cX11_isNumber 1 = .ok (.sipush (-9999), 3) := by decide +kernel
theorem dX11_isNumber_4 : decode cX11_isNumber 4 = .ok (.if_icmp .lt 14, 3) := by decide +kernel
theorem dX11_isNumber_7 : decode cX11_isNumber 7 = .ok (.iload_n 0, 1) := by decide +kernel
theorem dX11_isNumber_8 : decode cX11_isNumber 8 = .ok (.sipush 9999, 3) := by decide +kernel
theorem dX11_isNumber_11 : decode cX11_isNumber 11 = .ok (.if_icmp .gt 7, 3) := by decide +kernel
theorem dX11_isNumber_14 : decode cX11_isNumber 14 = .ok (.iconst 1, 1) := by decide +kernel
theorem dX11_isNumber_15 : decode cX11_isNumber 15 = .ok (.goto 4, 3) := by decide +kernel
theorem dX11_isNumber_18 : decode cX11_isNumber 18 = .ok (.iconst 0, 1) := by decide +kernel
theorem dX11_isNumber_19 : decode cX11_isNumber 19 = .ok (.ireturn, 1) := by decide +kernel
theorem dX11_firstOf_0 : decode cX11_firstOf 0 = .ok (.iload_n 0, 1) := by decide +kernel
theorem dX11_firstOf_1 : decode cX11_firstOf 1 = .ok (.bipush 15, 2) := by decide +kernel
theorem dX11_firstOf_3 : decode cX11_firstOf 3 = .ok (.if_icmp .ne 7, 3) := by decide +kernel
theorem dX11_firstOf_6 : decode cX11_firstOf 6 = .ok (.iconst 3, 1) := by decide +kernel
theorem dX11_firstOf_7 : decode cX11_firstOf 7 = .ok (.goto 4, 3) := by decide +kernel
theorem dX11_firstOf_10 : decode cX11_firstOf 10 = .ok (.iload_n 0, 1) := by decide +kernel
theorem dX11_firstOf_11 : decode cX11_firstOf 11 = .ok (.ireturn, 1) := by decide +kernel
theorem dX11_lastOf_0 : decode cX11_lastOf 0 = .ok (.iload_n 0, 1) := by decide +kernel
theorem dX11_lastOf_1 : decode cX11_lastOf 1 = .ok (.bipush 15, 2) := by decide +kernel
theorem dX11_lastOf_3 : decode cX11_lastOf 3 = .ok (.if_icmp .ne 7, 3) := by decide +kernel
theorem dX11_lastOf_6 : decode cX11_lastOf 6 = .ok (.iconst 4, 1) := by decide +kernel
theorem dX11_lastOf_7 : decode cX11_lastOf 7 = .ok (.goto 4, 3) := by decide +kernel
theorem dX11_lastOf_10 : decode cX11_lastOf 10 = .ok (.iload_n 0, 1) := by decide +kernel
theorem dX11_lastOf_11 : decode cX11_lastOf 11 = .ok (.ireturn, 1) := by decide +kernel
theorem dX11_markDeclaration_0 : decode cX11_markDeclaration 0 = .ok (.iload_n 1, 1) := by decide +kernel
theorem dX11_markDeclaration_1 : decode cX11_markDeclaration 1 = .ok (.bipush 100, 2) := by decide +kernel
theorem dX11_markDeclaration_3 : decode cX11_markDeclaration 3 = .ok (.if_icmp .ge 10, 3) := by decide +kernel
theorem dX11_markDeclaration_6 : decode cX11_markDeclaration 6 = .ok (.aload_n 0, 1) := by decide +kernel
theorem dX11_markDeclaration_7 : decode cX11_markDeclaration 7 = .ok (.invokevirtual 93, 3) := by decide +kernel
theorem dX11_markDeclaration_10 : decode cX11_markDeclaration 10 = .ok (.goto 13, 3) := by decide +kernel
theorem dX11_markDeclaration_13 : decode cX11_markDeclaration 13 = .ok (.aload_n 0, 1) := by decide +kernel
theorem dX11_markDeclaration_14 : decode cX11_markDeclaration 14 = .ok (.iconst 1, 1) := by decide +kernel
theorem dX11_markDeclaration_15 : decode cX11_markDeclaration 15 = .ok (.iload_n 1, 1) := by decide +kernel
theorem dX11_markDeclaration_16 : decode cX11_markDeclaration 16 = .ok (.bipush 100, 2) := by decide +kernel
theorem dX11_markDeclaration_18 : decode cX11_markDeclaration 18 = .ok (.isub, 1) := by decide +kernel
theorem dX11_markDeclaration_19 : decode cX11_markDeclaration 19 = .ok (.ishl, 1) := by decide +kernel
theorem dX11_markDeclaration_20 : decode cX11_markDeclaration 20 = .ok (.invokevirtual 180, 3) := by decide +kernel
theorem dX11_markDeclaration_23 : decode cX11_markDeclaration 23 = .ok (.return_, 1) := by decide +kernel
theorem dX11_lacksValues_0 : decode cX11_lacksValues 0 = .ok (.aload_n 0, 1) := by decide +kernel
theorem dX11_lacksValues_1 : decode cX11_lacksValues 1 = .ok (.getfield 48, 3) := by decide +kernel
theorem dX11_lacksValues_4 : decode cX11_lacksValues 4 = .ok (.getfield 440, 3) := by decide +kernel
theorem dX11_lacksValues_7 : decode cX11_lacksValues 7 = .ok (.astore_n 1, 1) := by decide +kernel
theorem dX11_lacksValues_8 : decode cX11_lacksValues 8 = .ok (.aload_n 1, 1) := by decide +kernel
theorem dX11_lacksValues_9 : decode cX11_lacksValues 9 = .ok (.ifnull 23, 3) := by decide +kernel
theorem dX11_lacksValues_12 : decode cX11_lacksValues 12 = .ok (.aload_n 1, 1) := by decide +kernel
theorem dX11_lacksValues_13 : decode cX11_lacksValues 13 = .ok (.getfield 324, 3) := by decide +kernel
theorem dX11_lacksValues_16 : decode cX11_lacksValues 16 = .ok (.getfield 443, 3) := by decide +kernel
theorem dX11_lacksValues_19 : decode cX11_lacksValues 19 = .ok (.ifCond .ne 5, 3) := by decide +kernel
theorem dX11_lacksValues_22 : decode cX11_lacksValues 22 = .ok (.iconst 1, 1) := by decide +kernel
theorem dX11_lacksValues_23 : decode cX11_lacksValues 23 = .ok (.ireturn, 1) := by decide +kernel
theorem dX11_lacksValues_24 : decode cX11_lacksValues 24 = .ok (.aload_n 1, 1) := by decide +kernel
theorem dX11_lacksValues_25 : decode cX11_lacksValues 25 = .ok (.getfield 446, 3) := by decide +kernel
theorem dX11_lacksValues_28 : decode cX11_lacksValues 28 = .ok (.astore_n 1, 1) := by decide +kernel
theorem dX11_lacksValues_29 : decode cX11_lacksValues 29 = .ok (.goto (-21), 3) := by decide +kernel
theorem dX11_lacksValues_32 : decode cX11_lacksValues 32 = .ok (.iconst 0, 1) := by decide +kernel
theorem dX11_lacksValues_33 : decode cX11_lacksValues 33 = .ok (.ireturn, 1) := by decide +kernel
theorem dX11_styleOf_0 : decode cX11_styleOf 0 = .ok (.iload_n 2, 1) := by decide +kernel
theorem dX11_styleOf_1 : decode cX11_styleOf 1 = .ok (.ifCond .eq 27, 3) := by decide +kernel
theorem dX11_styleOf_4 : decode cX11_styleOf 4 = .ok (.aload_n 1, 1) := by decide +kernel
theorem dX11_styleOf_5 : decode cX11_styleOf 5 = .ok (.getfield 134, 3) := by decide +kernel
theorem dX11_styleOf_8 : decode cX11_styleOf 8 = .ok (.bipush 30, 2) := by decide +kernel
theorem dX11_styleOf_10 : decode cX11_styleOf 10 = .ok (.invokestatic 61, 3) := by decide +kernel
theorem dX11_styleOf_13 : decode cX11_styleOf 13 = .ok (.ifCond .eq 15, 3) := by decide +kernel
theorem dX11_styleOf_16 : decode cX11_styleOf 16 = .ok (.aload_n 0, 1) := by decide +kernel
theorem dX11_styleOf_17 : decode cX11_styleOf 17 = .ok (.getfield 23, 3) := by decide +kernel
theorem dX11_styleOf_20 : decode cX11_styleOf 20 = .ok (.aload_n 1, 1) := by decide +kernel
theorem dX11_styleOf_21 : decode cX11_styleOf 21 = .ok (.getfield 134, 3) := by decide +kernel
theorem dX11_styleOf_24 : decode cX11_styleOf 24 = .ok (.aaload, 1) := by decide +kernel
theorem dX11_styleOf_25 : decode cX11_styleOf 25 = .ok (.goto 7, 3) := by decide +kernel
theorem dX11_styleOf_28 : decode cX11_styleOf 28 = .ok (.aload_n 1, 1) := by decide +kernel
theorem dX11_styleOf_29 : decode cX11_styleOf 29 = .ok (.getfield 324, 3) := by decide +kernel
theorem dX11_styleOf_32 : decode cX11_styleOf 32 = .ok (.areturn, 1) := by decide +kernel
theorem dX11_holderOf_0 : decode cX11_holderOf 0 = .ok (.aload_n 1, 1) := by decide +kernel
theorem dX11_holderOf_1 : decode cX11_holderOf 1 = .ok (.getfield 184, 3) := by decide +kernel
theorem dX11_holderOf_4 : decode cX11_holderOf 4 = .ok (.astore_n 3, 1) := by decide +kernel
theorem dX11_holderOf_5 : decode cX11_holderOf 5 = .ok (.aload_n 3, 1) := by decide +kernel
theorem dX11_holderOf_6 : decode cX11_holderOf 6 = .ok (.ifnull 33, 3) := by decide +kernel
theorem dX11_holderOf_9 : decode cX11_holderOf 9 = .ok (.aload_n 0, 1) := by decide +kernel
theorem dX11_holderOf_10 : decode cX11_holderOf 10 = .ok (.aload_n 3, 1) := by decide +kernel
theorem dX11_holderOf_11 : decode cX11_holderOf 11 = .ok (.iload_n 2, 1) := by decide +kernel
theorem dX11_holderOf_12 : decode cX11_holderOf 12 = .ok (.invokevirtual 362, 3) := by decide +kernel
theorem dX11_holderOf_15 : decode cX11_holderOf 15 = .ok (.astore 4, 2) := by decide +kernel
theorem dX11_holderOf_17 : decode cX11_holderOf 17 = .ok (.aload 4, 2) := by decide +kernel
theorem dX11_holderOf_19 : decode cX11_holderOf 19 = .ok (.getfield 327, 3) := by decide +kernel
theorem dX11_holderOf_22 : decode cX11_holderOf 22 = .ok (.bipush 6, 2) := by decide +kernel
theorem dX11_holderOf_24 : decode cX11_holderOf 24 = .ok (.iaload, 1) := by decide +kernel
theorem dX11_holderOf_25 : decode cX11_holderOf 25 = .ok (.ifCond .le 6, 3) := by decide +kernel
theorem dX11_holderOf_28 : decode cX11_holderOf 28 = .ok (.aload 4, 2) := by decide +kernel
theorem dX11_holderOf_30 : decode cX11_holderOf 30 = .ok (.areturn, 1) := by decide +kernel
theorem dX11_holderOf_31 : decode cX11_holderOf 31 = .ok (.aload_n 3, 1) := by decide +kernel
theorem dX11_holderOf_32 : decode cX11_holderOf 32 = .ok (.getfield 184, 3) := by decide +kernel
theorem dX11_holderOf_35 : decode cX11_holderOf 35 = .ok (.astore_n 3, 1) := by decide +kernel
theorem dX11_holderOf_36 : decode cX11_holderOf 36 = .ok (.goto (-31), 3) := by decide +kernel
theorem dX11_holderOf_39 : decode cX11_holderOf 39 = .ok (.aconst_null, 1) := by decide +kernel
theorem dX11_holderOf_40 : decode cX11_holderOf 40 = .ok (.areturn, 1) := by decide +kernel
theorem dX11_findStyle_0 : decode cX11_findStyle 0 = .ok (.aload_n 0, 1) := by decide +kernel
theorem dX11_findStyle_1 : decode cX11_findStyle 1 = .ok (.aload_n 2, 1) := by decide +kernel
theorem dX11_findStyle_2 : decode cX11_findStyle 2 = .ok (.iload_n 3, 1) := by decide +kernel
theorem dX11_findStyle_3 : decode cX11_findStyle 3 = .ok (.invokevirtual 351, 3) := by decide +kernel
theorem dX11_findStyle_6 : decode cX11_findStyle 6 = .ok (.astore 4, 2) := by decide +kernel
theorem dX11_findStyle_8 : decode cX11_findStyle 8 = .ok (.aload_n 2, 1) := by decide +kernel
theorem dX11_findStyle_9 : decode cX11_findStyle 9 = .ok (.getfield 184, 3) := by decide +kernel
theorem dX11_findStyle_12 : decode cX11_findStyle 12 = .ok (.ifnonnull 7, 3) := by decide +kernel
theorem dX11_findStyle_15 : decode cX11_findStyle 15 = .ok (.aconst_null, 1) := by decide +kernel
theorem dX11_findStyle_16 : decode cX11_findStyle 16 = .ok (.goto 12, 3) := by decide +kernel
theorem dX11_findStyle_19 : decode cX11_findStyle 19 = .ok (.aload_n 0, 1) := by decide +kernel
theorem dX11_findStyle_20 : decode cX11_findStyle 20 = .ok (.aload_n 2, 1) := by decide +kernel
theorem dX11_findStyle_21 : decode cX11_findStyle 21 = .ok (.getfield 184, 3) := by decide +kernel
theorem dX11_findStyle_24 : decode cX11_findStyle 24 = .ok (.iload_n 3, 1) := by decide +kernel
theorem dX11_findStyle_25 : decode cX11_findStyle 25 = .ok (.invokevirtual 362, 3) := by decide +kernel
theorem dX11_findStyle_28 : decode cX11_findStyle 28 = .ok (.astore 5, 2) := by decide +kernel
theorem dX11_findStyle_30 : decode cX11_findStyle 30 = .ok (.aload_n 0, 1) := by decide +kernel
theorem dX11_findStyle_31 : decode cX11_findStyle 31 = .ok (.getfield 56, 3) := by decide +kernel
theorem dX11_findStyle_34 : decode cX11_findStyle 34 = .ok (.aload_n 2, 1) := by decide +kernel
theorem dX11_findStyle_35 : decode cX11_findStyle 35 = .ok (.aload 4, 2) := by decide +kernel
theorem dX11_findStyle_37 : decode cX11_findStyle 37 = .ok (.invokevirtual 497, 3) := by decide +kernel
theorem dX11_findStyle_40 : decode cX11_findStyle 40 = .ok (.aload_n 1, 1) := by decide +kernel
theorem dX11_findStyle_41 : decode cX11_findStyle 41 = .ok (.aload_n 0, 1) := by decide +kernel
theorem dX11_findStyle_42 : decode cX11_findStyle 42 = .ok (.getfield 56, 3) := by decide +kernel
theorem dX11_findStyle_45 : decode cX11_findStyle 45 = .ok (.getfield 501, 3) := by decide +kernel
theorem dX11_findStyle_48 : decode cX11_findStyle 48 = .ok (.aload 5, 2) := by decide +kernel
theorem dX11_findStyle_50 : decode cX11_findStyle 50 = .ok (.aload_n 0, 1) := by decide +kernel
theorem dX11_findStyle_51 : decode cX11_findStyle 51 = .ok (.aload_n 0, 1) := by decide +kernel
theorem dX11_findStyle_52 : decode cX11_findStyle 52 = .ok (.getfield 48, 3) := by decide +kernel
theorem dX11_findStyle_55 : decode cX11_findStyle 55 = .ok (.getfield 440, 3) := by decide +kernel
theorem dX11_findStyle_58 : decode cX11_findStyle 58 = .ok (.iload_n 3, 1) := by decide +kernel
theorem dX11_findStyle_59 : decode cX11_findStyle 59 = .ok (.invokevirtual 362, 3) := by decide +kernel
theorem dX11_findStyle_62 : decode cX11_findStyle 62 = .ok (.aload 4, 2) := by decide +kernel
theorem dX11_findStyle_64 : decode cX11_findStyle 64 = .ok (.aload_n 0, 1) := by decide +kernel
theorem dX11_findStyle_65 : decode cX11_findStyle 65 = .ok (.getfield 56, 3) := by decide +kernel
theorem dX11_findStyle_68 : decode cX11_findStyle 68 = .ok (.getfield 318, 3) := by decide +kernel
theorem dX11_findStyle_71 : decode cX11_findStyle 71 = .ok (.invokevirtual 505, 3) := by decide +kernel
theorem dX11_findStyle_74 : decode cX11_findStyle 74 = .ok (.return_, 1) := by decide +kernel
theorem dX11_animationAt_0 : decode cX11_animationAt 0 = .ok (.iload_n 1, 1) := by decide +kernel
theorem dX11_animationAt_1 : decode cX11_animationAt 1 = .ok (.iconst 4, 1) := by decide +kernel
theorem dX11_animationAt_2 : decode cX11_animationAt 2 = .ok (.invokestatic 61, 3) := by decide +kernel
theorem dX11_animationAt_5 : decode cX11_animationAt 5 = .ok (.ifCond .eq 12, 3) := by decide +kernel
theorem dX11_animationAt_8 : decode cX11_animationAt 8 = .ok (.aload_n 0, 1) := by decide +kernel
theorem dX11_animationAt_9 : decode cX11_animationAt 9 = .ok (.getfield 11, 3) := by decide +kernel
theorem dX11_animationAt_12 : decode cX11_animationAt 12 = .ok (.iload_n 1, 1) := by decide +kernel
theorem dX11_animationAt_13 : decode cX11_animationAt 13 = .ok (.aaload, 1) := by decide +kernel
theorem dX11_animationAt_14 : decode cX11_animationAt 14 = .ok (.goto 4, 3) := by decide +kernel
theorem dX11_animationAt_17 : decode cX11_animationAt 17 = .ok (.aconst_null, 1) := by decide +kernel
theorem dX11_animationAt_18 : decode cX11_animationAt 18 = .ok (.areturn, 1) := by decide +kernel
theorem dX11_playedFor_0 : decode cX11_playedFor 0 = .ok (.aload_n 0, 1) := by decide +kernel
theorem dX11_playedFor_1 : decode cX11_playedFor 1 = .ok (.aload_n 1, 1) := by decide +kernel
theorem dX11_playedFor_2 : decode cX11_playedFor 2 = .ok (.getfield 327, 3) := by decide +kernel
theorem dX11_playedFor_5 : decode cX11_playedFor 5 = .ok (.bipush 11, 2) := by decide +kernel
theorem dX11_playedFor_7 : decode cX11_playedFor 7 = .ok (.iaload, 1) := by decide +kernel
theorem dX11_playedFor_8 : decode cX11_playedFor 8 = .ok (.invokevirtual 380, 3) := by decide +kernel
theorem dX11_playedFor_11 : decode cX11_playedFor 11 = .ok (.areturn, 1) := by decide +kernel
theorem dX11_isLikePrevious_0 : decode cX11_isLikePrevious 0 = .ok (.aload_n 1, 1) := by decide +kernel
theorem dX11_isLikePrevious_1 : decode cX11_isLikePrevious 1 = .ok (.getfield 475, 3) := by decide +kernel
theorem dX11_isLikePrevious_4 : decode cX11_isLikePrevious 4 = .ok (.astore_n 2, 1) := by decide +kernel
theorem dX11_isLikePrevious_5 : decode cX11_isLikePrevious 5 = .ok (.aload_n 2, 1) := by decide +kernel
theorem dX11_isLikePrevious_6 : decode cX11_isLikePrevious 6 = .ok (.ifnull 49, 3) := by decide +kernel
theorem dX11_isLikePrevious_9 : decode cX11_isLikePrevious 9 = .ok (.aload_n 0, 1) := by decide +kernel
theorem dX11_isLikePrevious_10 : decode cX11_isLikePrevious 10 = .ok (.getfield 449, 3) := by decide +kernel
theorem dX11_isLikePrevious_13 : decode cX11_isLikePrevious 13 = .ok (.aload_n 2, 1) := by decide +kernel
theorem dX11_isLikePrevious_14 : decode cX11_isLikePrevious 14 = .ok (.getfield 134, 3) := by decide +kernel
theorem dX11_isLikePrevious_17 : decode cX11_isLikePrevious 17 = .ok (.invokestatic 144, 3) := by decide +kernel
theorem dX11_isLikePrevious_20 : decode cX11_isLikePrevious 20 = .ok (.ifCond .eq 35, 3) := by decide +kernel
theorem dX11_isLikePrevious_23 : decode cX11_isLikePrevious 23 = .ok (.aload_n 0, 1) := by decide +kernel
theorem dX11_isLikePrevious_24 : decode cX11_isLikePrevious 24 = .ok (.getfield 56, 3) := by decide +kernel
theorem dX11_isLikePrevious_27 : decode cX11_isLikePrevious 27 = .ok (.getfield 425, 3) := by decide +kernel
theorem dX11_isLikePrevious_30 : decode cX11_isLikePrevious 30 = .ok (.ifCond .ne 25, 3) := by decide +kernel
theorem dX11_isLikePrevious_33 : decode cX11_isLikePrevious 33 = .ok (.aload_n 0, 1) := by decide +kernel
theorem dX11_isLikePrevious_34 : decode cX11_isLikePrevious 34 = .ok (.getfield 56, 3) := by decide +kernel
theorem dX11_isLikePrevious_37 : decode cX11_isLikePrevious 37 = .ok (.getfield 428, 3) := by decide +kernel
theorem dX11_isLikePrevious_40 : decode cX11_isLikePrevious 40 = .ok (.ifCond .ne 15, 3) := by decide +kernel
theorem dX11_isLikePrevious_43 : decode cX11_isLikePrevious 43 = .ok (.aload_n 1, 1) := by decide +kernel
theorem dX11_isLikePrevious_44 : decode cX11_isLikePrevious 44 = .ok (.aload_n 2, 1) := by decide +kernel
theorem dX11_isLikePrevious_45 : decode cX11_isLikePrevious 45 = .ok (.invokevirtual 478, 3) := by decide +kernel
theorem dX11_isLikePrevious_48 : decode cX11_isLikePrevious 48 = .ok (.ifCond .eq 7, 3) := by decide +kernel
theorem dX11_isLikePrevious_51 : decode cX11_isLikePrevious 51 = .ok (.iconst 1, 1) := by decide +kernel
theorem dX11_isLikePrevious_52 : decode cX11_isLikePrevious 52 = .ok (.goto 4, 3) := by decide +kernel
theorem dX11_isLikePrevious_55 : decode cX11_isLikePrevious 55 = .ok (.iconst 0, 1) := by decide +kernel
theorem dX11_isLikePrevious_56 : decode cX11_isLikePrevious 56 = .ok (.ireturn, 1) := by decide +kernel
theorem dX11_restyle_0 : decode cX11_restyle 0 = .ok (.aload_n 1, 1) := by decide +kernel
theorem dX11_restyle_1 : decode cX11_restyle 1 = .ok (.getfield 324, 3) := by decide +kernel
theorem dX11_restyle_4 : decode cX11_restyle 4 = .ok (.getfield 443, 3) := by decide +kernel
theorem dX11_restyle_7 : decode cX11_restyle 7 = .ok (.ifCond .ne 7, 3) := by decide +kernel
theorem dX11_restyle_10 : decode cX11_restyle 10 = .ok (.iconst 1, 1) := by decide +kernel
theorem dX11_restyle_11 : decode cX11_restyle 11 = .ok (.goto 4, 3) := by decide +kernel
theorem dX11_restyle_14 : decode cX11_restyle 14 = .ok (.iconst 0, 1) := by decide +kernel
theorem dX11_restyle_15 : decode cX11_restyle 15 = .ok (.istore_n 2, 1) := by decide +kernel
theorem dX11_restyle_16 : decode cX11_restyle 16 = .ok (.aload_n 0, 1) := by decide +kernel
theorem dX11_restyle_17 : decode cX11_restyle 17 = .ok (.aload_n 0, 1) := by decide +kernel
theorem dX11_restyle_18 : decode cX11_restyle 18 = .ok (.getfield 28, 3) := by decide +kernel
theorem dX11_restyle_21 : decode cX11_restyle 21 = .ok (.aload_n 1, 1) := by decide +kernel
theorem dX11_restyle_22 : decode cX11_restyle 22 = .ok (.iconst 0, 1) := by decide +kernel
theorem dX11_restyle_23 : decode cX11_restyle 23 = .ok (.invokevirtual 464, 3) := by decide +kernel
theorem dX11_restyle_26 : decode cX11_restyle 26 = .ok (.aload_n 1, 1) := by decide +kernel
theorem dX11_restyle_27 : decode cX11_restyle 27 = .ok (.getfield 324, 3) := by decide +kernel
theorem dX11_restyle_30 : decode cX11_restyle 30 = .ok (.aload_n 0, 1) := by decide +kernel
theorem dX11_restyle_31 : decode cX11_restyle 31 = .ok (.getfield 28, 3) := by decide +kernel
theorem dX11_restyle_34 : decode cX11_restyle 34 = .ok (.aload_n 0, 1) := by decide +kernel
theorem dX11_restyle_35 : decode cX11_restyle 35 = .ok (.getfield 334, 3) := by decide +kernel
theorem dX11_restyle_38 : decode cX11_restyle 38 = .ok (.aload_n 0, 1) := by decide +kernel
theorem dX11_restyle_39 : decode cX11_restyle 39 = .ok (.aload_n 1, 1) := by decide +kernel
theorem dX11_restyle_40 : decode cX11_restyle 40 = .ok (.getfield 324, 3) := by decide +kernel
theorem dX11_restyle_43 : decode cX11_restyle 43 = .ok (.invokevirtual 337, 3) := by decide +kernel
theorem dX11_restyle_46 : decode cX11_restyle 46 = .ok (.invokevirtual 468, 3) := by decide +kernel
theorem dX11_restyle_49 : decode cX11_restyle 49 = .ok (.aload_n 0, 1) := by decide +kernel
theorem dX11_restyle_50 : decode cX11_restyle 50 = .ok (.dup, 1) := by decide +kernel
theorem dX11_restyle_51 : decode cX11_restyle 51 = .ok (.getfield 374, 3) := by decide +kernel
theorem dX11_restyle_54 : decode cX11_restyle 54 = .ok (.iconst 1, 1) := by decide +kernel
theorem dX11_restyle_55 : decode cX11_restyle 55 = .ok (.iadd, 1) := by decide +kernel
theorem dX11_restyle_56 : decode cX11_restyle 56 = .ok (.putfield 374, 3) := by decide +kernel
theorem dX11_restyle_59 : decode cX11_restyle 59 = .ok (.aload_n 0, 1) := by decide +kernel
theorem dX11_restyle_60 : decode cX11_restyle 60 = .ok (.aload_n 1, 1) := by decide +kernel
theorem dX11_restyle_61 : decode cX11_restyle 61 = .ok (.invokevirtual 472, 3) := by decide +kernel
theorem dX11_restyle_64 : decode cX11_restyle 64 = .ok (.ifCond .eq 13, 3) := by decide +kernel
theorem dX11_restyle_67 : decode cX11_restyle 67 = .ok (.aload_n 0, 1) := by decide +kernel
theorem dX11_restyle_68 : decode cX11_restyle 68 = .ok (.dup, 1) := by decide +kernel
theorem dX11_restyle_69 : decode cX11_restyle 69 = .ok (.getfield 377, 3) := by decide +kernel
theorem dX11_restyle_72 : decode cX11_restyle 72 = .ok (.iconst 1, 1) := by decide +kernel
theorem dX11_restyle_73 : decode cX11_restyle 73 = .ok (.iadd, 1) := by decide +kernel
theorem dX11_restyle_74 : decode cX11_restyle 74 = .ok (.putfield 377, 3) := by decide +kernel
theorem dX11_restyle_77 : decode cX11_restyle 77 = .ok (.aload_n 0, 1) := by decide +kernel
theorem dX11_restyle_78 : decode cX11_restyle 78 = .ok (.dup, 1) := by decide +kernel
theorem dX11_restyle_79 : decode cX11_restyle 79 = .ok (.getfield 449, 3) := by decide +kernel
theorem dX11_restyle_82 : decode cX11_restyle 82 = .ok (.iconst 1, 1) := by decide +kernel
theorem dX11_restyle_83 : decode cX11_restyle 83 = .ok (.aload_n 1, 1) := by decide +kernel
theorem dX11_restyle_84 : decode cX11_restyle 84 = .ok (.getfield 134, 3) := by decide +kernel
theorem dX11_restyle_87 : decode cX11_restyle 87 = .ok (.ishl, 1) := by decide +kernel
theorem dX11_restyle_88 : decode cX11_restyle 88 = .ok (.ior, 1) := by decide +kernel
theorem dX11_restyle_89 : decode cX11_restyle 89 = .ok (.putfield 449, 3) := by decide +kernel
theorem dX11_restyle_92 : decode cX11_restyle 92 = .ok (.iload_n 2, 1) := by decide +kernel
theorem dX11_restyle_93 : decode cX11_restyle 93 = .ok (.ifCond .ne 13, 3) := by decide +kernel
theorem dX11_restyle_96 : decode cX11_restyle 96 = .ok (.aload_n 1, 1) := by decide +kernel
theorem dX11_restyle_97 : decode cX11_restyle 97 = .ok (.getfield 324, 3) := by decide +kernel
theorem dX11_restyle_100 : decode cX11_restyle 100 = .ok (.getfield 455, 3) := by decide +kernel
theorem dX11_restyle_103 : decode cX11_restyle 103 = .ok (.ifCond .eq 7, 3) := by decide +kernel
theorem dX11_restyle_106 : decode cX11_restyle 106 = .ok (.iconst 1, 1) := by decide +kernel
theorem dX11_restyle_107 : decode cX11_restyle 107 = .ok (.goto 4, 3) := by decide +kernel
theorem dX11_restyle_110 : decode cX11_restyle 110 = .ok (.iconst 0, 1) := by decide +kernel
theorem dX11_restyle_111 : decode cX11_restyle 111 = .ok (.ireturn, 1) := by decide +kernel
theorem dX11_sizeFor_0 : decode cX11_sizeFor 0 = .ok (.aload_n 0, 1) := by decide +kernel
theorem dX11_sizeFor_1 : decode cX11_sizeFor 1 = .ok (.aload_n 1, 1) := by decide +kernel
theorem dX11_sizeFor_2 : decode cX11_sizeFor 2 = .ok (.iload_n 2, 1) := by decide +kernel
theorem dX11_sizeFor_3 : decode cX11_sizeFor 3 = .ok (.invokevirtual 362, 3) := by decide +kernel
theorem dX11_sizeFor_6 : decode cX11_sizeFor 6 = .ok (.astore_n 3, 1) := by decide +kernel
theorem dX11_sizeFor_7 : decode cX11_sizeFor 7 = .ok (.aload_n 3, 1) := by decide +kernel
theorem dX11_sizeFor_8 : decode cX11_sizeFor 8 = .ok (.getfield 327, 3) := by decide +kernel
theorem dX11_sizeFor_11 : decode cX11_sizeFor 11 = .ok (.iconst 2, 1) := by decide +kernel
theorem dX11_sizeFor_12 : decode cX11_sizeFor 12 = .ok (.iaload, 1) := by decide +kernel
theorem dX11_sizeFor_13 : decode cX11_sizeFor 13 = .ok (.ldc_w 509, 3) := by decide +kernel
theorem dX11_sizeFor_16 : decode cX11_sizeFor 16 = .ok (.if_icmp .eq 10, 3) := by decide +kernel
theorem dX11_sizeFor_19 : decode cX11_sizeFor 19 = .ok (.aload_n 3, 1) := by decide +kernel
theorem dX11_sizeFor_20 : decode cX11_sizeFor 20 = .ok (.getfield 327, 3) := by decide +kernel
theorem dX11_sizeFor_23 : decode cX11_sizeFor 23 = .ok (.iconst 2, 1) := by decide +kernel
theorem dX11_sizeFor_24 : decode cX11_sizeFor 24 = .ok (.iaload, 1) := by decide +kernel
theorem dX11_sizeFor_25 : decode cX11_sizeFor 25 = .ok (.ireturn, 1) := by decide +kernel
theorem dX11_sizeFor_26 : decode cX11_sizeFor 26 = .ok (.iconst 0, 1) := by decide +kernel
theorem dX11_sizeFor_27 : decode cX11_sizeFor 27 = .ok (.istore 4, 2) := by decide +kernel
theorem dX11_sizeFor_29 : decode cX11_sizeFor 29 = .ok (.aload_n 1, 1) := by decide +kernel
theorem dX11_sizeFor_30 : decode cX11_sizeFor 30 = .ok (.getfield 446, 3) := by decide +kernel
theorem dX11_sizeFor_33 : decode cX11_sizeFor 33 = .ok (.astore 5, 2) := by decide +kernel
theorem dX11_sizeFor_35 : decode cX11_sizeFor 35 = .ok (.aload 5, 2) := by decide +kernel
theorem dX11_sizeFor_37 : decode cX11_sizeFor 37 = .ok (.ifnull 109, 3) := by decide +kernel
theorem dX11_sizeFor_40 : decode cX11_sizeFor 40 = .ok (.aload 5, 2) := by decide +kernel
theorem dX11_sizeFor_42 : decode cX11_sizeFor 42 = .ok (.getfield 184, 3) := by decide +kernel
theorem dX11_sizeFor_45 : decode cX11_sizeFor 45 = .ok (.aload_n 1, 1) := by decide +kernel
theorem dX11_sizeFor_46 : decode cX11_sizeFor 46 = .ok (.if_acmp .ne 90, 3) := by decide +kernel
theorem dX11_sizeFor_49 : decode cX11_sizeFor 49 = .ok (.aload_n 0, 1) := by decide +kernel
theorem dX11_sizeFor_50 : decode cX11_sizeFor 50 = .ok (.getfield 56, 3) := by decide +kernel
theorem dX11_sizeFor_53 : decode cX11_sizeFor 53 = .ok (.aload 5, 2) := by decide +kernel
theorem dX11_sizeFor_55 : decode cX11_sizeFor 55 = .ok (.aconst_null, 1) := by decide +kernel
theorem dX11_sizeFor_56 : decode cX11_sizeFor 56 = .ok (.invokevirtual 497, 3) := by decide +kernel
theorem dX11_sizeFor_59 : decode cX11_sizeFor 59 = .ok (.aload_n 0, 1) := by decide +kernel
theorem dX11_sizeFor_60 : decode cX11_sizeFor 60 = .ok (.getfield 32, 3) := by decide +kernel
theorem dX11_sizeFor_63 : decode cX11_sizeFor 63 = .ok (.aload_n 0, 1) := by decide +kernel
theorem dX11_sizeFor_64 : decode cX11_sizeFor 64 = .ok (.getfield 56, 3) := by decide +kernel
theorem dX11_sizeFor_67 : decode cX11_sizeFor 67 = .ok (.getfield 501, 3) := by decide +kernel
theorem dX11_sizeFor_70 : decode cX11_sizeFor 70 = .ok (.aload_n 3, 1) := by decide +kernel
theorem dX11_sizeFor_71 : decode cX11_sizeFor 71 = .ok (.aload_n 0, 1) := by decide +kernel
theorem dX11_sizeFor_72 : decode cX11_sizeFor 72 = .ok (.aload_n 0, 1) := by decide +kernel
theorem dX11_sizeFor_73 : decode cX11_sizeFor 73 = .ok (.getfield 48, 3) := by decide +kernel
theorem dX11_sizeFor_76 : decode cX11_sizeFor 76 = .ok (.getfield 440, 3) := by decide +kernel
theorem dX11_sizeFor_79 : decode cX11_sizeFor 79 = .ok (.iload_n 2, 1) := by decide +kernel
theorem dX11_sizeFor_80 : decode cX11_sizeFor 80 = .ok (.invokevirtual 362, 3) := by decide +kernel
theorem dX11_sizeFor_83 : decode cX11_sizeFor 83 = .ok (.aconst_null, 1) := by decide +kernel
theorem dX11_sizeFor_84 : decode cX11_sizeFor 84 = .ok (.aload_n 0, 1) := by decide +kernel
theorem dX11_sizeFor_85 : decode cX11_sizeFor 85 = .ok (.getfield 56, 3) := by decide +kernel
theorem dX11_sizeFor_88 : decode cX11_sizeFor 88 = .ok (.getfield 318, 3) := by decide +kernel
theorem dX11_sizeFor_91 : decode cX11_sizeFor 91 = .ok (.invokevirtual 505, 3) := by decide +kernel
theorem dX11_sizeFor_94 : decode cX11_sizeFor 94 = .ok (.aload_n 0, 1) := by decide +kernel
theorem dX11_sizeFor_95 : decode cX11_sizeFor 95 = .ok (.getfield 32, 3) := by decide +kernel
theorem dX11_sizeFor_98 : decode cX11_sizeFor 98 = .ok (.getfield 327, 3) := by decide +kernel
theorem dX11_sizeFor_101 : decode cX11_sizeFor 101 = .ok (.iconst 2, 1) := by decide +kernel
theorem dX11_sizeFor_102 : decode cX11_sizeFor 102 = .ok (.iaload, 1) := by decide +kernel
theorem dX11_sizeFor_103 : decode cX11_sizeFor 103 = .ok (.istore 6, 2) := by decide +kernel
theorem dX11_sizeFor_105 : decode cX11_sizeFor 105 = .ok (.iload 4, 2) := by decide +kernel
theorem dX11_sizeFor_107 : decode cX11_sizeFor 107 = .ok (.iload 6, 2) := by decide +kernel
theorem dX11_sizeFor_109 : decode cX11_sizeFor 109 = .ok (.ldc_w 509, 3) := by decide +kernel
theorem dX11_sizeFor_112 : decode cX11_sizeFor 112 = .ok (.if_icmp .ne 7, 3) := by decide +kernel
theorem dX11_sizeFor_115 : decode cX11_sizeFor 115 = .ok (.iconst 0, 1) := by decide +kernel
theorem dX11_sizeFor_116 : decode cX11_sizeFor 116 = .ok (.goto 5, 3) := by decide +kernel
theorem dX11_sizeFor_119 : decode cX11_sizeFor 119 = .ok (.iload 6, 2) := by decide +kernel
theorem dX11_sizeFor_121 : decode cX11_sizeFor 121 = .ok (.iconst 2, 1) := by decide +kernel
theorem dX11_sizeFor_122 : decode cX11_sizeFor 122 = .ok (.aload_n 0, 1) := by decide +kernel
theorem dX11_sizeFor_123 : decode cX11_sizeFor 123 = .ok (.getfield 32, 3) := by decide +kernel
theorem dX11_sizeFor_126 : decode cX11_sizeFor 126 = .ok (.getfield 327, 3) := by decide +kernel
theorem dX11_sizeFor_129 : decode cX11_sizeFor 129 = .ok (.iconst 3, 1) := by decide +kernel
theorem dX11_sizeFor_130 : decode cX11_sizeFor 130 = .ok (.iaload, 1) := by decide +kernel
theorem dX11_sizeFor_131 : decode cX11_sizeFor 131 = .ok (.imul, 1) := by decide +kernel
theorem dX11_sizeFor_132 : decode cX11_sizeFor 132 = .ok (.iadd, 1) := by decide +kernel
theorem dX11_sizeFor_133 : decode cX11_sizeFor 133 = .ok (.iadd, 1) := by decide +kernel
theorem dX11_sizeFor_134 : decode cX11_sizeFor 134 = .ok (.istore 4, 2) := by decide +kernel
theorem dX11_sizeFor_136 : decode cX11_sizeFor 136 = .ok (.aload 5, 2) := by decide +kernel
theorem dX11_sizeFor_138 : decode cX11_sizeFor 138 = .ok (.getfield 446, 3) := by decide +kernel
theorem dX11_sizeFor_141 : decode cX11_sizeFor 141 = .ok (.astore 5, 2) := by decide +kernel
theorem dX11_sizeFor_143 : decode cX11_sizeFor 143 = .ok (.goto (-108), 3) := by decide +kernel
theorem dX11_sizeFor_146 : decode cX11_sizeFor 146 = .ok (.iload 4, 2) := by decide +kernel
theorem dX11_sizeFor_148 : decode cX11_sizeFor 148 = .ok (.ireturn, 1) := by decide +kernel
theorem dX11_renewSize_0 : decode cX11_renewSize 0 = .ok (.aload_n 1, 1) := by decide +kernel
theorem dX11_renewSize_1 : decode cX11_renewSize 1 = .ok (.getfield 324, 3) := by decide +kernel
theorem dX11_renewSize_4 : decode cX11_renewSize 4 = .ok (.getfield 331, 3) := by decide +kernel
theorem dX11_renewSize_7 : decode cX11_renewSize 7 = .ok (.istore_n 2, 1) := by decide +kernel
theorem dX11_renewSize_8 : decode cX11_renewSize 8 = .ok (.aload_n 1, 1) := by decide +kernel
theorem dX11_renewSize_9 : decode cX11_renewSize 9 = .ok (.getfield 324, 3) := by decide +kernel
theorem dX11_renewSize_12 : decode cX11_renewSize 12 = .ok (.aload_n 0, 1) := by decide +kernel
theorem dX11_renewSize_13 : decode cX11_renewSize 13 = .ok (.aload_n 1, 1) := by decide +kernel
theorem dX11_renewSize_14 : decode cX11_renewSize 14 = .ok (.iconst 0, 1) := by decide +kernel
theorem dX11_renewSize_15 : decode cX11_renewSize 15 = .ok (.invokevirtual 481, 3) := by decide +kernel
theorem dX11_renewSize_18 : decode cX11_renewSize 18 = .ok (.putfield 331, 3) := by decide +kernel
theorem dX11_renewSize_21 : decode cX11_renewSize 21 = .ok (.aload_n 1, 1) := by decide +kernel
theorem dX11_renewSize_22 : decode cX11_renewSize 22 = .ok (.getfield 324, 3) := by decide +kernel
theorem dX11_renewSize_25 : decode cX11_renewSize 25 = .ok (.getfield 331, 3) := by decide +kernel
theorem dX11_renewSize_28 : decode cX11_renewSize 28 = .ok (.iload_n 2, 1) := by decide +kernel
theorem dX11_renewSize_29 : decode cX11_renewSize 29 = .ok (.if_icmp .eq 7, 3) := by decide +kernel
theorem dX11_renewSize_32 : decode cX11_renewSize 32 = .ok (.iconst 1, 1) := by decide +kernel
theorem dX11_renewSize_33 : decode cX11_renewSize 33 = .ok (.goto 4, 3) := by decide +kernel
theorem dX11_renewSize_36 : decode cX11_renewSize 36 = .ok (.iconst 0, 1) := by decide +kernel
theorem dX11_renewSize_37 : decode cX11_renewSize 37 = .ok (.ireturn, 1) := by decide +kernel
theorem dX11_flush_0 : decode cX11_flush 0 = .ok (.aload_n 0, 1) := by decide +kernel
theorem dX11_flush_1 : decode cX11_flush 1 = .ok (.dup, 1) := by decide +kernel
theorem dX11_flush_2 : decode cX11_flush 2 = .ok (.getfield 371, 3) := by decide +kernel
theorem dX11_flush_5 : decode cX11_flush 5 = .ok (.iconst 1, 1) := by decide +kernel
theorem dX11_flush_6 : decode cX11_flush 6 = .ok (.iadd, 1) := by decide +kernel
theorem dX11_flush_7 : decode cX11_flush 7 = .ok (.putfield 371, 3) := by decide +kernel
theorem dX11_flush_10 : decode cX11_flush 10 = .ok (.aload_n 0, 1) := by decide +kernel
theorem dX11_flush_11 : decode cX11_flush 11 = .ok (.iconst 0, 1) := by decide +kernel
theorem dX11_flush_12 : decode cX11_flush 12 = .ok (.putfield 449, 3) := by decide +kernel
theorem dX11_flush_15 : decode cX11_flush 15 = .ok (.aload_n 0, 1) := by decide +kernel
theorem dX11_flush_16 : decode cX11_flush 16 = .ok (.iconst 0, 1) := by decide +kernel
theorem dX11_flush_17 : decode cX11_flush 17 = .ok (.putfield 452, 3) := by decide +kernel
theorem dX11_flush_20 : decode cX11_flush 20 = .ok (.aload_n 0, 1) := by decide +kernel
theorem dX11_flush_21 : decode cX11_flush 21 = .ok (.getfield 48, 3) := by decide +kernel
theorem dX11_flush_24 : decode cX11_flush 24 = .ok (.getfield 440, 3) := by decide +kernel
theorem dX11_flush_27 : decode cX11_flush 27 = .ok (.astore_n 1, 1) := by decide +kernel
theorem dX11_flush_28 : decode cX11_flush 28 = .ok (.aload_n 1, 1) := by decide +kernel
theorem dX11_flush_29 : decode cX11_flush 29 = .ok (.ifnull 125, 3) := by decide +kernel
theorem dX11_flush_32 : decode cX11_flush 32 = .ok (.aload_n 1, 1) := by decide +kernel
theorem dX11_flush_33 : decode cX11_flush 33 = .ok (.getfield 184, 3) := by decide +kernel
theorem dX11_flush_36 : decode cX11_flush 36 = .ok (.ifnull 24, 3) := by decide +kernel
theorem dX11_flush_39 : decode cX11_flush 39 = .ok (.aload_n 0, 1) := by decide +kernel
theorem dX11_flush_40 : decode cX11_flush 40 = .ok (.getfield 452, 3) := by decide +kernel
theorem dX11_flush_43 : decode cX11_flush 43 = .ok (.aload_n 1, 1) := by decide +kernel
theorem dX11_flush_44 : decode cX11_flush 44 = .ok (.getfield 184, 3) := by decide +kernel
theorem dX11_flush_47 : decode cX11_flush 47 = .ok (.getfield 134, 3) := by decide +kernel
theorem dX11_flush_50 : decode cX11_flush 50 = .ok (.invokestatic 144, 3) := by decide +kernel
theorem dX11_flush_53 : decode cX11_flush 53 = .ok (.ifCond .eq 7, 3) := by decide +kernel
theorem dX11_flush_56 : decode cX11_flush 56 = .ok (.iconst 1, 1) := by decide +kernel
theorem dX11_flush_57 : decode cX11_flush 57 = .ok (.goto 4, 3) := by decide +kernel
theorem dX11_flush_60 : decode cX11_flush 60 = .ok (.iconst 0, 1) := by decide +kernel
theorem dX11_flush_61 : decode cX11_flush 61 = .ok (.istore_n 2, 1) := by decide +kernel
theorem dX11_flush_62 : decode cX11_flush 62 = .ok (.aload_n 1, 1) := by decide +kernel
theorem dX11_flush_63 : decode cX11_flush 63 = .ok (.getfield 324, 3) := by decide +kernel
theorem dX11_flush_66 : decode cX11_flush 66 = .ok (.iconst 0, 1) := by decide +kernel
theorem dX11_flush_67 : decode cX11_flush 67 = .ok (.putfield 455, 3) := by decide +kernel
theorem dX11_flush_70 : decode cX11_flush 70 = .ok (.iload_n 2, 1) := by decide +kernel
theorem dX11_flush_71 : decode cX11_flush 71 = .ok (.ifCond .ne 27, 3) := by decide +kernel
theorem dX11_flush_74 : decode cX11_flush 74 = .ok (.aload_n 0, 1) := by decide +kernel
theorem dX11_flush_75 : decode cX11_flush 75 = .ok (.getfield 365, 3) := by decide +kernel
theorem dX11_flush_78 : decode cX11_flush 78 = .ok (.aload_n 1, 1) := by decide +kernel
theorem dX11_flush_79 : decode cX11_flush 79 = .ok (.getfield 134, 3) := by decide +kernel
theorem dX11_flush_82 : decode cX11_flush 82 = .ok (.invokestatic 144, 3) := by decide +kernel
theorem dX11_flush_85 : decode cX11_flush 85 = .ok (.ifCond .ne 13, 3) := by decide +kernel
theorem dX11_flush_88 : decode cX11_flush 88 = .ok (.aload_n 1, 1) := by decide +kernel
theorem dX11_flush_89 : decode cX11_flush 89 = .ok (.getfield 324, 3) := by decide +kernel
theorem dX11_flush_92 : decode cX11_flush 92 = .ok (.getfield 443, 3) := by decide +kernel
theorem dX11_flush_95 : decode cX11_flush 95 = .ok (.ifCond .ne 11, 3) := by decide +kernel
theorem dX11_flush_98 : decode cX11_flush 98 = .ok (.iload_n 2, 1) := by decide +kernel
theorem dX11_flush_99 : decode cX11_flush 99 = .ok (.aload_n 0, 1) := by decide +kernel
theorem dX11_flush_100 : decode cX11_flush 100 = .ok (.aload_n 1, 1) := by decide +kernel
theorem dX11_flush_101 : decode cX11_flush 101 = .ok (.invokevirtual 458, 3) := by decide +kernel
theorem dX11_flush_104 : decode cX11_flush 104 = .ok (.ior, 1) := by decide +kernel
theorem dX11_flush_105 : decode cX11_flush 105 = .ok (.istore_n 2, 1) := by decide +kernel
theorem dX11_flush_106 : decode cX11_flush 106 = .ok (.aload_n 1, 1) := by decide +kernel
theorem dX11_flush_107 : decode cX11_flush 107 = .ok (.getfield 324, 3) := by decide +kernel
theorem dX11_flush_110 : decode cX11_flush 110 = .ok (.getfield 327, 3) := by decide +kernel
theorem dX11_flush_113 : decode cX11_flush 113 = .ok (.bipush 6, 2) := by decide +kernel
theorem dX11_flush_115 : decode cX11_flush 115 = .ok (.iaload, 1) := by decide +kernel
theorem dX11_flush_116 : decode cX11_flush 116 = .ok (.ifCond .le 11, 3) := by decide +kernel
theorem dX11_flush_119 : decode cX11_flush 119 = .ok (.iload_n 2, 1) := by decide +kernel
theorem dX11_flush_120 : decode cX11_flush 120 = .ok (.aload_n 0, 1) := by decide +kernel
theorem dX11_flush_121 : decode cX11_flush 121 = .ok (.aload_n 1, 1) := by decide +kernel
theorem dX11_flush_122 : decode cX11_flush 122 = .ok (.invokevirtual 461, 3) := by decide +kernel
theorem dX11_flush_125 : decode cX11_flush 125 = .ok (.ior, 1) := by decide +kernel
theorem dX11_flush_126 : decode cX11_flush 126 = .ok (.istore_n 2, 1) := by decide +kernel
theorem dX11_flush_127 : decode cX11_flush 127 = .ok (.iload_n 2, 1) := by decide +kernel
theorem dX11_flush_128 : decode cX11_flush 128 = .ok (.ifCond .eq 18, 3) := by decide +kernel
theorem dX11_flush_131 : decode cX11_flush 131 = .ok (.aload_n 0, 1) := by decide +kernel
theorem dX11_flush_132 : decode cX11_flush 132 = .ok (.dup, 1) := by decide +kernel
theorem dX11_flush_133 : decode cX11_flush 133 = .ok (.getfield 452, 3) := by decide +kernel
theorem dX11_flush_136 : decode cX11_flush 136 = .ok (.iconst 1, 1) := by decide +kernel
theorem dX11_flush_137 : decode cX11_flush 137 = .ok (.aload_n 1, 1) := by decide +kernel
theorem dX11_flush_138 : decode cX11_flush 138 = .ok (.getfield 134, 3) := by decide +kernel
theorem dX11_flush_141 : decode cX11_flush 141 = .ok (.ishl, 1) := by decide +kernel
theorem dX11_flush_142 : decode cX11_flush 142 = .ok (.ior, 1) := by decide +kernel
theorem dX11_flush_143 : decode cX11_flush 143 = .ok (.putfield 452, 3) := by decide +kernel
theorem dX11_flush_146 : decode cX11_flush 146 = .ok (.aload_n 1, 1) := by decide +kernel
theorem dX11_flush_147 : decode cX11_flush 147 = .ok (.getfield 446, 3) := by decide +kernel
theorem dX11_flush_150 : decode cX11_flush 150 = .ok (.astore_n 1, 1) := by decide +kernel
theorem dX11_flush_151 : decode cX11_flush 151 = .ok (.goto (-123), 3) := by decide +kernel
theorem dX11_flush_154 : decode cX11_flush 154 = .ok (.aload_n 0, 1) := by decide +kernel
theorem dX11_flush_155 : decode cX11_flush 155 = .ok (.iconst 0, 1) := by decide +kernel
theorem dX11_flush_156 : decode cX11_flush 156 = .ok (.putfield 365, 3) := by decide +kernel
theorem dX11_flush_159 : decode cX11_flush 159 = .ok (.return_, 1) := by decide +kernel
theorem dX11_tellListeners_0 : decode cX11_tellListeners 0 = .ok (.iconst 0, 1) := by decide +kernel
theorem dX11_tellListeners_1 : decode cX11_tellListeners 1 = .ok (.istore_n 1, 1) := by decide +kernel
theorem dX11_tellListeners_2 : decode cX11_tellListeners 2 = .ok (.iload_n 1, 1) := by decide +kernel
theorem dX11_tellListeners_3 : decode cX11_tellListeners 3 = .ok (.aload_n 0, 1) := by decide +kernel
theorem dX11_tellListeners_4 : decode cX11_tellListeners 4 = .ok (.getfield 398, 3) := by decide +kernel
theorem dX11_tellListeners_7 : decode cX11_tellListeners 7 = .ok (.if_icmp .ge 80, 3) := by decide +kernel
theorem dX11_tellListeners_10 : decode cX11_tellListeners 10 = .ok (.iload_n 1, 1) := by decide +kernel
theorem dX11_tellListeners_11 : decode cX11_tellListeners 11 = .ok (.bipush 6, 2) := by decide +kernel
theorem dX11_tellListeners_13 : decode cX11_tellListeners 13 = .ok (.if_icmp .ge 74, 3) := by decide +kernel
theorem dX11_tellListeners_16 : decode cX11_tellListeners 16 = .ok (.aload_n 0, 1) := by decide +kernel
theorem dX11_tellListeners_17 : decode cX11_tellListeners 17 = .ok (.getfield 17, 3) := by decide +kernel
theorem dX11_tellListeners_20 : decode cX11_tellListeners 20 = .ok (.iload_n 1, 1) := by decide +kernel
theorem dX11_tellListeners_21 : decode cX11_tellListeners 21 = .ok (.aaload, 1) := by decide +kernel
theorem dX11_tellListeners_22 : decode cX11_tellListeners 22 = .ok (.astore_n 2, 1) := by decide +kernel
theorem dX11_tellListeners_23 : decode cX11_tellListeners 23 = .ok (.aload_n 2, 1) := by decide +kernel
theorem dX11_tellListeners_24 : decode cX11_tellListeners 24 = .ok (.ifnull 57, 3) := by decide +kernel
theorem dX11_tellListeners_27 : decode cX11_tellListeners 27 = .ok (.aload_n 2, 1) := by decide +kernel
theorem dX11_tellListeners_28 : decode cX11_tellListeners 28 = .ok (.getfield 485, 3) := by decide +kernel
theorem dX11_tellListeners_31 : decode cX11_tellListeners 31 = .ok (.getfield 324, 3) := by decide +kernel
theorem dX11_tellListeners_34 : decode cX11_tellListeners 34 = .ok (.getfield 455, 3) := by decide +kernel
theorem dX11_tellListeners_37 : decode cX11_tellListeners 37 = .ok (.aload_n 2, 1) := by decide +kernel
theorem dX11_tellListeners_38 : decode cX11_tellListeners 38 = .ok (.getfield 488, 3) := by decide +kernel
theorem dX11_tellListeners_41 : decode cX11_tellListeners 41 = .ok (.invokestatic 144, 3) := by decide +kernel
theorem dX11_tellListeners_44 : decode cX11_tellListeners 44 = .ok (.ifCond .eq 37, 3) := by decide +kernel
theorem dX11_tellListeners_47 : decode cX11_tellListeners 47 = .ok (.aload_n 0, 1) := by decide +kernel
theorem dX11_tellListeners_48 : decode cX11_tellListeners 48 = .ok (.aload_n 2, 1) := by decide +kernel
theorem dX11_tellListeners_49 : decode cX11_tellListeners 49 = .ok (.getfield 491, 3) := by decide +kernel
theorem dX11_tellListeners_52 : decode cX11_tellListeners 52 = .ok (.aload_n 2, 1) := by decide +kernel
theorem dX11_tellListeners_53 : decode cX11_tellListeners 53 = .ok (.getfield 494, 3) := by decide +kernel
theorem dX11_tellListeners_56 : decode cX11_tellListeners 56 = .ok (.aload_n 2, 1) := by decide +kernel
theorem dX11_tellListeners_57 : decode cX11_tellListeners 57 = .ok (.getfield 491, 3) := by decide +kernel
theorem dX11_tellListeners_60 : decode cX11_tellListeners 60 = .ok (.getfield 141, 3) := by decide +kernel
theorem dX11_tellListeners_63 : decode cX11_tellListeners 63 = .ok (.aload_n 2, 1) := by decide +kernel
theorem dX11_tellListeners_64 : decode cX11_tellListeners 64 = .ok (.getfield 494, 3) := by decide +kernel
theorem dX11_tellListeners_67 : decode cX11_tellListeners 67 = .ok (.invokestatic 144, 3) := by decide +kernel
theorem dX11_tellListeners_70 : decode cX11_tellListeners 70 = .ok (.ifCond .ne 7, 3) := by decide +kernel
theorem dX11_tellListeners_73 : decode cX11_tellListeners 73 = .ok (.iconst 1, 1) := by decide +kernel
theorem dX11_tellListeners_74 : decode cX11_tellListeners 74 = .ok (.goto 4, 3) := by decide +kernel
theorem dX11_tellListeners_77 : decode cX11_tellListeners 77 = .ok (.iconst 0, 1) := by decide +kernel
theorem dX11_tellListeners_78 : decode cX11_tellListeners 78 = .ok (.invokevirtual 147, 3) := by decide +kernel
theorem dX11_tellListeners_81 : decode cX11_tellListeners 81 = .ok (.iinc 1 1, 3) := by decide +kernel
theorem dX11_tellListeners_84 : decode cX11_tellListeners 84 = .ok (.goto (-82), 3) := by decide +kernel
theorem dX11_tellListeners_87 : decode cX11_tellListeners 87 = .ok (.return_, 1) := by decide +kernel
theorem dX11_read_0 : decode cX11_read 0 = .ok (.aload_n 0, 1) := by decide +kernel
theorem dX11_read_1 : decode cX11_read 1 = .ok (.getfield 365, 3) := by decide +kernel
theorem dX11_read_4 : decode cX11_read 4 = .ok (.aload_n 0, 1) := by decide +kernel
theorem dX11_read_5 : decode cX11_read 5 = .ok (.getfield 48, 3) := by decide +kernel
theorem dX11_read_8 : decode cX11_read 8 = .ok (.getfield 368, 3) := by decide +kernel
theorem dX11_read_11 : decode cX11_read 11 = .ok (.iand, 1) := by decide +kernel
theorem dX11_read_12 : decode cX11_read 12 = .ok (.ifCond .ne 10, 3) := by decide +kernel
theorem dX11_read_15 : decode cX11_read 15 = .ok (.aload_n 0, 1) := by decide +kernel
theorem dX11_read_16 : decode cX11_read 16 = .ok (.invokevirtual 431, 3) := by decide +kernel
theorem dX11_read_19 : decode cX11_read 19 = .ok (.ifCond .eq 7, 3) := by decide +kernel
theorem dX11_read_22 : decode cX11_read 22 = .ok (.iconst 1, 1) := by decide +kernel
theorem dX11_read_23 : decode cX11_read 23 = .ok (.goto 4, 3) := by decide +kernel
theorem dX11_read_26 : decode cX11_read 26 = .ok (.iconst 0, 1) := by decide +kernel
theorem dX11_read_27 : decode cX11_read 27 = .ok (.istore_n 1, 1) := by decide +kernel
theorem dX11_read_28 : decode cX11_read 28 = .ok (.iconst 0, 1) := by decide +kernel
theorem dX11_read_29 : decode cX11_read 29 = .ok (.istore_n 2, 1) := by decide +kernel
theorem dX11_read_30 : decode cX11_read 30 = .ok (.iload_n 2, 1) := by decide +kernel
theorem dX11_read_31 : decode cX11_read 31 = .ok (.iconst 4, 1) := by decide +kernel
theorem dX11_read_32 : decode cX11_read 32 = .ok (.if_icmp .ge 49, 3) := by decide +kernel
theorem dX11_read_35 : decode cX11_read 35 = .ok (.iload_n 1, 1) := by decide +kernel
theorem dX11_read_36 : decode cX11_read 36 = .ok (.ifCond .eq 45, 3) := by decide +kernel
theorem dX11_read_39 : decode cX11_read 39 = .ok (.aload_n 0, 1) := by decide +kernel
theorem dX11_read_40 : decode cX11_read 40 = .ok (.getfield 56, 3) := by decide +kernel
theorem dX11_read_43 : decode cX11_read 43 = .ok (.invokevirtual 348, 3) := by decide +kernel
theorem dX11_read_46 : decode cX11_read 46 = .ok (.aload_n 0, 1) := by decide +kernel
theorem dX11_read_47 : decode cX11_read 47 = .ok (.invokevirtual 434, 3) := by decide +kernel
theorem dX11_read_50 : decode cX11_read 50 = .ok (.aload_n 0, 1) := by decide +kernel
theorem dX11_read_51 : decode cX11_read 51 = .ok (.invokevirtual 437, 3) := by decide +kernel
theorem dX11_read_54 : decode cX11_read 54 = .ok (.aload_n 0, 1) := by decide +kernel
theorem dX11_read_55 : decode cX11_read 55 = .ok (.getfield 365, 3) := by decide +kernel
theorem dX11_read_58 : decode cX11_read 58 = .ok (.aload_n 0, 1) := by decide +kernel
theorem dX11_read_59 : decode cX11_read 59 = .ok (.getfield 48, 3) := by decide +kernel
theorem dX11_read_62 : decode cX11_read 62 = .ok (.getfield 368, 3) := by decide +kernel
theorem dX11_read_65 : decode cX11_read 65 = .ok (.iand, 1) := by decide +kernel
theorem dX11_read_66 : decode cX11_read 66 = .ok (.ifCond .eq 7, 3) := by decide +kernel
theorem dX11_read_69 : decode cX11_read 69 = .ok (.iconst 1, 1) := by decide +kernel
theorem dX11_read_70 : decode cX11_read 70 = .ok (.goto 4, 3) := by decide +kernel
theorem dX11_read_73 : decode cX11_read 73 = .ok (.iconst 0, 1) := by decide +kernel
theorem dX11_read_74 : decode cX11_read 74 = .ok (.istore_n 1, 1) := by decide +kernel
theorem dX11_read_75 : decode cX11_read 75 = .ok (.iinc 2 1, 3) := by decide +kernel
theorem dX11_read_78 : decode cX11_read 78 = .ok (.goto (-48), 3) := by decide +kernel
theorem dX11_read_81 : decode cX11_read 81 = .ok (.return_, 1) := by decide +kernel
theorem dX11_findAnew_0 : decode cX11_findAnew 0 = .ok (.iconst 0, 1) := by decide +kernel
theorem dX11_findAnew_1 : decode cX11_findAnew 1 = .ok (.istore_n 2, 1) := by decide +kernel
theorem dX11_findAnew_2 : decode cX11_findAnew 2 = .ok (.aload_n 1, 1) := by decide +kernel
theorem dX11_findAnew_3 : decode cX11_findAnew 3 = .ok (.astore_n 3, 1) := by decide +kernel
theorem dX11_findAnew_4 : decode cX11_findAnew 4 = .ok (.aload_n 3, 1) := by decide +kernel
theorem dX11_findAnew_5 : decode cX11_findAnew 5 = .ok (.ifnull 20, 3) := by decide +kernel
theorem dX11_findAnew_8 : decode cX11_findAnew 8 = .ok (.iload_n 2, 1) := by decide +kernel
theorem dX11_findAnew_9 : decode cX11_findAnew 9 = .ok (.iconst 1, 1) := by decide +kernel
theorem dX11_findAnew_10 : decode cX11_findAnew 10 = .ok (.aload_n 3, 1) := by decide +kernel
theorem dX11_findAnew_11 : decode cX11_findAnew 11 = .ok (.getfield 134, 3) := by decide +kernel
theorem dX11_findAnew_14 : decode cX11_findAnew 14 = .ok (.ishl, 1) := by decide +kernel
theorem dX11_findAnew_15 : decode cX11_findAnew 15 = .ok (.ior, 1) := by decide +kernel
theorem dX11_findAnew_16 : decode cX11_findAnew 16 = .ok (.istore_n 2, 1) := by decide +kernel
theorem dX11_findAnew_17 : decode cX11_findAnew 17 = .ok (.aload_n 3, 1) := by decide +kernel
theorem dX11_findAnew_18 : decode cX11_findAnew 18 = .ok (.getfield 184, 3) := by decide +kernel
theorem dX11_findAnew_21 : decode cX11_findAnew 21 = .ok (.astore_n 3, 1) := by decide +kernel
theorem dX11_findAnew_22 : decode cX11_findAnew 22 = .ok (.goto (-18), 3) := by decide +kernel
theorem dX11_findAnew_25 : decode cX11_findAnew 25 = .ok (.aload_n 0, 1) := by decide +kernel
theorem dX11_findAnew_26 : decode cX11_findAnew 26 = .ok (.getfield 48, 3) := by decide +kernel
theorem dX11_findAnew_29 : decode cX11_findAnew 29 = .ok (.getfield 440, 3) := by decide +kernel
theorem dX11_findAnew_32 : decode cX11_findAnew 32 = .ok (.astore_n 3, 1) := by decide +kernel
theorem dX11_findAnew_33 : decode cX11_findAnew 33 = .ok (.aload_n 3, 1) := by decide +kernel
theorem dX11_findAnew_34 : decode cX11_findAnew 34 = .ok (.ifnull 64, 3) := by decide +kernel
theorem dX11_findAnew_37 : decode cX11_findAnew 37 = .ok (.iload_n 2, 1) := by decide +kernel
theorem dX11_findAnew_38 : decode cX11_findAnew 38 = .ok (.aload_n 3, 1) := by decide +kernel
theorem dX11_findAnew_39 : decode cX11_findAnew 39 = .ok (.getfield 134, 3) := by decide +kernel
theorem dX11_findAnew_42 : decode cX11_findAnew 42 = .ok (.invokestatic 144, 3) := by decide +kernel
theorem dX11_findAnew_45 : decode cX11_findAnew 45 = .ok (.ifCond .eq 45, 3) := by decide +kernel
theorem dX11_findAnew_48 : decode cX11_findAnew 48 = .ok (.aload_n 0, 1) := by decide +kernel
theorem dX11_findAnew_49 : decode cX11_findAnew 49 = .ok (.aload_n 3, 1) := by decide +kernel
theorem dX11_findAnew_50 : decode cX11_findAnew 50 = .ok (.iconst 1, 1) := by decide +kernel
theorem dX11_findAnew_51 : decode cX11_findAnew 51 = .ok (.invokevirtual 362, 3) := by decide +kernel
theorem dX11_findAnew_54 : decode cX11_findAnew 54 = .ok (.astore 4, 2) := by decide +kernel
theorem dX11_findAnew_56 : decode cX11_findAnew 56 = .ok (.aload_n 0, 1) := by decide +kernel
theorem dX11_findAnew_57 : decode cX11_findAnew 57 = .ok (.aload 4, 2) := by decide +kernel
theorem dX11_findAnew_59 : decode cX11_findAnew 59 = .ok (.aload_n 3, 1) := by decide +kernel
theorem dX11_findAnew_60 : decode cX11_findAnew 60 = .ok (.iconst 1, 1) := by decide +kernel
theorem dX11_findAnew_61 : decode cX11_findAnew 61 = .ok (.invokevirtual 464, 3) := by decide +kernel
theorem dX11_findAnew_64 : decode cX11_findAnew 64 = .ok (.aload 4, 2) := by decide +kernel
theorem dX11_findAnew_66 : decode cX11_findAnew 66 = .ok (.aload 4, 2) := by decide +kernel
theorem dX11_findAnew_68 : decode cX11_findAnew 68 = .ok (.getfield 327, 3) := by decide +kernel
theorem dX11_findAnew_71 : decode cX11_findAnew 71 = .ok (.bipush 6, 2) := by decide +kernel
theorem dX11_findAnew_73 : decode cX11_findAnew 73 = .ok (.iaload, 1) := by decide +kernel
theorem dX11_findAnew_74 : decode cX11_findAnew 74 = .ok (.ifCond .le 12, 3) := by decide +kernel
theorem dX11_findAnew_77 : decode cX11_findAnew 77 = .ok (.aload_n 0, 1) := by decide +kernel
theorem dX11_findAnew_78 : decode cX11_findAnew 78 = .ok (.aload_n 3, 1) := by decide +kernel
theorem dX11_findAnew_79 : decode cX11_findAnew 79 = .ok (.iconst 1, 1) := by decide +kernel
theorem dX11_findAnew_80 : decode cX11_findAnew 80 = .ok (.invokevirtual 481, 3) := by decide +kernel
theorem dX11_findAnew_83 : decode cX11_findAnew 83 = .ok (.goto 4, 3) := by decide +kernel
theorem dX11_findAnew_86 : decode cX11_findAnew 86 = .ok (.iconst 0, 1) := by decide +kernel
theorem dX11_findAnew_87 : decode cX11_findAnew 87 = .ok (.putfield 331, 3) := by decide +kernel
theorem dX11_findAnew_90 : decode cX11_findAnew 90 = .ok (.aload_n 3, 1) := by decide +kernel
theorem dX11_findAnew_91 : decode cX11_findAnew 91 = .ok (.getfield 446, 3) := by decide +kernel
theorem dX11_findAnew_94 : decode cX11_findAnew 94 = .ok (.astore_n 3, 1) := by decide +kernel
theorem dX11_findAnew_95 : decode cX11_findAnew 95 = .ok (.goto (-62), 3) := by decide +kernel
theorem dX11_findAnew_98 : decode cX11_findAnew 98 = .ok (.return_, 1) := by decide +kernel
theorem dX11_marked_0 : decode cX11_marked 0 = .ok (.aload_n 0, 1) := by decide +kernel
theorem dX11_marked_1 : decode cX11_marked 1 = .ok (.getfield 365, 3) := by decide +kernel
theorem dX11_marked_4 : decode cX11_marked 4 = .ok (.aload_n 0, 1) := by decide +kernel
theorem dX11_marked_5 : decode cX11_marked 5 = .ok (.getfield 48, 3) := by decide +kernel
theorem dX11_marked_8 : decode cX11_marked 8 = .ok (.getfield 368, 3) := by decide +kernel
theorem dX11_marked_11 : decode cX11_marked 11 = .ok (.iand, 1) := by decide +kernel
theorem dX11_marked_12 : decode cX11_marked 12 = .ok (.ireturn, 1) := by decide +kernel
theorem dX11_flushes_0 : decode cX11_flushes 0 = .ok (.aload_n 0, 1) := by decide +kernel
theorem dX11_flushes_1 : decode cX11_flushes 1 = .ok (.getfield 371, 3) := by decide +kernel
theorem dX11_flushes_4 : decode cX11_flushes 4 = .ok (.ireturn, 1) := by decide +kernel
theorem dX11_restyled_0 : decode cX11_restyled 0 = .ok (.aload_n 0, 1) := by decide +kernel
theorem dX11_restyled_1 : decode cX11_restyled 1 = .ok (.getfield 374, 3) := by decide +kernel
theorem dX11_restyled_4 : decode cX11_restyled 4 = .ok (.ireturn, 1) := by decide +kernel
theorem dX11_shared_0 : decode cX11_shared 0 = .ok (.aload_n 0, 1) := by decide +kernel
theorem dX11_shared_1 : decode cX11_shared 1 = .ok (.getfield 377, 3) := by decide +kernel
theorem dX11_shared_4 : decode cX11_shared 4 = .ok (.ireturn, 1) := by decide +kernel
def f_X11_markSlotted_39  (x0 : Nat)  (σ : cS) : Option (cS) := some σ
def f_X11_markSlotted_23  (x0 : Nat) (x2 : Option Nat) (σ : cS) : Option (cS) := if x2 = none then (f_X11_markSlotted_39 x0 σ) else ((gR σ (some x0) 11 0).bind (fun v1 => (rc σ v1 10).bind (fun v2 => (f_X10_below v2 (x2) σ).bind (fun v3 => (rc σ (some x0) 11).bind (fun v4 => (f_X11_mark v4 (v3) σ).bind (fun v5 => f_X11_markSlotted_39 x0 v5))))))
def f_X11_markSlotted (x0 : Nat) (x1 : Option Nat) (x2 : Option Nat) (σ : cS) : Option (cS) := if x1 = none then (f_X11_markSlotted_23 x0 (x2) σ) else ((gI σ x1 3 7).bind (fun v1 => if v1 = (0:Int32) then (f_X11_markSlotted_23 x0 (x2) σ) else ((gR σ (some x0) 11 0).bind (fun v2 => (rc σ v2 10).bind (fun v3 => (f_X10_below v3 (x1) σ).bind (fun v4 => (rc σ (some x0) 11).bind (fun v5 => (f_X11_mark v5 (v4) σ).bind (fun v6 => f_X11_markSlotted_23 x0 (x2) v6))))))))
set_option maxRecDepth 20000 in
set_option maxHeartbeats 4000000 in
theorem N_X11_markSlotted_39 {p : Program} {l : Launch} {e : Env} {s : State} {m : MethodId} {args : Array Value} {below : List Frame} {meth : Method} {c : Code} {D : cD} {Φ : cG} {x0 : Nat}    {σ : cS} {H : Heap} {locs : List Loc} {ls : Array Slot} {q : cS} (X : cX p s m args meth c cX11_markSlotted 3 none RX11 D Φ) (hP : cP D Φ σ H) (hS : va_S (cReg Φ) s.heap H locs)  (hl : lv_has ls 3 []) (h : f_X11_markSlotted_39  x0  σ = some q) : cWw p l e 1 0 0 24 s m args below meth c D Φ q none H locs 0 0 (F0 m 39 ls []) := by
  have hx := X.1
  have hb := X.2.1
  have hown := X.2.2.2.1
  have hts := X.2.2.2.2.1
  have h : (some σ) = some q := h
  obtain rfl := sj h
  exact c_wv X hP hS (Nat.le_of_ble_eq_true rfl) (Nat.le_of_ble_eq_true rfl) dX11_markSlotted_39
set_option maxRecDepth 20000 in
set_option maxHeartbeats 4000000 in
theorem N_X11_markSlotted_23 {p : Program} {l : Launch} {e : Env} {s : State} {m : MethodId} {args : Array Value} {below : List Frame} {meth : Method} {c : Code} {D : cD} {Φ : cG} {x0 : Nat}   {x2 : Option Nat} {σ : cS} {H : Heap} {locs : List Loc} {ls : Array Slot} {q : cS} (X : cX p s m args meth c cX11_markSlotted 3 none RX11 D Φ) (hP : cP D Φ σ H) (hS : va_S (cReg Φ) s.heap H locs)  (hl : lv_has ls 3 [(0, cv Φ (some x0)), (2, cv Φ x2)]) (h : f_X11_markSlotted_23  x0 x2 σ = some q) : cWw p l e 1 0 0 24 s m args below meth c D Φ q none H locs 0 0 (F0 m 23 ls []) := by
  have hx := X.1
  have hb := X.2.1
  have hown := X.2.2.2.1
  have hts := X.2.2.2.2.1
  have h : (if x2 = none then (f_X11_markSlotted_39 x0 σ) else ((gR σ (some x0) 11 0).bind (fun v1 => (rc σ v1 10).bind (fun v2 => (f_X10_below v2 (x2) σ).bind (fun v3 => (rc σ (some x0) 11).bind (fun v4 => (f_X11_mark v4 (v3) σ).bind (fun v5 => f_X11_markSlotted_39 x0 v5))))))) = some q := h
  refine c_aload_n hx hb dX11_markSlotted_23 rfl (lv_at hl 1 rfl) ?_
  refine c_ifnull (Φ := Φ) (tgt := 39) hx hb dX11_markSlotted_24 rfl (fun hc => ?_) (fun hc => ?_)
  · have h := ip hc h
    exact N_X11_markSlotted_39 X hP hS (lv_sub hl [] rfl) h
  · have h := ine hc h
    refine c_aload_n hx hb dX11_markSlotted_27 rfl (lv_at hl 0 rfl) ?_
    refine c_aload_n hx hb dX11_markSlotted_28 rfl (lv_at hl 0 rfl) ?_
    obtain ⟨v1, hv1, h⟩ := ob h
    refine c_gR X hP hv1 (Nat.le_of_ble_eq_true rfl) (Nat.le_of_ble_eq_true rfl) rfl w_571 dX11_markSlotted_29 ?_
    refine c_aload_n hx hb dX11_markSlotted_32 rfl (lv_at hl 1 rfl) ?_
    obtain ⟨v2, hv2, h⟩ := ob h
    obtain ⟨v3, hv3, h⟩ := ob h
    refine c_cr (c_runV X (K_X10_below l D Φ σ v2 (x2) hv3) hv2 ⟨Nat.le_of_ble_eq_true rfl, by decide⟩ ⟨w_822, ww_X10_below⟩ rfl hy_X10_below rfl ⟨(Nat.le_of_ble_eq_true rfl), (Nat.le_of_ble_eq_true rfl)⟩ hP hS hl.1 (Nat.le_of_ble_eq_true rfl) dX11_markSlotted_33 rfl ⟨(Nat.le_of_ble_eq_true rfl), (Nat.le_of_ble_eq_true rfl)⟩) ?_
    obtain ⟨v4, hv4, h⟩ := ob h
    obtain ⟨v5, hv5, h⟩ := ob h
    refine c_cw (c_runV X (K_X11_mark l D Φ σ v4 (v3) hv5) hv4 ⟨Nat.le_of_ble_eq_true rfl, by decide⟩ ⟨w_826, ww_X11_mark⟩ rfl hy_X11_mark rfl ⟨(Nat.le_of_ble_eq_true rfl), (Nat.le_of_ble_eq_true rfl)⟩ hP hS hl.1 (Nat.le_of_ble_eq_true rfl) dX11_markSlotted_36 rfl ⟨(Nat.le_of_ble_eq_true rfl), (Nat.le_of_ble_eq_true rfl)⟩) hS (fun H locs hP hS => ?_)
    refine W.eq (g2 := F0 m 39 ls []) rfl ?_
    exact N_X11_markSlotted_39 X hP hS (lv_sub hl [] rfl) h
set_option maxRecDepth 20000 in
set_option maxHeartbeats 4000000 in
theorem K_X11_markSlotted (l : Launch) (D : cD) (Φ : cG) (σ : cS) (x0 : Nat) (x1 : Option Nat) (x2 : Option Nat) {q : cS} (h : f_X11_markSlotted x0 x1 x2 σ = some q) : Met l yX11_markSlotted (Cond.code yX11_markSlotted cX11_markSlotted 3 none :: BG) (rA 1 0 0 24) (cPc D Φ σ [cv Φ (some x0), cv Φ x1, cv Φ x2]) (cQw D Φ q none) 0 0 (cReg Φ) := by
  refine Met.ofW (cc := cX11_markSlotted) (maxL := 3) (ret := none) (by decide) rfl ?_
  intro p e s m args below meth c s₁ B hml hv
  obtain ⟨rfl, hP, hK, hZ⟩ := hv
  have X : cX p s m [cv Φ (some x0), cv Φ x1, cv Φ x2].toArray meth c cX11_markSlotted 3 none RX11 D Φ := cX_of B hml hK hZ
  have hx := X.1
  have hb := X.2.1
  have hown := X.2.2.2.1
  have hts := X.2.2.2.2.1
  have hl := lv_entry [cv Φ (some x0), cv Φ x1, cv Φ x2] (n := 3) (by simp only [lgs_r, lgs_i, lgs_l, lgs_0, List.length]; exact Nat.le_of_ble_eq_true rfl)
  rw [lg_entry_eq]
  generalize (lg_sl [cv Φ (some x0), cv Φ x1, cv Φ x2] ++ List.replicate (3 - (lg_sl [cv Φ (some x0), cv Φ x1, cv Φ x2]).length) Slot.unset).toArray = ls at hl ⊢
  simp only [lv_args_r, lv_args_i, lv_args_l, lv_args_0] at hl
  have hl : lv_has ls 3 [(0, cv Φ (some x0)), (1, cv Φ x1), (2, cv Φ x2)] := hl
  have hS : va_S (cReg Φ) s.heap s.heap [] := va_S.rf
  show cWw p l e 1 0 0 24 s m [cv Φ (some x0), cv Φ x1, cv Φ x2].toArray below meth c D Φ q none s.heap [] 0 0 (F0 m 0 ls [])
  have h : (if x1 = none then (f_X11_markSlotted_23 x0 (x2) σ) else ((gI σ x1 3 7).bind (fun v1 => if v1 = (0:Int32) then (f_X11_markSlotted_23 x0 (x2) σ) else ((gR σ (some x0) 11 0).bind (fun v2 => (rc σ v2 10).bind (fun v3 => (f_X10_below v3 (x1) σ).bind (fun v4 => (rc σ (some x0) 11).bind (fun v5 => (f_X11_mark v5 (v4) σ).bind (fun v6 => f_X11_markSlotted_23 x0 (x2) v6))))))))) = some q := h
  refine c_aload_n hx hb dX11_markSlotted_0 rfl (lv_at hl 1 rfl) ?_
  refine c_ifnull (Φ := Φ) (tgt := 23) hx hb dX11_markSlotted_1 rfl (fun hc => ?_) (fun hc => ?_)
  · have h := ip hc h
    exact N_X11_markSlotted_23 X hP hS (lv_sub hl [0, 2] rfl) h
  · have h := ine hc h
    refine c_aload_n hx hb dX11_markSlotted_4 rfl (lv_at hl 1 rfl) ?_
    obtain ⟨v1, hv1, h⟩ := ob h
    refine c_gI X hP hv1 (Nat.le_of_ble_eq_true rfl) (Nat.le_of_ble_eq_true rfl) rfl w_247 dX11_markSlotted_5 ?_
    refine lv_if_eq (tgt := 23) hx hb dX11_markSlotted_8 rfl (fun hc => ?_) (fun hc => ?_)
    · have h := ip hc h
      exact N_X11_markSlotted_23 X hP hS (lv_sub hl [0, 2] rfl) h
    · have h := ine hc h
      refine c_aload_n hx hb dX11_markSlotted_11 rfl (lv_at hl 0 rfl) ?_
      refine c_aload_n hx hb dX11_markSlotted_12 rfl (lv_at hl 0 rfl) ?_
      obtain ⟨v2, hv2, h⟩ := ob h
      refine c_gR X hP hv2 (Nat.le_of_ble_eq_true rfl) (Nat.le_of_ble_eq_true rfl) rfl w_571 dX11_markSlotted_13 ?_
      refine c_aload_n hx hb dX11_markSlotted_16 rfl (lv_at hl 1 rfl) ?_
      obtain ⟨v3, hv3, h⟩ := ob h
      obtain ⟨v4, hv4, h⟩ := ob h
      refine c_cr (c_runV X (K_X10_below l D Φ σ v3 (x1) hv4) hv3 ⟨Nat.le_of_ble_eq_true rfl, by decide⟩ ⟨w_822, ww_X10_below⟩ rfl hy_X10_below rfl ⟨(Nat.le_of_ble_eq_true rfl), (Nat.le_of_ble_eq_true rfl)⟩ hP hS hl.1 (Nat.le_of_ble_eq_true rfl) dX11_markSlotted_17 rfl ⟨(Nat.le_of_ble_eq_true rfl), (Nat.le_of_ble_eq_true rfl)⟩) ?_
      obtain ⟨v5, hv5, h⟩ := ob h
      obtain ⟨v6, hv6, h⟩ := ob h
      refine c_cw (c_runV X (K_X11_mark l D Φ σ v5 (v4) hv6) hv5 ⟨Nat.le_of_ble_eq_true rfl, by decide⟩ ⟨w_826, ww_X11_mark⟩ rfl hy_X11_mark rfl ⟨(Nat.le_of_ble_eq_true rfl), (Nat.le_of_ble_eq_true rfl)⟩ hP hS hl.1 (Nat.le_of_ble_eq_true rfl) dX11_markSlotted_20 rfl ⟨(Nat.le_of_ble_eq_true rfl), (Nat.le_of_ble_eq_true rfl)⟩) hS (fun H locs hP hS => ?_)
      refine W.eq (g2 := F0 m 23 ls []) rfl ?_
      exact N_X11_markSlotted_23 X hP hS (lv_sub hl [0, 2] rfl) h
theorem ww_X11_markSlotted : Cond.instanceMethod yX11_markSlotted ∈ BG ∧ Cond.selects (yX11_markSlotted).cls yX11_markSlotted yX11_markSlotted ∈ BG ∧ Cond.initialized (yX11_markSlotted).cls ∈ BG ∧ Cond.code yX11_markSlotted cX11_markSlotted 3 none ∈ BG := ⟨w_836, w_13, w_56, w_837⟩
theorem hy_X11_markSlotted : (yX11_markSlotted).cls ≠ "java/lang/invoke/MethodHandle" ∧ (yX11_markSlotted).cls ≠ "java/lang/invoke/VarHandle" ∧ (parseMethodDescriptor (yX11_markSlotted).desc).map (fun d => d.parameters.length) = some 2 := ⟨by decide, by decide, by decide +kernel⟩
def f_X11_markMove_82  (x0 : Nat) (x3 : Option Nat) (x4 : Option Nat) (σ : cS) : Option (cS) := (rc σ (some x0) 11).bind (fun v1 => (f_X11_markSlotted v1 (x3) (x4) σ).bind (fun v2 => some v2))
def f_X11_markMove_68  (x0 : Nat) (x3 : Option Nat) (x4 : Option Nat) (σ : cS) : Option (cS) := (gR σ (some x0) 11 2).bind (fun v1 => (gI σ v1 1 12).bind (fun v2 => if v2 = (0:Int32) then (f_X11_markMove_82 x0 (x3) (x4) σ) else ((rc σ (some x0) 11).bind (fun v3 => (f_X11_markAll v3  σ).bind (fun v4 => f_X11_markMove_82 x0 (x3) (x4) v4)))))
def f_X11_markMove_32  (x0 : Nat) : Nat → Option Nat → Option Nat → Option Nat → cS → Option (cS)
  | 0, _, _, _, _ => none
  | n + 1, x3, x4, x5, σ => if x5 = none then (f_X11_markMove_68 x0 (x3) (x4) σ) else ((gI σ x5 3 0).bind (fun v1 => (gR σ (some x0) 11 0).bind (fun v2 => (rc σ v2 10).bind (fun v3 => (f_X10_below v3 (x5) σ).bind (fun v4 => (rc σ (some x0) 11).bind (fun v5 => (f_X11_mark v5 ((((1:Int32) <<< (v1 &&& 31)) ||| v4)) σ).bind (fun v6 => (gR v6 x5 3 12).bind (fun v7 => f_X11_markMove_32 x0 n (x3) (x4) (v7) v6))))))))
def f_X11_markMove (x0 : Nat) (x1 : Option Nat) (x2 : Option Nat) (x3 : Option Nat) (x4 : Option Nat) (σ : cS) : Option (cS) := (gI σ x1 3 0).bind (fun v1 => (gR σ (some x0) 11 0).bind (fun v2 => (rc σ v2 10).bind (fun v3 => (f_X10_below v3 (x1) σ).bind (fun v4 => (rc σ (some x0) 11).bind (fun v5 => (f_X11_mark v5 ((((1:Int32) <<< (v1 &&& 31)) ||| v4)) σ).bind (fun v6 => (gR v6 (some x0) 11 2).bind (fun v7 => (gI v6 v7 1 11).bind (fun v8 => if v8 = (0:Int32) then (f_X11_markMove_68 x0 (x3) (x4) v6) else (f_X11_markMove_32 x0 4000 (x3) (x4) (x2) v6)))))))))
set_option maxRecDepth 20000 in
set_option maxHeartbeats 4000000 in
theorem N_X11_markMove_82 {p : Program} {l : Launch} {e : Env} {s : State} {m : MethodId} {args : Array Value} {below : List Frame} {meth : Method} {c : Code} {D : cD} {Φ : cG} {x0 : Nat}   {x3 : Option Nat} {x4 : Option Nat} {σ : cS} {H : Heap} {locs : List Loc} {ls : Array Slot} {q : cS} (X : cX p s m args meth c cX11_markMove 6 none RX11 D Φ) (hP : cP D Φ σ H) (hS : va_S (cReg Φ) s.heap H locs)  (hl : lv_has ls 6 [(0, cv Φ (some x0)), (3, cv Φ x3), (4, cv Φ x4)]) (h : f_X11_markMove_82  x0 x3 x4 σ = some q) : cWw p l e 2 0 0 46 s m args below meth c D Φ q none H locs 0 0 (F0 m 82 ls []) := by
  have hx := X.1
  have hb := X.2.1
  have hown := X.2.2.2.1
  have hts := X.2.2.2.2.1
  have h : ((rc σ (some x0) 11).bind (fun v1 => (f_X11_markSlotted v1 (x3) (x4) σ).bind (fun v2 => some v2))) = some q := h
  refine c_aload_n hx hb dX11_markMove_82 rfl (lv_at hl 0 rfl) ?_
  refine c_aload_n hx hb dX11_markMove_83 rfl (lv_at hl 1 rfl) ?_
  refine c_aload hx hb dX11_markMove_84 (lv_at hl 2 rfl) ?_
  obtain ⟨v1, hv1, h⟩ := ob h
  obtain ⟨v2, hv2, h⟩ := ob h
  refine c_cw (c_runV X (K_X11_markSlotted l D Φ σ v1 (x3) (x4) hv2) hv1 ⟨Nat.le_of_ble_eq_true rfl, by decide⟩ ⟨w_834, ww_X11_markSlotted⟩ rfl hy_X11_markSlotted rfl ⟨(Nat.le_of_ble_eq_true rfl), (Nat.le_of_ble_eq_true rfl)⟩ hP hS hl.1 (Nat.le_of_ble_eq_true rfl) dX11_markMove_86 rfl ⟨(Nat.le_of_ble_eq_true rfl), (Nat.le_of_ble_eq_true rfl)⟩) hS (fun H locs hP hS => ?_)
  refine W.eq (g2 := F0 m 89 ls []) rfl ?_
  obtain rfl := sj h
  exact c_wv X hP hS (Nat.le_of_ble_eq_true rfl) (Nat.le_of_ble_eq_true rfl) dX11_markMove_89
set_option maxRecDepth 20000 in
set_option maxHeartbeats 4000000 in
theorem N_X11_markMove_68 {p : Program} {l : Launch} {e : Env} {s : State} {m : MethodId} {args : Array Value} {below : List Frame} {meth : Method} {c : Code} {D : cD} {Φ : cG} {x0 : Nat}   {x3 : Option Nat} {x4 : Option Nat} {σ : cS} {H : Heap} {locs : List Loc} {ls : Array Slot} {q : cS} (X : cX p s m args meth c cX11_markMove 6 none RX11 D Φ) (hP : cP D Φ σ H) (hS : va_S (cReg Φ) s.heap H locs)  (hl : lv_has ls 6 [(0, cv Φ (some x0)), (3, cv Φ x3), (4, cv Φ x4)]) (h : f_X11_markMove_68  x0 x3 x4 σ = some q) : cWw p l e 2 0 0 46 s m args below meth c D Φ q none H locs 0 0 (F0 m 68 ls []) := by
  have hx := X.1
  have hb := X.2.1
  have hown := X.2.2.2.1
  have hts := X.2.2.2.2.1
  have h : ((gR σ (some x0) 11 2).bind (fun v1 => (gI σ v1 1 12).bind (fun v2 => if v2 = (0:Int32) then (f_X11_markMove_82 x0 (x3) (x4) σ) else ((rc σ (some x0) 11).bind (fun v3 => (f_X11_markAll v3  σ).bind (fun v4 => f_X11_markMove_82 x0 (x3) (x4) v4)))))) = some q := h
  refine c_aload_n hx hb dX11_markMove_68 rfl (lv_at hl 0 rfl) ?_
  obtain ⟨v1, hv1, h⟩ := ob h
  refine c_gR X hP hv1 (Nat.le_of_ble_eq_true rfl) (Nat.le_of_ble_eq_true rfl) rfl w_573 dX11_markMove_69 ?_
  obtain ⟨v2, hv2, h⟩ := ob h
  refine c_gI X hP hv2 (Nat.le_of_ble_eq_true rfl) (Nat.le_of_ble_eq_true rfl) rfl w_517 dX11_markMove_72 ?_
  refine lv_if_eq (tgt := 82) hx hb dX11_markMove_75 rfl (fun hc => ?_) (fun hc => ?_)
  · have h := ip hc h
    exact N_X11_markMove_82 X hP hS (lv_sub hl [0, 1, 2] rfl) h
  · have h := ine hc h
    refine c_aload_n hx hb dX11_markMove_78 rfl (lv_at hl 0 rfl) ?_
    obtain ⟨v3, hv3, h⟩ := ob h
    obtain ⟨v4, hv4, h⟩ := ob h
    refine c_cw (c_runV X (K_X11_markAll l D Φ σ v3  hv4) hv3 ⟨Nat.le_of_ble_eq_true rfl, by decide⟩ ⟨w_830, ww_X11_markAll⟩ rfl hy_X11_markAll rfl ⟨(Nat.le_of_ble_eq_true rfl), (Nat.le_of_ble_eq_true rfl)⟩ hP hS hl.1 (Nat.le_of_ble_eq_true rfl) dX11_markMove_79 rfl ⟨(Nat.le_of_ble_eq_true rfl), (Nat.le_of_ble_eq_true rfl)⟩) hS (fun H locs hP hS => ?_)
    refine W.eq (g2 := F0 m 82 ls []) rfl ?_
    exact N_X11_markMove_82 X hP hS (lv_sub hl [0, 1, 2] rfl) h
set_option maxRecDepth 20000 in
set_option maxHeartbeats 4000000 in
theorem N_X11_markMove_32 {p : Program} {l : Launch} {e : Env} {s : State} {m : MethodId} {args : Array Value} {below : List Frame} {meth : Method} {c : Code} {D : cD} {Φ : cG} {x0 : Nat}  {n : Nat} {x3 : Option Nat} {x4 : Option Nat} {x5 : Option Nat} {σ : cS} {H : Heap} {locs : List Loc} {ls : Array Slot} {q : cS} (X : cX p s m args meth c cX11_markMove 6 none RX11 D Φ) (hP : cP D Φ σ H) (hS : va_S (cReg Φ) s.heap H locs)  (hl : lv_has ls 6 [(0, cv Φ (some x0)), (3, cv Φ x3), (4, cv Φ x4), (5, cv Φ x5)]) (h : f_X11_markMove_32  x0 n x3 x4 x5 σ = some q) : cWw p l e 2 0 0 46 s m args below meth c D Φ q none H locs 0 0 (F0 m 32 ls []) := by
  have hx := X.1
  have hb := X.2.1
  have hown := X.2.2.2.1
  have hts := X.2.2.2.2.1
  induction n generalizing x3 x4 x5 σ H locs ls with
  | zero => exact absurd (show none = some q from h) (by simp)
  | succ n ih =>
    have h : (if x5 = none then (f_X11_markMove_68 x0 (x3) (x4) σ) else ((gI σ x5 3 0).bind (fun v1 => (gR σ (some x0) 11 0).bind (fun v2 => (rc σ v2 10).bind (fun v3 => (f_X10_below v3 (x5) σ).bind (fun v4 => (rc σ (some x0) 11).bind (fun v5 => (f_X11_mark v5 ((((1:Int32) <<< (v1 &&& 31)) ||| v4)) σ).bind (fun v6 => (gR v6 x5 3 12).bind (fun v7 => f_X11_markMove_32 x0 n (x3) (x4) (v7) v6))))))))) = some q := h
    refine c_aload hx hb dX11_markMove_32 (lv_at hl 3 rfl) ?_
    refine c_ifnull (Φ := Φ) (tgt := 68) hx hb dX11_markMove_34 rfl (fun hc => ?_) (fun hc => ?_)
    · have h := ip hc h
      exact N_X11_markMove_68 X hP hS (lv_sub hl [0, 1, 2] rfl) h
    · have h := ine hc h
      refine c_aload_n hx hb dX11_markMove_37 rfl (lv_at hl 0 rfl) ?_
      refine lv_iconst (v := (1:Int32)) hx hb dX11_markMove_38 (by decide) ?_
      refine c_aload hx hb dX11_markMove_39 (lv_at hl 3 rfl) ?_
      obtain ⟨v1, hv1, h⟩ := ob h
      refine c_gI X hP hv1 (Nat.le_of_ble_eq_true rfl) (Nat.le_of_ble_eq_true rfl) rfl w_227 dX11_markMove_41 ?_
      refine lv_ishl hx hb dX11_markMove_44 ?_
      refine c_aload_n hx hb dX11_markMove_45 rfl (lv_at hl 0 rfl) ?_
      obtain ⟨v2, hv2, h⟩ := ob h
      refine c_gR X hP hv2 (Nat.le_of_ble_eq_true rfl) (Nat.le_of_ble_eq_true rfl) rfl w_571 dX11_markMove_46 ?_
      refine c_aload hx hb dX11_markMove_49 (lv_at hl 3 rfl) ?_
      obtain ⟨v3, hv3, h⟩ := ob h
      obtain ⟨v4, hv4, h⟩ := ob h
      refine c_cr (c_runV X (K_X10_below l D Φ σ v3 (x5) hv4) hv3 ⟨Nat.le_of_ble_eq_true rfl, by decide⟩ ⟨w_822, ww_X10_below⟩ rfl hy_X10_below rfl ⟨(Nat.le_of_ble_eq_true rfl), (Nat.le_of_ble_eq_true rfl)⟩ hP hS hl.1 (Nat.le_of_ble_eq_true rfl) dX11_markMove_51 rfl ⟨(Nat.le_of_ble_eq_true rfl), (Nat.le_of_ble_eq_true rfl)⟩) ?_
      refine lv_ior hx hb dX11_markMove_54 ?_
      obtain ⟨v5, hv5, h⟩ := ob h
      obtain ⟨v6, hv6, h⟩ := ob h
      refine c_cw (c_runV X (K_X11_mark l D Φ σ v5 ((((1:Int32) <<< (v1 &&& 31)) ||| v4)) hv6) hv5 ⟨Nat.le_of_ble_eq_true rfl, by decide⟩ ⟨w_826, ww_X11_mark⟩ rfl hy_X11_mark rfl ⟨(Nat.le_of_ble_eq_true rfl), (Nat.le_of_ble_eq_true rfl)⟩ hP hS hl.1 (Nat.le_of_ble_eq_true rfl) dX11_markMove_55 rfl ⟨(Nat.le_of_ble_eq_true rfl), (Nat.le_of_ble_eq_true rfl)⟩) hS (fun H locs hP hS => ?_)
      refine W.eq (g2 := F0 m 58 ls []) rfl ?_
      refine c_aload hx hb dX11_markMove_58 (lv_at hl 3 rfl) ?_
      obtain ⟨v7, hv7, h⟩ := ob h
      refine c_gR X hP hv7 (Nat.le_of_ble_eq_true rfl) (Nat.le_of_ble_eq_true rfl) rfl w_262 dX11_markMove_60 ?_
      refine c_astore hx hb dX11_markMove_63 hl (Nat.le_of_ble_eq_true rfl) (lvKa rfl (lvKa rfl (lvKr (lvKa rfl lvK0)))) rfl (fun ls (hl : lv_has ls 6 [(5, cv Φ v7), (0, cv Φ (some x0)), (3, cv Φ x3), (4, cv Φ x4)]) => ?_)
      refine lv_goto (tgt := 32) hx hb dX11_markMove_65 rfl ?_
      exact ih hP hS (lv_sub hl [1, 2, 3, 0] rfl) h
set_option maxRecDepth 20000 in
set_option maxHeartbeats 4000000 in
theorem K_X11_markMove (l : Launch) (D : cD) (Φ : cG) (σ : cS) (x0 : Nat) (x1 : Option Nat) (x2 : Option Nat) (x3 : Option Nat) (x4 : Option Nat) {q : cS} (h : f_X11_markMove x0 x1 x2 x3 x4 σ = some q) : Met l yX11_markMove (Cond.code yX11_markMove cX11_markMove 6 none :: BG) (rA 2 0 0 46) (cPc D Φ σ [cv Φ (some x0), cv Φ x1, cv Φ x2, cv Φ x3, cv Φ x4]) (cQw D Φ q none) 0 0 (cReg Φ) := by
  refine Met.ofW (cc := cX11_markMove) (maxL := 6) (ret := none) (by decide) rfl ?_
  intro p e s m args below meth c s₁ B hml hv
  obtain ⟨rfl, hP, hK, hZ⟩ := hv
  have X : cX p s m [cv Φ (some x0), cv Φ x1, cv Φ x2, cv Φ x3, cv Φ x4].toArray meth c cX11_markMove 6 none RX11 D Φ := cX_of B hml hK hZ
  have hx := X.1
  have hb := X.2.1
  have hown := X.2.2.2.1
  have hts := X.2.2.2.2.1
  have hl := lv_entry [cv Φ (some x0), cv Φ x1, cv Φ x2, cv Φ x3, cv Φ x4] (n := 6) (by simp only [lgs_r, lgs_i, lgs_l, lgs_0, List.length]; exact Nat.le_of_ble_eq_true rfl)
  rw [lg_entry_eq]
  generalize (lg_sl [cv Φ (some x0), cv Φ x1, cv Φ x2, cv Φ x3, cv Φ x4] ++ List.replicate (6 - (lg_sl [cv Φ (some x0), cv Φ x1, cv Φ x2, cv Φ x3, cv Φ x4]).length) Slot.unset).toArray = ls at hl ⊢
  simp only [lv_args_r, lv_args_i, lv_args_l, lv_args_0] at hl
  have hl : lv_has ls 6 [(0, cv Φ (some x0)), (1, cv Φ x1), (2, cv Φ x2), (3, cv Φ x3), (4, cv Φ x4)] := hl
  have hS : va_S (cReg Φ) s.heap s.heap [] := va_S.rf
  show cWw p l e 2 0 0 46 s m [cv Φ (some x0), cv Φ x1, cv Φ x2, cv Φ x3, cv Φ x4].toArray below meth c D Φ q none s.heap [] 0 0 (F0 m 0 ls [])
  have h : ((gI σ x1 3 0).bind (fun v1 => (gR σ (some x0) 11 0).bind (fun v2 => (rc σ v2 10).bind (fun v3 => (f_X10_below v3 (x1) σ).bind (fun v4 => (rc σ (some x0) 11).bind (fun v5 => (f_X11_mark v5 ((((1:Int32) <<< (v1 &&& 31)) ||| v4)) σ).bind (fun v6 => (gR v6 (some x0) 11 2).bind (fun v7 => (gI v6 v7 1 11).bind (fun v8 => if v8 = (0:Int32) then (f_X11_markMove_68 x0 (x3) (x4) v6) else (f_X11_markMove_32 x0 4000 (x3) (x4) (x2) v6)))))))))) = some q := h
  refine c_aload_n hx hb dX11_markMove_0 rfl (lv_at hl 0 rfl) ?_
  refine lv_iconst (v := (1:Int32)) hx hb dX11_markMove_1 (by decide) ?_
  refine c_aload_n hx hb dX11_markMove_2 rfl (lv_at hl 1 rfl) ?_
  obtain ⟨v1, hv1, h⟩ := ob h
  refine c_gI X hP hv1 (Nat.le_of_ble_eq_true rfl) (Nat.le_of_ble_eq_true rfl) rfl w_227 dX11_markMove_3 ?_
  refine lv_ishl hx hb dX11_markMove_6 ?_
  refine c_aload_n hx hb dX11_markMove_7 rfl (lv_at hl 0 rfl) ?_
  obtain ⟨v2, hv2, h⟩ := ob h
  refine c_gR X hP hv2 (Nat.le_of_ble_eq_true rfl) (Nat.le_of_ble_eq_true rfl) rfl w_571 dX11_markMove_8 ?_
  refine c_aload_n hx hb dX11_markMove_11 rfl (lv_at hl 1 rfl) ?_
  obtain ⟨v3, hv3, h⟩ := ob h
  obtain ⟨v4, hv4, h⟩ := ob h
  refine c_cr (c_runV X (K_X10_below l D Φ σ v3 (x1) hv4) hv3 ⟨Nat.le_of_ble_eq_true rfl, by decide⟩ ⟨w_822, ww_X10_below⟩ rfl hy_X10_below rfl ⟨(Nat.le_of_ble_eq_true rfl), (Nat.le_of_ble_eq_true rfl)⟩ hP hS hl.1 (Nat.le_of_ble_eq_true rfl) dX11_markMove_12 rfl ⟨(Nat.le_of_ble_eq_true rfl), (Nat.le_of_ble_eq_true rfl)⟩) ?_
  refine lv_ior hx hb dX11_markMove_15 ?_
  obtain ⟨v5, hv5, h⟩ := ob h
  obtain ⟨v6, hv6, h⟩ := ob h
  refine c_cw (c_runV X (K_X11_mark l D Φ σ v5 ((((1:Int32) <<< (v1 &&& 31)) ||| v4)) hv6) hv5 ⟨Nat.le_of_ble_eq_true rfl, by decide⟩ ⟨w_826, ww_X11_mark⟩ rfl hy_X11_mark rfl ⟨(Nat.le_of_ble_eq_true rfl), (Nat.le_of_ble_eq_true rfl)⟩ hP hS hl.1 (Nat.le_of_ble_eq_true rfl) dX11_markMove_16 rfl ⟨(Nat.le_of_ble_eq_true rfl), (Nat.le_of_ble_eq_true rfl)⟩) hS (fun H locs hP hS => ?_)
  refine W.eq (g2 := F0 m 19 ls []) rfl ?_
  refine c_aload_n hx hb dX11_markMove_19 rfl (lv_at hl 0 rfl) ?_
  obtain ⟨v7, hv7, h⟩ := ob h
  refine c_gR X hP hv7 (Nat.le_of_ble_eq_true rfl) (Nat.le_of_ble_eq_true rfl) rfl w_573 dX11_markMove_20 ?_
  obtain ⟨v8, hv8, h⟩ := ob h
  refine c_gI X hP hv8 (Nat.le_of_ble_eq_true rfl) (Nat.le_of_ble_eq_true rfl) rfl w_515 dX11_markMove_23 ?_
  refine lv_if_eq (tgt := 68) hx hb dX11_markMove_26 rfl (fun hc => ?_) (fun hc => ?_)
  · have h := ip hc h
    exact N_X11_markMove_68 X hP hS (lv_sub hl [0, 3, 4] rfl) h
  · have h := ine hc h
    refine c_aload_n hx hb dX11_markMove_29 rfl (lv_at hl 2 rfl) ?_
    refine c_astore hx hb dX11_markMove_30 hl (Nat.le_of_ble_eq_true rfl) (lvKa rfl (lvKa rfl (lvKa rfl (lvKa rfl (lvKr lvK0))))) rfl (fun ls (hl : lv_has ls 6 [(5, cv Φ x2), (0, cv Φ (some x0)), (1, cv Φ x1), (2, cv Φ x2), (3, cv Φ x3), (4, cv Φ x4)]) => ?_)
    exact N_X11_markMove_32 X hP hS (lv_sub hl [1, 4, 5, 0] rfl) h
theorem ww_X11_markMove : Cond.instanceMethod yX11_markMove ∈ BG ∧ Cond.selects (yX11_markMove).cls yX11_markMove yX11_markMove ∈ BG ∧ Cond.initialized (yX11_markMove).cls ∈ BG ∧ Cond.code yX11_markMove cX11_markMove 6 none ∈ BG := ⟨w_820, w_10, w_56, w_821⟩
theorem hy_X11_markMove : (yX11_markMove).cls ≠ "java/lang/invoke/MethodHandle" ∧ (yX11_markMove).cls ≠ "java/lang/invoke/VarHandle" ∧ (parseMethodDescriptor (yX11_markMove).desc).map (fun d => d.parameters.length) = some 4 := ⟨by decide, by decide, by decide +kernel⟩
def f_X11_isMember_13   (y0 : Int32)  : Option (Int32) := rz y0
def f_X11_isMember  (x0 : Int32) (x1 : Int32)  : Option (Int32) := if ((x0 >>> (x1 &&& 31)) &&& (1:Int32)) = (0:Int32) then (f_X11_isMember_13 ((0:Int32))) else (f_X11_isMember_13 ((1:Int32)))
set_option maxRecDepth 20000 in
set_option maxHeartbeats 4000000 in
theorem N_X11_isMember_13 {p : Program} {l : Launch} {e : Env} {s : State} {m : MethodId} {args : Array Value} {below : List Frame} {meth : Method} {c : Code} {D : cD} {Φ : cG}    {y0 : Int32} {σ : cS} {ls : Array Slot} {r : Int32} (X : cX p s m args meth c cX11_isMember 2 (some .boolean) RX11 D Φ) (hP : cP D Φ σ s.heap) (hS : va_S (cReg Φ) s.heap s.heap [])  (hl : lv_has ls 2 []) (h : f_X11_isMember_13   y0 = some r) : cWr p l e 0 0 s m args below meth c (some (.int r)) (F0 m 13 ls [.int y0]) := by
  have hx := X.1
  have hb := X.2.1
  have hown := X.2.2.2.1
  have hts := X.2.2.2.2.1
  have h : (rz y0) = some r := h
  obtain ⟨hz, rfl⟩ := rz_spec h
  exact c_rz X hz dX11_isMember_13
set_option maxRecDepth 20000 in
set_option maxHeartbeats 4000000 in
theorem K_X11_isMember (l : Launch) (D : cD) (Φ : cG) (σ : cS)  (x0 : Int32) (x1 : Int32) {r : Int32} (h : f_X11_isMember  x0 x1 = some r) : Met l yX11_isMember (Cond.code yX11_isMember cX11_isMember 2 (some .boolean) :: BG) (rA 0 0 0 0) (cPc D Φ σ [.int x0, .int x1]) (cQr (some (.int r))) 0 0 (fun _ => False) := by
  refine Met.ofW (cc := cX11_isMember) (maxL := 2) (ret := (some .boolean)) (by decide) rfl ?_
  intro p e s m args below meth c s₁ B hml hv
  obtain ⟨rfl, hP, hK, hZ⟩ := hv
  have X : cX p s m [.int x0, .int x1].toArray meth c cX11_isMember 2 (some .boolean) RX11 D Φ := cX_of B hml hK hZ
  have hx := X.1
  have hb := X.2.1
  have hown := X.2.2.2.1
  have hts := X.2.2.2.2.1
  have hl := lv_entry [.int x0, .int x1] (n := 2) (by simp only [lgs_r, lgs_i, lgs_l, lgs_0, List.length]; exact Nat.le_of_ble_eq_true rfl)
  rw [lg_entry_eq]
  generalize (lg_sl [.int x0, .int x1] ++ List.replicate (2 - (lg_sl [.int x0, .int x1]).length) Slot.unset).toArray = ls at hl ⊢
  simp only [lv_args_r, lv_args_i, lv_args_l, lv_args_0] at hl
  have hl : lv_has ls 2 [(0, .int x0), (1, .int x1)] := hl
  have hS : va_S (cReg Φ) s.heap s.heap [] := va_S.rf
  show cWr p l e 0 0 s m [.int x0, .int x1].toArray below meth c (some (.int r)) (F0 m 0 ls [])
  have h : (if ((x0 >>> (x1 &&& 31)) &&& (1:Int32)) = (0:Int32) then (f_X11_isMember_13 ((0:Int32))) else (f_X11_isMember_13 ((1:Int32)))) = some r := h
  refine lv_iload_n hx hb dX11_isMember_0 rfl (lv_at hl 0 rfl) ?_
  refine lv_iload_n hx hb dX11_isMember_1 rfl (lv_at hl 1 rfl) ?_
  refine lv_ishr hx hb dX11_isMember_2 ?_
  refine lv_iconst (v := (1:Int32)) hx hb dX11_isMember_3 (by decide) ?_
  refine lv_iand hx hb dX11_isMember_4 ?_
  refine lv_if_eq (tgt := 12) hx hb dX11_isMember_5 rfl (fun hc => ?_) (fun hc => ?_)
  · have h := ip hc h
    refine lv_iconst (v := (0:Int32)) hx hb dX11_isMember_12 (by decide) ?_
    exact N_X11_isMember_13 X hP hS (lv_sub hl [] rfl) h
  · have h := ine hc h
    refine lv_iconst (v := (1:Int32)) hx hb dX11_isMember_8 (by decide) ?_
    refine lv_goto (tgt := 13) hx hb dX11_isMember_9 rfl ?_
    exact N_X11_isMember_13 X hP hS (lv_sub hl [] rfl) h
theorem ww_X11_isMember : Cond.static yX11_isMember ∈ BG ∧ Cond.initialized (yX11_isMember).cls ∈ BG ∧ Cond.code yX11_isMember cX11_isMember 2 (some .boolean) ∈ BG := ⟨w_967, w_56, w_968⟩
theorem hy_X11_isMember : (yX11_isMember).cls ≠ "java/lang/invoke/MethodHandle" ∧ (yX11_isMember).cls ≠ "java/lang/invoke/VarHandle" ∧ (parseMethodDescriptor (yX11_isMember).desc).map (fun d => d.parameters.length) = some 2 := ⟨by decide, by decide, by decide +kernel⟩
def f_X11_markFeature_46  (x0 : Nat)  (σ : cS) : Option (cS) := some σ
def f_X11_markFeature_22  (x0 : Nat) (x1 : Option Nat) (x2 : Int32) (σ : cS) : Option (cS) := (gR σ (some x0) 11 2).bind (fun v1 => (gI σ v1 1 10).bind (fun v2 => if (v2 &&& x2) = (0:Int32) then (f_X11_markFeature_46 x0 σ) else ((gR σ (some x0) 11 0).bind (fun v3 => (rc σ v3 10).bind (fun v4 => (f_X10_around v4 (x1) σ).bind (fun v5 => (rc σ (some x0) 11).bind (fun v6 => (f_X11_mark v6 (v5) σ).bind (fun v7 => f_X11_markFeature_46 x0 v7))))))))
def f_X11_markFeature (x0 : Nat) (x1 : Option Nat) (x2 : Int32) (σ : cS) : Option (cS) := (gR σ (some x0) 11 2).bind (fun v1 => (gI σ v1 1 9).bind (fun v2 => if (v2 &&& x2) = (0:Int32) then (f_X11_markFeature_22 x0 (x1) (x2) σ) else ((gI σ x1 3 0).bind (fun v3 => (rc σ (some x0) 11).bind (fun v4 => (f_X11_mark v4 (((1:Int32) <<< (v3 &&& 31))) σ).bind (fun v5 => f_X11_markFeature_22 x0 (x1) (x2) v5))))))
set_option maxRecDepth 20000 in
set_option maxHeartbeats 4000000 in
theorem N_X11_markFeature_46 {p : Program} {l : Launch} {e : Env} {s : State} {m : MethodId} {args : Array Value} {below : List Frame} {meth : Method} {c : Code} {D : cD} {Φ : cG} {x0 : Nat}    {σ : cS} {H : Heap} {locs : List Loc} {ls : Array Slot} {q : cS} (X : cX p s m args meth c cX11_markFeature 3 none RX11 D Φ) (hP : cP D Φ σ H) (hS : va_S (cReg Φ) s.heap H locs)  (hl : lv_has ls 3 []) (h : f_X11_markFeature_46  x0  σ = some q) : cWw p l e 2 0 0 45 s m args below meth c D Φ q none H locs 0 0 (F0 m 46 ls []) := by
  have hx := X.1
  have hb := X.2.1
  have hown := X.2.2.2.1
  have hts := X.2.2.2.2.1
  have h : (some σ) = some q := h
  obtain rfl := sj h
  exact c_wv X hP hS (Nat.le_of_ble_eq_true rfl) (Nat.le_of_ble_eq_true rfl) dX11_markFeature_46
set_option maxRecDepth 20000 in
set_option maxHeartbeats 4000000 in
theorem N_X11_markFeature_22 {p : Program} {l : Launch} {e : Env} {s : State} {m : MethodId} {args : Array Value} {below : List Frame} {meth : Method} {c : Code} {D : cD} {Φ : cG} {x0 : Nat}   {x1 : Option Nat} {x2 : Int32} {σ : cS} {H : Heap} {locs : List Loc} {ls : Array Slot} {q : cS} (X : cX p s m args meth c cX11_markFeature 3 none RX11 D Φ) (hP : cP D Φ σ H) (hS : va_S (cReg Φ) s.heap H locs)  (hl : lv_has ls 3 [(0, cv Φ (some x0)), (1, cv Φ x1), (2, .int x2)]) (h : f_X11_markFeature_22  x0 x1 x2 σ = some q) : cWw p l e 2 0 0 45 s m args below meth c D Φ q none H locs 0 0 (F0 m 22 ls []) := by
  have hx := X.1
  have hb := X.2.1
  have hown := X.2.2.2.1
  have hts := X.2.2.2.2.1
  have h : ((gR σ (some x0) 11 2).bind (fun v1 => (gI σ v1 1 10).bind (fun v2 => if (v2 &&& x2) = (0:Int32) then (f_X11_markFeature_46 x0 σ) else ((gR σ (some x0) 11 0).bind (fun v3 => (rc σ v3 10).bind (fun v4 => (f_X10_around v4 (x1) σ).bind (fun v5 => (rc σ (some x0) 11).bind (fun v6 => (f_X11_mark v6 (v5) σ).bind (fun v7 => f_X11_markFeature_46 x0 v7))))))))) = some q := h
  refine c_aload_n hx hb dX11_markFeature_22 rfl (lv_at hl 0 rfl) ?_
  obtain ⟨v1, hv1, h⟩ := ob h
  refine c_gR X hP hv1 (Nat.le_of_ble_eq_true rfl) (Nat.le_of_ble_eq_true rfl) rfl w_573 dX11_markFeature_23 ?_
  obtain ⟨v2, hv2, h⟩ := ob h
  refine c_gI X hP hv2 (Nat.le_of_ble_eq_true rfl) (Nat.le_of_ble_eq_true rfl) rfl w_513 dX11_markFeature_26 ?_
  refine lv_iload_n hx hb dX11_markFeature_29 rfl (lv_at hl 2 rfl) ?_
  refine lv_iand hx hb dX11_markFeature_30 ?_
  refine lv_if_eq (tgt := 46) hx hb dX11_markFeature_31 rfl (fun hc => ?_) (fun hc => ?_)
  · have h := ip hc h
    exact N_X11_markFeature_46 X hP hS (lv_sub hl [] rfl) h
  · have h := ine hc h
    refine c_aload_n hx hb dX11_markFeature_34 rfl (lv_at hl 0 rfl) ?_
    refine c_aload_n hx hb dX11_markFeature_35 rfl (lv_at hl 0 rfl) ?_
    obtain ⟨v3, hv3, h⟩ := ob h
    refine c_gR X hP hv3 (Nat.le_of_ble_eq_true rfl) (Nat.le_of_ble_eq_true rfl) rfl w_571 dX11_markFeature_36 ?_
    refine c_aload_n hx hb dX11_markFeature_39 rfl (lv_at hl 1 rfl) ?_
    obtain ⟨v4, hv4, h⟩ := ob h
    obtain ⟨v5, hv5, h⟩ := ob h
    refine c_cr (c_runV X (K_X10_around l D Φ σ v4 (x1) hv5) hv4 ⟨Nat.le_of_ble_eq_true rfl, by decide⟩ ⟨w_1102, ww_X10_around⟩ rfl hy_X10_around rfl ⟨(Nat.le_of_ble_eq_true rfl), (Nat.le_of_ble_eq_true rfl)⟩ hP hS hl.1 (Nat.le_of_ble_eq_true rfl) dX11_markFeature_40 rfl ⟨(Nat.le_of_ble_eq_true rfl), (Nat.le_of_ble_eq_true rfl)⟩) ?_
    obtain ⟨v6, hv6, h⟩ := ob h
    obtain ⟨v7, hv7, h⟩ := ob h
    refine c_cw (c_runV X (K_X11_mark l D Φ σ v6 (v5) hv7) hv6 ⟨Nat.le_of_ble_eq_true rfl, by decide⟩ ⟨w_826, ww_X11_mark⟩ rfl hy_X11_mark rfl ⟨(Nat.le_of_ble_eq_true rfl), (Nat.le_of_ble_eq_true rfl)⟩ hP hS hl.1 (Nat.le_of_ble_eq_true rfl) dX11_markFeature_43 rfl ⟨(Nat.le_of_ble_eq_true rfl), (Nat.le_of_ble_eq_true rfl)⟩) hS (fun H locs hP hS => ?_)
    refine W.eq (g2 := F0 m 46 ls []) rfl ?_
    exact N_X11_markFeature_46 X hP hS (lv_sub hl [] rfl) h
set_option maxRecDepth 20000 in
set_option maxHeartbeats 4000000 in
theorem K_X11_markFeature (l : Launch) (D : cD) (Φ : cG) (σ : cS) (x0 : Nat) (x1 : Option Nat) (x2 : Int32) {q : cS} (h : f_X11_markFeature x0 x1 x2 σ = some q) : Met l yX11_markFeature (Cond.code yX11_markFeature cX11_markFeature 3 none :: BG) (rA 2 0 0 45) (cPc D Φ σ [cv Φ (some x0), cv Φ x1, .int x2]) (cQw D Φ q none) 0 0 (cReg Φ) := by
  refine Met.ofW (cc := cX11_markFeature) (maxL := 3) (ret := none) (by decide) rfl ?_
  intro p e s m args below meth c s₁ B hml hv
  obtain ⟨rfl, hP, hK, hZ⟩ := hv
  have X : cX p s m [cv Φ (some x0), cv Φ x1, .int x2].toArray meth c cX11_markFeature 3 none RX11 D Φ := cX_of B hml hK hZ
  have hx := X.1
  have hb := X.2.1
  have hown := X.2.2.2.1
  have hts := X.2.2.2.2.1
  have hl := lv_entry [cv Φ (some x0), cv Φ x1, .int x2] (n := 3) (by simp only [lgs_r, lgs_i, lgs_l, lgs_0, List.length]; exact Nat.le_of_ble_eq_true rfl)
  rw [lg_entry_eq]
  generalize (lg_sl [cv Φ (some x0), cv Φ x1, .int x2] ++ List.replicate (3 - (lg_sl [cv Φ (some x0), cv Φ x1, .int x2]).length) Slot.unset).toArray = ls at hl ⊢
  simp only [lv_args_r, lv_args_i, lv_args_l, lv_args_0] at hl
  have hl : lv_has ls 3 [(0, cv Φ (some x0)), (1, cv Φ x1), (2, .int x2)] := hl
  have hS : va_S (cReg Φ) s.heap s.heap [] := va_S.rf
  show cWw p l e 2 0 0 45 s m [cv Φ (some x0), cv Φ x1, .int x2].toArray below meth c D Φ q none s.heap [] 0 0 (F0 m 0 ls [])
  have h : ((gR σ (some x0) 11 2).bind (fun v1 => (gI σ v1 1 9).bind (fun v2 => if (v2 &&& x2) = (0:Int32) then (f_X11_markFeature_22 x0 (x1) (x2) σ) else ((gI σ x1 3 0).bind (fun v3 => (rc σ (some x0) 11).bind (fun v4 => (f_X11_mark v4 (((1:Int32) <<< (v3 &&& 31))) σ).bind (fun v5 => f_X11_markFeature_22 x0 (x1) (x2) v5))))))) = some q := h
  refine c_aload_n hx hb dX11_markFeature_0 rfl (lv_at hl 0 rfl) ?_
  obtain ⟨v1, hv1, h⟩ := ob h
  refine c_gR X hP hv1 (Nat.le_of_ble_eq_true rfl) (Nat.le_of_ble_eq_true rfl) rfl w_573 dX11_markFeature_1 ?_
  obtain ⟨v2, hv2, h⟩ := ob h
  refine c_gI X hP hv2 (Nat.le_of_ble_eq_true rfl) (Nat.le_of_ble_eq_true rfl) rfl w_511 dX11_markFeature_4 ?_
  refine lv_iload_n hx hb dX11_markFeature_7 rfl (lv_at hl 2 rfl) ?_
  refine lv_iand hx hb dX11_markFeature_8 ?_
  refine lv_if_eq (tgt := 22) hx hb dX11_markFeature_9 rfl (fun hc => ?_) (fun hc => ?_)
  · have h := ip hc h
    exact N_X11_markFeature_22 X hP hS (lv_sub hl [0, 1, 2] rfl) h
  · have h := ine hc h
    refine c_aload_n hx hb dX11_markFeature_12 rfl (lv_at hl 0 rfl) ?_
    refine lv_iconst (v := (1:Int32)) hx hb dX11_markFeature_13 (by decide) ?_
    refine c_aload_n hx hb dX11_markFeature_14 rfl (lv_at hl 1 rfl) ?_
    obtain ⟨v3, hv3, h⟩ := ob h
    refine c_gI X hP hv3 (Nat.le_of_ble_eq_true rfl) (Nat.le_of_ble_eq_true rfl) rfl w_227 dX11_markFeature_15 ?_
    refine lv_ishl hx hb dX11_markFeature_18 ?_
    obtain ⟨v4, hv4, h⟩ := ob h
    obtain ⟨v5, hv5, h⟩ := ob h
    refine c_cw (c_runV X (K_X11_mark l D Φ σ v4 (((1:Int32) <<< (v3 &&& 31))) hv5) hv4 ⟨Nat.le_of_ble_eq_true rfl, by decide⟩ ⟨w_826, ww_X11_mark⟩ rfl hy_X11_mark rfl ⟨(Nat.le_of_ble_eq_true rfl), (Nat.le_of_ble_eq_true rfl)⟩ hP hS hl.1 (Nat.le_of_ble_eq_true rfl) dX11_markFeature_19 rfl ⟨(Nat.le_of_ble_eq_true rfl), (Nat.le_of_ble_eq_true rfl)⟩) hS (fun H locs hP hS => ?_)
    refine W.eq (g2 := F0 m 22 ls []) rfl ?_
    exact N_X11_markFeature_22 X hP hS (lv_sub hl [0, 1, 2] rfl) h
theorem ww_X11_markFeature : Cond.instanceMethod yX11_markFeature ∈ BG ∧ Cond.selects (yX11_markFeature).cls yX11_markFeature yX11_markFeature ∈ BG ∧ Cond.initialized (yX11_markFeature).cls ∈ BG ∧ Cond.code yX11_markFeature cX11_markFeature 3 none ∈ BG := ⟨w_1100, w_47, w_56, w_1101⟩
theorem hy_X11_markFeature : (yX11_markFeature).cls ≠ "java/lang/invoke/MethodHandle" ∧ (yX11_markFeature).cls ≠ "java/lang/invoke/VarHandle" ∧ (parseMethodDescriptor (yX11_markFeature).desc).map (fun d => d.parameters.length) = some 2 := ⟨by decide, by decide, by decide +kernel⟩
def f_X11_giveClass_26  (x0 : Nat) (x1 : Option Nat) (x2 : Int32) (y0 : Option Nat) (y1 : Int32) (σ : cS) : Option (cS) := (pI σ y0 3 2 y1).bind (fun v1 => (gR v1 (some x0) 11 0).bind (fun v2 => (gI v1 v2 10 3).bind (fun v3 => (pI v1 v2 10 3 (v3 + (1:Int32))).bind (fun v4 => (f_X7_feature ((1:Int32)) (x2)).bind (fun v5 => (rc v4 (some x0) 11).bind (fun v6 => (f_X11_markFeature v6 (x1) (v5) v4).bind (fun v7 => some v7)))))))
def f_X11_giveClass (x0 : Nat) (x1 : Option Nat) (x2 : Int32) (x3 : Int32) (σ : cS) : Option (cS) := if x3 = (0:Int32) then ((gI σ x1 3 2).bind (fun v1 => f_X11_giveClass_26 x0 (x1) (x2) (x1) ((v1 &&& (((1:Int32) <<< (x2 &&& 31)) ^^^ ((-1):Int32)))) σ)) else ((gI σ x1 3 2).bind (fun v2 => f_X11_giveClass_26 x0 (x1) (x2) (x1) ((v2 ||| ((1:Int32) <<< (x2 &&& 31)))) σ))
set_option maxRecDepth 20000 in
set_option maxHeartbeats 4000000 in
theorem N_X11_giveClass_26 {p : Program} {l : Launch} {e : Env} {s : State} {m : MethodId} {args : Array Value} {below : List Frame} {meth : Method} {c : Code} {D : cD} {Φ : cG} {x0 : Nat}   {x1 : Option Nat} {x2 : Int32} {y0 : Option Nat} {y1 : Int32} {σ : cS} {H : Heap} {locs : List Loc} {ls : Array Slot} {q : cS} (X : cX p s m args meth c cX11_giveClass 4 none RX11 D Φ) (hP : cP D Φ σ H) (hS : va_S (cReg Φ) s.heap H locs)  (hl : lv_has ls 4 [(0, cv Φ (some x0)), (1, cv Φ x1), (2, .int x2)]) (h : f_X11_giveClass_26  x0 x1 x2 y0 y1 σ = some q) : cWw p l e 3 0 0 67 s m args below meth c D Φ q none H locs 0 0 (F0 m 26 ls [.int y1, cv Φ y0]) := by
  have hx := X.1
  have hb := X.2.1
  have hown := X.2.2.2.1
  have hts := X.2.2.2.2.1
  have h : ((pI σ y0 3 2 y1).bind (fun v1 => (gR v1 (some x0) 11 0).bind (fun v2 => (gI v1 v2 10 3).bind (fun v3 => (pI v1 v2 10 3 (v3 + (1:Int32))).bind (fun v4 => (f_X7_feature ((1:Int32)) (x2)).bind (fun v5 => (rc v4 (some x0) 11).bind (fun v6 => (f_X11_markFeature v6 (x1) (v5) v4).bind (fun v7 => some v7)))))))) = some q := h
  obtain ⟨v1, hv1, h⟩ := ob h
  refine c_pI X hP hS hv1 (Nat.le_of_ble_eq_true rfl) (Nat.le_of_ble_eq_true rfl) rfl rfl (Or.inl rfl) w_233 dX11_giveClass_26 (fun H locs hP hS => ?_)
  refine c_aload_n hx hb dX11_giveClass_29 rfl (lv_at hl 0 rfl) ?_
  obtain ⟨v2, hv2, h⟩ := ob h
  refine c_gR X hP hv2 (Nat.le_of_ble_eq_true rfl) (Nat.le_of_ble_eq_true rfl) rfl w_571 dX11_giveClass_30 ?_
  refine c_dupq hx hb dX11_giveClass_33 ?_
  obtain ⟨v3, hv3, h⟩ := ob h
  refine c_gI X hP hv3 (Nat.le_of_ble_eq_true rfl) (Nat.le_of_ble_eq_true rfl) rfl w_334 dX11_giveClass_34 ?_
  refine lv_iconst (v := (1:Int32)) hx hb dX11_giveClass_37 (by decide) ?_
  refine lv_iadd hx hb dX11_giveClass_38 ?_
  obtain ⟨v4, hv4, h⟩ := ob h
  refine c_pI X hP hS hv4 (Nat.le_of_ble_eq_true rfl) (Nat.le_of_ble_eq_true rfl) rfl rfl (Or.inl rfl) w_334 dX11_giveClass_39 (fun H locs hP hS => ?_)
  refine c_aload_n hx hb dX11_giveClass_42 rfl (lv_at hl 0 rfl) ?_
  refine c_aload_n hx hb dX11_giveClass_43 rfl (lv_at hl 1 rfl) ?_
  refine lv_iconst (v := (1:Int32)) hx hb dX11_giveClass_44 (by decide) ?_
  refine lv_iload_n hx hb dX11_giveClass_45 rfl (lv_at hl 2 rfl) ?_
  obtain ⟨v5, hv5, h⟩ := ob h
  refine c_cr (c_runS X (K_X7_feature l D Φ v4 ((1:Int32)) (x2) hv5) ⟨w_1097, ww_X7_feature⟩ hy_X7_feature rfl ⟨(Nat.le_of_ble_eq_true rfl), (Nat.le_of_ble_eq_true rfl)⟩ hP hS hl.1 (Nat.le_of_ble_eq_true rfl) dX11_giveClass_46 rfl ⟨(Nat.le_of_ble_eq_true rfl), (Nat.le_of_ble_eq_true rfl)⟩) ?_
  obtain ⟨v6, hv6, h⟩ := ob h
  obtain ⟨v7, hv7, h⟩ := ob h
  refine c_cw (c_runV X (K_X11_markFeature l D Φ v4 v6 (x1) (v5) hv7) hv6 ⟨Nat.le_of_ble_eq_true rfl, by decide⟩ ⟨w_1098, ww_X11_markFeature⟩ rfl hy_X11_markFeature rfl ⟨(Nat.le_of_ble_eq_true rfl), (Nat.le_of_ble_eq_true rfl)⟩ hP hS hl.1 (Nat.le_of_ble_eq_true rfl) dX11_giveClass_49 rfl ⟨(Nat.le_of_ble_eq_true rfl), (Nat.le_of_ble_eq_true rfl)⟩) hS (fun H locs hP hS => ?_)
  refine W.eq (g2 := F0 m 52 ls []) rfl ?_
  obtain rfl := sj h
  exact c_wv X hP hS (Nat.le_of_ble_eq_true rfl) (Nat.le_of_ble_eq_true rfl) dX11_giveClass_52
set_option maxRecDepth 20000 in
set_option maxHeartbeats 4000000 in
theorem K_X11_giveClass (l : Launch) (D : cD) (Φ : cG) (σ : cS) (x0 : Nat) (x1 : Option Nat) (x2 : Int32) (x3 : Int32) {q : cS} (h : f_X11_giveClass x0 x1 x2 x3 σ = some q) : Met l yX11_giveClass (Cond.code yX11_giveClass cX11_giveClass 4 none :: BG) (rA 3 0 0 67) (cPc D Φ σ [cv Φ (some x0), cv Φ x1, .int x2, .int x3]) (cQw D Φ q none) 0 0 (cReg Φ) := by
  refine Met.ofW (cc := cX11_giveClass) (maxL := 4) (ret := none) (by decide) rfl ?_
  intro p e s m args below meth c s₁ B hml hv
  obtain ⟨rfl, hP, hK, hZ⟩ := hv
  have X : cX p s m [cv Φ (some x0), cv Φ x1, .int x2, .int x3].toArray meth c cX11_giveClass 4 none RX11 D Φ := cX_of B hml hK hZ
  have hx := X.1
  have hb := X.2.1
  have hown := X.2.2.2.1
  have hts := X.2.2.2.2.1
  have hl := lv_entry [cv Φ (some x0), cv Φ x1, .int x2, .int x3] (n := 4) (by simp only [lgs_r, lgs_i, lgs_l, lgs_0, List.length]; exact Nat.le_of_ble_eq_true rfl)
  rw [lg_entry_eq]
  generalize (lg_sl [cv Φ (some x0), cv Φ x1, .int x2, .int x3] ++ List.replicate (4 - (lg_sl [cv Φ (some x0), cv Φ x1, .int x2, .int x3]).length) Slot.unset).toArray = ls at hl ⊢
  simp only [lv_args_r, lv_args_i, lv_args_l, lv_args_0] at hl
  have hl : lv_has ls 4 [(0, cv Φ (some x0)), (1, cv Φ x1), (2, .int x2), (3, .int x3)] := hl
  have hS : va_S (cReg Φ) s.heap s.heap [] := va_S.rf
  show cWw p l e 3 0 0 67 s m [cv Φ (some x0), cv Φ x1, .int x2, .int x3].toArray below meth c D Φ q none s.heap [] 0 0 (F0 m 0 ls [])
  have h : (if x3 = (0:Int32) then ((gI σ x1 3 2).bind (fun v1 => f_X11_giveClass_26 x0 (x1) (x2) (x1) ((v1 &&& (((1:Int32) <<< (x2 &&& 31)) ^^^ ((-1):Int32)))) σ)) else ((gI σ x1 3 2).bind (fun v2 => f_X11_giveClass_26 x0 (x1) (x2) (x1) ((v2 ||| ((1:Int32) <<< (x2 &&& 31)))) σ))) = some q := h
  refine c_aload_n hx hb dX11_giveClass_0 rfl (lv_at hl 1 rfl) ?_
  refine lv_iload_n hx hb dX11_giveClass_1 rfl (lv_at hl 3 rfl) ?_
  refine lv_if_eq (tgt := 16) hx hb dX11_giveClass_2 rfl (fun hc => ?_) (fun hc => ?_)
  · have h := ip hc h
    refine c_aload_n hx hb dX11_giveClass_16 rfl (lv_at hl 1 rfl) ?_
    obtain ⟨v1, hv1, h⟩ := ob h
    refine c_gI X hP hv1 (Nat.le_of_ble_eq_true rfl) (Nat.le_of_ble_eq_true rfl) rfl w_233 dX11_giveClass_17 ?_
    refine lv_iconst (v := (1:Int32)) hx hb dX11_giveClass_20 (by decide) ?_
    refine lv_iload_n hx hb dX11_giveClass_21 rfl (lv_at hl 2 rfl) ?_
    refine lv_ishl hx hb dX11_giveClass_22 ?_
    refine lv_iconst (v := ((-1):Int32)) hx hb dX11_giveClass_23 (by decide) ?_
    refine lv_ixor hx hb dX11_giveClass_24 ?_
    refine lv_iand hx hb dX11_giveClass_25 ?_
    exact N_X11_giveClass_26 X hP hS (lv_sub hl [0, 1, 2] rfl) h
  · have h := ine hc h
    refine c_aload_n hx hb dX11_giveClass_5 rfl (lv_at hl 1 rfl) ?_
    obtain ⟨v2, hv2, h⟩ := ob h
    refine c_gI X hP hv2 (Nat.le_of_ble_eq_true rfl) (Nat.le_of_ble_eq_true rfl) rfl w_233 dX11_giveClass_6 ?_
    refine lv_iconst (v := (1:Int32)) hx hb dX11_giveClass_9 (by decide) ?_
    refine lv_iload_n hx hb dX11_giveClass_10 rfl (lv_at hl 2 rfl) ?_
    refine lv_ishl hx hb dX11_giveClass_11 ?_
    refine lv_ior hx hb dX11_giveClass_12 ?_
    refine lv_goto (tgt := 26) hx hb dX11_giveClass_13 rfl ?_
    exact N_X11_giveClass_26 X hP hS (lv_sub hl [0, 1, 2] rfl) h
theorem ww_X11_giveClass : Cond.instanceMethod yX11_giveClass ∈ BG ∧ Cond.selects (yX11_giveClass).cls yX11_giveClass yX11_giveClass ∈ BG ∧ Cond.initialized (yX11_giveClass).cls ∈ BG ∧ Cond.code yX11_giveClass cX11_giveClass 4 none ∈ BG := ⟨w_1095, w_46, w_56, w_1096⟩
theorem hy_X11_giveClass : (yX11_giveClass).cls ≠ "java/lang/invoke/MethodHandle" ∧ (yX11_giveClass).cls ≠ "java/lang/invoke/VarHandle" ∧ (parseMethodDescriptor (yX11_giveClass).desc).map (fun d => d.parameters.length) = some 3 := ⟨by decide, by decide, by decide +kernel⟩
def f_X11_suitsTest_163   (y0 : Int32)  : Option (Int32) := rz y0
def f_X11_suitsTest_158     : Option (Int32) := f_X11_suitsTest_163 ((1:Int32))
def f_X11_suitsTest_104   (y0 : Int32)  : Option (Int32) := rz y0
def f_X11_suitsTest_103     : Option (Int32) := f_X11_suitsTest_104 ((0:Int32))
def f_X11_suitsTest_134   (y0 : Int32)  : Option (Int32) := rz y0
def f_X11_suitsTest_133     : Option (Int32) := f_X11_suitsTest_134 ((0:Int32))
def f_X11_suitsTest  (x0 : Int32) (x1 : Int32) (x2 : Int32)  : Option (Int32) := if x0 = (0:Int32) then ((f_X11_isBelow (x1) ((8:Int32))).bind (fun v1 => rz v1)) else (if x0 = (1:Int32) then ((f_X11_isBelow (x1) ((8:Int32))).bind (fun v2 => rz v2)) else (if x0 = (2:Int32) then ((f_X11_isBelow (x1) ((4:Int32))).bind (fun v3 => rz v3)) else (if x0 = (3:Int32) then ((f_X11_isBelow (x1) ((2:Int32))).bind (fun v4 => if v4 = (0:Int32) then (f_X11_suitsTest_103) else ((f_X11_isBelow (x2) ((10:Int32))).bind (fun v5 => if v5 = (0:Int32) then (f_X11_suitsTest_103) else (f_X11_suitsTest_104 ((1:Int32))))))) else (if x0 = (4:Int32) then (if x1 < ((-9):Int32) then (f_X11_suitsTest_133) else (if (9:Int32) < x1 then (f_X11_suitsTest_133) else (if x2 < ((-9):Int32) then (f_X11_suitsTest_133) else (if (9:Int32) < x2 then (f_X11_suitsTest_133) else (f_X11_suitsTest_134 ((1:Int32))))))) else (if x0 = (5:Int32) then (if x0 = (5:Int32) then (f_X11_suitsTest_158) else (if x0 = (6:Int32) then (f_X11_suitsTest_158) else (if x0 = (8:Int32) then (f_X11_suitsTest_158) else (f_X11_suitsTest_163 ((0:Int32)))))) else (if x0 = (6:Int32) then (if x0 = (5:Int32) then (f_X11_suitsTest_158) else (if x0 = (6:Int32) then (f_X11_suitsTest_158) else (if x0 = (8:Int32) then (f_X11_suitsTest_158) else (f_X11_suitsTest_163 ((0:Int32)))))) else (if x0 = (7:Int32) then ((f_X11_isBelow (x1) ((4:Int32))).bind (fun v6 => rz v6)) else (if x0 = (8:Int32) then (if x0 = (5:Int32) then (f_X11_suitsTest_158) else (if x0 = (6:Int32) then (f_X11_suitsTest_158) else (if x0 = (8:Int32) then (f_X11_suitsTest_158) else (f_X11_suitsTest_163 ((0:Int32)))))) else (if x0 = (9:Int32) then ((f_X11_isBelow (x1) ((4:Int32))).bind (fun v7 => rz v7)) else (if x0 = (5:Int32) then (f_X11_suitsTest_158) else (if x0 = (6:Int32) then (f_X11_suitsTest_158) else (if x0 = (8:Int32) then (f_X11_suitsTest_158) else (f_X11_suitsTest_163 ((0:Int32)))))))))))))))
set_option maxRecDepth 20000 in
set_option maxHeartbeats 4000000 in
theorem N_X11_suitsTest_163 {p : Program} {l : Launch} {e : Env} {s : State} {m : MethodId} {args : Array Value} {below : List Frame} {meth : Method} {c : Code} {D : cD} {Φ : cG}    {y0 : Int32} {σ : cS} {ls : Array Slot} {r : Int32} (X : cX p s m args meth c cX11_suitsTest 3 (some .boolean) RX11 D Φ) (hP : cP D Φ σ s.heap) (hS : va_S (cReg Φ) s.heap s.heap [])  (hl : lv_has ls 3 []) (h : f_X11_suitsTest_163   y0 = some r) : cWr p l e 1 21 s m args below meth c (some (.int r)) (F0 m 163 ls [.int y0]) := by
  have hx := X.1
  have hb := X.2.1
  have hown := X.2.2.2.1
  have hts := X.2.2.2.2.1
  have h : (rz y0) = some r := h
  obtain ⟨hz, rfl⟩ := rz_spec h
  exact c_rz X hz dX11_suitsTest_163
set_option maxRecDepth 20000 in
set_option maxHeartbeats 4000000 in
theorem N_X11_suitsTest_158 {p : Program} {l : Launch} {e : Env} {s : State} {m : MethodId} {args : Array Value} {below : List Frame} {meth : Method} {c : Code} {D : cD} {Φ : cG}     {σ : cS} {ls : Array Slot} {r : Int32} (X : cX p s m args meth c cX11_suitsTest 3 (some .boolean) RX11 D Φ) (hP : cP D Φ σ s.heap) (hS : va_S (cReg Φ) s.heap s.heap [])  (hl : lv_has ls 3 []) (h : f_X11_suitsTest_158    = some r) : cWr p l e 1 21 s m args below meth c (some (.int r)) (F0 m 158 ls []) := by
  have hx := X.1
  have hb := X.2.1
  have hown := X.2.2.2.1
  have hts := X.2.2.2.2.1
  have h : (f_X11_suitsTest_163 ((1:Int32))) = some r := h
  refine lv_iconst (v := (1:Int32)) hx hb dX11_suitsTest_158 (by decide) ?_
  refine lv_goto (tgt := 163) hx hb dX11_suitsTest_159 rfl ?_
  exact N_X11_suitsTest_163 X hP hS (lv_sub hl [] rfl) h
set_option maxRecDepth 20000 in
set_option maxHeartbeats 4000000 in
theorem N_X11_suitsTest_104 {p : Program} {l : Launch} {e : Env} {s : State} {m : MethodId} {args : Array Value} {below : List Frame} {meth : Method} {c : Code} {D : cD} {Φ : cG}    {y0 : Int32} {σ : cS} {ls : Array Slot} {r : Int32} (X : cX p s m args meth c cX11_suitsTest 3 (some .boolean) RX11 D Φ) (hP : cP D Φ σ s.heap) (hS : va_S (cReg Φ) s.heap s.heap [])  (hl : lv_has ls 3 []) (h : f_X11_suitsTest_104   y0 = some r) : cWr p l e 1 21 s m args below meth c (some (.int r)) (F0 m 104 ls [.int y0]) := by
  have hx := X.1
  have hb := X.2.1
  have hown := X.2.2.2.1
  have hts := X.2.2.2.2.1
  have h : (rz y0) = some r := h
  obtain ⟨hz, rfl⟩ := rz_spec h
  exact c_rz X hz dX11_suitsTest_104
set_option maxRecDepth 20000 in
set_option maxHeartbeats 4000000 in
theorem N_X11_suitsTest_103 {p : Program} {l : Launch} {e : Env} {s : State} {m : MethodId} {args : Array Value} {below : List Frame} {meth : Method} {c : Code} {D : cD} {Φ : cG}     {σ : cS} {ls : Array Slot} {r : Int32} (X : cX p s m args meth c cX11_suitsTest 3 (some .boolean) RX11 D Φ) (hP : cP D Φ σ s.heap) (hS : va_S (cReg Φ) s.heap s.heap [])  (hl : lv_has ls 3 []) (h : f_X11_suitsTest_103    = some r) : cWr p l e 1 21 s m args below meth c (some (.int r)) (F0 m 103 ls []) := by
  have hx := X.1
  have hb := X.2.1
  have hown := X.2.2.2.1
  have hts := X.2.2.2.2.1
  have h : (f_X11_suitsTest_104 ((0:Int32))) = some r := h
  refine lv_iconst (v := (0:Int32)) hx hb dX11_suitsTest_103 (by decide) ?_
  exact N_X11_suitsTest_104 X hP hS (lv_sub hl [] rfl) h
set_option maxRecDepth 20000 in
set_option maxHeartbeats 4000000 in
theorem N_X11_suitsTest_134 {p : Program} {l : Launch} {e : Env} {s : State} {m : MethodId} {args : Array Value} {below : List Frame} {meth : Method} {c : Code} {D : cD} {Φ : cG}    {y0 : Int32} {σ : cS} {ls : Array Slot} {r : Int32} (X : cX p s m args meth c cX11_suitsTest 3 (some .boolean) RX11 D Φ) (hP : cP D Φ σ s.heap) (hS : va_S (cReg Φ) s.heap s.heap [])  (hl : lv_has ls 3 []) (h : f_X11_suitsTest_134   y0 = some r) : cWr p l e 1 21 s m args below meth c (some (.int r)) (F0 m 134 ls [.int y0]) := by
  have hx := X.1
  have hb := X.2.1
  have hown := X.2.2.2.1
  have hts := X.2.2.2.2.1
  have h : (rz y0) = some r := h
  obtain ⟨hz, rfl⟩ := rz_spec h
  exact c_rz X hz dX11_suitsTest_134
set_option maxRecDepth 20000 in
set_option maxHeartbeats 4000000 in
theorem N_X11_suitsTest_133 {p : Program} {l : Launch} {e : Env} {s : State} {m : MethodId} {args : Array Value} {below : List Frame} {meth : Method} {c : Code} {D : cD} {Φ : cG}     {σ : cS} {ls : Array Slot} {r : Int32} (X : cX p s m args meth c cX11_suitsTest 3 (some .boolean) RX11 D Φ) (hP : cP D Φ σ s.heap) (hS : va_S (cReg Φ) s.heap s.heap [])  (hl : lv_has ls 3 []) (h : f_X11_suitsTest_133    = some r) : cWr p l e 1 21 s m args below meth c (some (.int r)) (F0 m 133 ls []) := by
  have hx := X.1
  have hb := X.2.1
  have hown := X.2.2.2.1
  have hts := X.2.2.2.2.1
  have h : (f_X11_suitsTest_134 ((0:Int32))) = some r := h
  refine lv_iconst (v := (0:Int32)) hx hb dX11_suitsTest_133 (by decide) ?_
  exact N_X11_suitsTest_134 X hP hS (lv_sub hl [] rfl) h
set_option maxRecDepth 20000 in
set_option maxHeartbeats 4000000 in
theorem K_X11_suitsTest (l : Launch) (D : cD) (Φ : cG) (σ : cS)  (x0 : Int32) (x1 : Int32) (x2 : Int32) {r : Int32} (h : f_X11_suitsTest  x0 x1 x2 = some r) : Met l yX11_suitsTest (Cond.code yX11_suitsTest cX11_suitsTest 3 (some .boolean) :: BG) (rA 1 0 0 21) (cPc D Φ σ [.int x0, .int x1, .int x2]) (cQr (some (.int r))) 0 0 (fun _ => False) := by
  refine Met.ofW (cc := cX11_suitsTest) (maxL := 3) (ret := (some .boolean)) (by decide) rfl ?_
  intro p e s m args below meth c s₁ B hml hv
  obtain ⟨rfl, hP, hK, hZ⟩ := hv
  have X : cX p s m [.int x0, .int x1, .int x2].toArray meth c cX11_suitsTest 3 (some .boolean) RX11 D Φ := cX_of B hml hK hZ
  have hx := X.1
  have hb := X.2.1
  have hown := X.2.2.2.1
  have hts := X.2.2.2.2.1
  have hl := lv_entry [.int x0, .int x1, .int x2] (n := 3) (by simp only [lgs_r, lgs_i, lgs_l, lgs_0, List.length]; exact Nat.le_of_ble_eq_true rfl)
  rw [lg_entry_eq]
  generalize (lg_sl [.int x0, .int x1, .int x2] ++ List.replicate (3 - (lg_sl [.int x0, .int x1, .int x2]).length) Slot.unset).toArray = ls at hl ⊢
  simp only [lv_args_r, lv_args_i, lv_args_l, lv_args_0] at hl
  have hl : lv_has ls 3 [(0, .int x0), (1, .int x1), (2, .int x2)] := hl
  have hS : va_S (cReg Φ) s.heap s.heap [] := va_S.rf
  show cWr p l e 1 21 s m [.int x0, .int x1, .int x2].toArray below meth c (some (.int r)) (F0 m 0 ls [])
  have h : (if x0 = (0:Int32) then ((f_X11_isBelow (x1) ((8:Int32))).bind (fun v1 => rz v1)) else (if x0 = (1:Int32) then ((f_X11_isBelow (x1) ((8:Int32))).bind (fun v2 => rz v2)) else (if x0 = (2:Int32) then ((f_X11_isBelow (x1) ((4:Int32))).bind (fun v3 => rz v3)) else (if x0 = (3:Int32) then ((f_X11_isBelow (x1) ((2:Int32))).bind (fun v4 => if v4 = (0:Int32) then (f_X11_suitsTest_103) else ((f_X11_isBelow (x2) ((10:Int32))).bind (fun v5 => if v5 = (0:Int32) then (f_X11_suitsTest_103) else (f_X11_suitsTest_104 ((1:Int32))))))) else (if x0 = (4:Int32) then (if x1 < ((-9):Int32) then (f_X11_suitsTest_133) else (if (9:Int32) < x1 then (f_X11_suitsTest_133) else (if x2 < ((-9):Int32) then (f_X11_suitsTest_133) else (if (9:Int32) < x2 then (f_X11_suitsTest_133) else (f_X11_suitsTest_134 ((1:Int32))))))) else (if x0 = (5:Int32) then (if x0 = (5:Int32) then (f_X11_suitsTest_158) else (if x0 = (6:Int32) then (f_X11_suitsTest_158) else (if x0 = (8:Int32) then (f_X11_suitsTest_158) else (f_X11_suitsTest_163 ((0:Int32)))))) else (if x0 = (6:Int32) then (if x0 = (5:Int32) then (f_X11_suitsTest_158) else (if x0 = (6:Int32) then (f_X11_suitsTest_158) else (if x0 = (8:Int32) then (f_X11_suitsTest_158) else (f_X11_suitsTest_163 ((0:Int32)))))) else (if x0 = (7:Int32) then ((f_X11_isBelow (x1) ((4:Int32))).bind (fun v6 => rz v6)) else (if x0 = (8:Int32) then (if x0 = (5:Int32) then (f_X11_suitsTest_158) else (if x0 = (6:Int32) then (f_X11_suitsTest_158) else (if x0 = (8:Int32) then (f_X11_suitsTest_158) else (f_X11_suitsTest_163 ((0:Int32)))))) else (if x0 = (9:Int32) then ((f_X11_isBelow (x1) ((4:Int32))).bind (fun v7 => rz v7)) else (if x0 = (5:Int32) then (f_X11_suitsTest_158) else (if x0 = (6:Int32) then (f_X11_suitsTest_158) else (if x0 = (8:Int32) then (f_X11_suitsTest_158) else (f_X11_suitsTest_163 ((0:Int32)))))))))))))))) = some r := h
  refine lv_iload_n hx hb dX11_suitsTest_0 rfl (lv_at hl 0 rfl) ?_
  by_cases hc0 : x0 = (0:Int32)
  · have h := ip hc0 h
    refine lv_tableIn (tgt := 56) (off := 55) hx hb dX11_suitsTest_1 (by rw [hc0]; decide) (by rw [hc0]; decide) (by rw [hc0]; rfl) rfl ?_
    refine lv_iload_n hx hb dX11_suitsTest_56 rfl (lv_at hl 1 rfl) ?_
    refine lv_bipush (v := (8:Int32)) hx hb dX11_suitsTest_57 (by decide) ?_
    obtain ⟨v1, hv1, h⟩ := ob h
    refine c_cr (c_runS X (K_X11_isBelow l D Φ σ (x1) ((8:Int32)) hv1) ⟨w_635, ww_X11_isBelow⟩ hy_X11_isBelow rfl ⟨(Nat.le_of_ble_eq_true rfl), (Nat.le_of_ble_eq_true rfl)⟩ hP hS hl.1 (Nat.le_of_ble_eq_true rfl) dX11_suitsTest_59 rfl ⟨(Nat.le_of_ble_eq_true rfl), (Nat.le_of_ble_eq_true rfl)⟩) ?_
    obtain ⟨hz, rfl⟩ := rz_spec h
    exact c_rz X hz dX11_suitsTest_62
  · have h := ine hc0 h
    by_cases hc1 : x0 = (1:Int32)
    · have h := ip hc1 h
      refine lv_tableIn (tgt := 63) (off := 62) hx hb dX11_suitsTest_1 (by rw [hc1]; decide) (by rw [hc1]; decide) (by rw [hc1]; rfl) rfl ?_
      refine lv_iload_n hx hb dX11_suitsTest_63 rfl (lv_at hl 1 rfl) ?_
      refine lv_bipush (v := (8:Int32)) hx hb dX11_suitsTest_64 (by decide) ?_
      obtain ⟨v2, hv2, h⟩ := ob h
      refine c_cr (c_runS X (K_X11_isBelow l D Φ σ (x1) ((8:Int32)) hv2) ⟨w_635, ww_X11_isBelow⟩ hy_X11_isBelow rfl ⟨(Nat.le_of_ble_eq_true rfl), (Nat.le_of_ble_eq_true rfl)⟩ hP hS hl.1 (Nat.le_of_ble_eq_true rfl) dX11_suitsTest_66 rfl ⟨(Nat.le_of_ble_eq_true rfl), (Nat.le_of_ble_eq_true rfl)⟩) ?_
      obtain ⟨hz, rfl⟩ := rz_spec h
      exact c_rz X hz dX11_suitsTest_69
    · have h := ine hc1 h
      by_cases hc2 : x0 = (2:Int32)
      · have h := ip hc2 h
        refine lv_tableIn (tgt := 70) (off := 69) hx hb dX11_suitsTest_1 (by rw [hc2]; decide) (by rw [hc2]; decide) (by rw [hc2]; rfl) rfl ?_
        refine lv_iload_n hx hb dX11_suitsTest_70 rfl (lv_at hl 1 rfl) ?_
        refine lv_iconst (v := (4:Int32)) hx hb dX11_suitsTest_71 (by decide) ?_
        obtain ⟨v3, hv3, h⟩ := ob h
        refine c_cr (c_runS X (K_X11_isBelow l D Φ σ (x1) ((4:Int32)) hv3) ⟨w_635, ww_X11_isBelow⟩ hy_X11_isBelow rfl ⟨(Nat.le_of_ble_eq_true rfl), (Nat.le_of_ble_eq_true rfl)⟩ hP hS hl.1 (Nat.le_of_ble_eq_true rfl) dX11_suitsTest_72 rfl ⟨(Nat.le_of_ble_eq_true rfl), (Nat.le_of_ble_eq_true rfl)⟩) ?_
        obtain ⟨hz, rfl⟩ := rz_spec h
        exact c_rz X hz dX11_suitsTest_75
      · have h := ine hc2 h
        by_cases hc3 : x0 = (3:Int32)
        · have h := ip hc3 h
          refine lv_tableIn (tgt := 82) (off := 81) hx hb dX11_suitsTest_1 (by rw [hc3]; decide) (by rw [hc3]; decide) (by rw [hc3]; rfl) rfl ?_
          refine lv_iload_n hx hb dX11_suitsTest_82 rfl (lv_at hl 1 rfl) ?_
          refine lv_iconst (v := (2:Int32)) hx hb dX11_suitsTest_83 (by decide) ?_
          obtain ⟨v4, hv4, h⟩ := ob h
          refine c_cr (c_runS X (K_X11_isBelow l D Φ σ (x1) ((2:Int32)) hv4) ⟨w_635, ww_X11_isBelow⟩ hy_X11_isBelow rfl ⟨(Nat.le_of_ble_eq_true rfl), (Nat.le_of_ble_eq_true rfl)⟩ hP hS hl.1 (Nat.le_of_ble_eq_true rfl) dX11_suitsTest_84 rfl ⟨(Nat.le_of_ble_eq_true rfl), (Nat.le_of_ble_eq_true rfl)⟩) ?_
          refine lv_if_eq (tgt := 103) hx hb dX11_suitsTest_87 rfl (fun hc => ?_) (fun hc => ?_)
          · have h := ip hc h
            exact N_X11_suitsTest_103 X hP hS (lv_sub hl [] rfl) h
          · have h := ine hc h
            refine lv_iload_n hx hb dX11_suitsTest_90 rfl (lv_at hl 2 rfl) ?_
            refine lv_bipush (v := (10:Int32)) hx hb dX11_suitsTest_91 (by decide) ?_
            obtain ⟨v5, hv5, h⟩ := ob h
            refine c_cr (c_runS X (K_X11_isBelow l D Φ σ (x2) ((10:Int32)) hv5) ⟨w_635, ww_X11_isBelow⟩ hy_X11_isBelow rfl ⟨(Nat.le_of_ble_eq_true rfl), (Nat.le_of_ble_eq_true rfl)⟩ hP hS hl.1 (Nat.le_of_ble_eq_true rfl) dX11_suitsTest_93 rfl ⟨(Nat.le_of_ble_eq_true rfl), (Nat.le_of_ble_eq_true rfl)⟩) ?_
            refine lv_if_eq (tgt := 103) hx hb dX11_suitsTest_96 rfl (fun hc => ?_) (fun hc => ?_)
            · have h := ip hc h
              exact N_X11_suitsTest_103 X hP hS (lv_sub hl [] rfl) h
            · have h := ine hc h
              refine lv_iconst (v := (1:Int32)) hx hb dX11_suitsTest_99 (by decide) ?_
              refine lv_goto (tgt := 104) hx hb dX11_suitsTest_100 rfl ?_
              exact N_X11_suitsTest_104 X hP hS (lv_sub hl [] rfl) h
        · have h := ine hc3 h
          by_cases hc4 : x0 = (4:Int32)
          · have h := ip hc4 h
            refine lv_tableIn (tgt := 105) (off := 104) hx hb dX11_suitsTest_1 (by rw [hc4]; decide) (by rw [hc4]; decide) (by rw [hc4]; rfl) rfl ?_
            refine lv_iload_n hx hb dX11_suitsTest_105 rfl (lv_at hl 1 rfl) ?_
            refine lv_bipush (v := ((-9):Int32)) hx hb dX11_suitsTest_106 (by decide) ?_
            refine lv_icmp_lt (tgt := 133) hx hb dX11_suitsTest_108 rfl (fun hc => ?_) (fun hc => ?_)
            · have h := ip hc h
              exact N_X11_suitsTest_133 X hP hS (lv_sub hl [] rfl) h
            · have h := ine hc h
              refine lv_iload_n hx hb dX11_suitsTest_111 rfl (lv_at hl 1 rfl) ?_
              refine lv_bipush (v := (9:Int32)) hx hb dX11_suitsTest_112 (by decide) ?_
              refine lv_icmp_gt (tgt := 133) hx hb dX11_suitsTest_114 rfl (fun hc => ?_) (fun hc => ?_)
              · have h := ip hc h
                exact N_X11_suitsTest_133 X hP hS (lv_sub hl [] rfl) h
              · have h := ine hc h
                refine lv_iload_n hx hb dX11_suitsTest_117 rfl (lv_at hl 2 rfl) ?_
                refine lv_bipush (v := ((-9):Int32)) hx hb dX11_suitsTest_118 (by decide) ?_
                refine lv_icmp_lt (tgt := 133) hx hb dX11_suitsTest_120 rfl (fun hc => ?_) (fun hc => ?_)
                · have h := ip hc h
                  exact N_X11_suitsTest_133 X hP hS (lv_sub hl [] rfl) h
                · have h := ine hc h
                  refine lv_iload_n hx hb dX11_suitsTest_123 rfl (lv_at hl 2 rfl) ?_
                  refine lv_bipush (v := (9:Int32)) hx hb dX11_suitsTest_124 (by decide) ?_
                  refine lv_icmp_gt (tgt := 133) hx hb dX11_suitsTest_126 rfl (fun hc => ?_) (fun hc => ?_)
                  · have h := ip hc h
                    exact N_X11_suitsTest_133 X hP hS (lv_sub hl [] rfl) h
                  · have h := ine hc h
                    refine lv_iconst (v := (1:Int32)) hx hb dX11_suitsTest_129 (by decide) ?_
                    refine lv_goto (tgt := 134) hx hb dX11_suitsTest_130 rfl ?_
                    exact N_X11_suitsTest_134 X hP hS (lv_sub hl [] rfl) h
          · have h := ine hc4 h
            by_cases hc5 : x0 = (5:Int32)
            · have h := ip hc5 h
              refine lv_tableIn (tgt := 141) (off := 140) hx hb dX11_suitsTest_1 (by rw [hc5]; decide) (by rw [hc5]; decide) (by rw [hc5]; rfl) rfl ?_
              refine lv_iload_n hx hb dX11_suitsTest_141 rfl (lv_at hl 0 rfl) ?_
              refine lv_iconst (v := (5:Int32)) hx hb dX11_suitsTest_142 (by decide) ?_
              refine lv_icmp_eq (tgt := 158) hx hb dX11_suitsTest_143 rfl (fun hc => ?_) (fun hc => ?_)
              · have h := ip hc h
                exact N_X11_suitsTest_158 X hP hS (lv_sub hl [] rfl) h
              · have h := ine hc h
                refine lv_iload_n hx hb dX11_suitsTest_146 rfl (lv_at hl 0 rfl) ?_
                refine lv_bipush (v := (6:Int32)) hx hb dX11_suitsTest_147 (by decide) ?_
                refine lv_icmp_eq (tgt := 158) hx hb dX11_suitsTest_149 rfl (fun hc => ?_) (fun hc => ?_)
                · have h := ip hc h
                  exact N_X11_suitsTest_158 X hP hS (lv_sub hl [] rfl) h
                · have h := ine hc h
                  refine lv_iload_n hx hb dX11_suitsTest_152 rfl (lv_at hl 0 rfl) ?_
                  refine lv_bipush (v := (8:Int32)) hx hb dX11_suitsTest_153 (by decide) ?_
                  refine lv_icmp_ne (tgt := 162) hx hb dX11_suitsTest_155 rfl (fun hc => ?_) (fun hc => ?_)
                  · have h := ine hc h
                    refine lv_iconst (v := (0:Int32)) hx hb dX11_suitsTest_162 (by decide) ?_
                    exact N_X11_suitsTest_163 X hP hS (lv_sub hl [] rfl) h
                  · have h := ip hc h
                    exact N_X11_suitsTest_158 X hP hS (lv_sub hl [] rfl) h
            · have h := ine hc5 h
              by_cases hc6 : x0 = (6:Int32)
              · have h := ip hc6 h
                refine lv_tableIn (tgt := 141) (off := 140) hx hb dX11_suitsTest_1 (by rw [hc6]; decide) (by rw [hc6]; decide) (by rw [hc6]; rfl) rfl ?_
                refine lv_iload_n hx hb dX11_suitsTest_141 rfl (lv_at hl 0 rfl) ?_
                refine lv_iconst (v := (5:Int32)) hx hb dX11_suitsTest_142 (by decide) ?_
                refine lv_icmp_eq (tgt := 158) hx hb dX11_suitsTest_143 rfl (fun hc => ?_) (fun hc => ?_)
                · have h := ip hc h
                  exact N_X11_suitsTest_158 X hP hS (lv_sub hl [] rfl) h
                · have h := ine hc h
                  refine lv_iload_n hx hb dX11_suitsTest_146 rfl (lv_at hl 0 rfl) ?_
                  refine lv_bipush (v := (6:Int32)) hx hb dX11_suitsTest_147 (by decide) ?_
                  refine lv_icmp_eq (tgt := 158) hx hb dX11_suitsTest_149 rfl (fun hc => ?_) (fun hc => ?_)
                  · have h := ip hc h
                    exact N_X11_suitsTest_158 X hP hS (lv_sub hl [] rfl) h
                  · have h := ine hc h
                    refine lv_iload_n hx hb dX11_suitsTest_152 rfl (lv_at hl 0 rfl) ?_
                    refine lv_bipush (v := (8:Int32)) hx hb dX11_suitsTest_153 (by decide) ?_
                    refine lv_icmp_ne (tgt := 162) hx hb dX11_suitsTest_155 rfl (fun hc => ?_) (fun hc => ?_)
                    · have h := ine hc h
                      refine lv_iconst (v := (0:Int32)) hx hb dX11_suitsTest_162 (by decide) ?_
                      exact N_X11_suitsTest_163 X hP hS (lv_sub hl [] rfl) h
                    · have h := ip hc h
                      exact N_X11_suitsTest_158 X hP hS (lv_sub hl [] rfl) h
              · have h := ine hc6 h
                by_cases hc7 : x0 = (7:Int32)
                · have h := ip hc7 h
                  refine lv_tableIn (tgt := 135) (off := 134) hx hb dX11_suitsTest_1 (by rw [hc7]; decide) (by rw [hc7]; decide) (by rw [hc7]; rfl) rfl ?_
                  refine lv_iload_n hx hb dX11_suitsTest_135 rfl (lv_at hl 1 rfl) ?_
                  refine lv_iconst (v := (4:Int32)) hx hb dX11_suitsTest_136 (by decide) ?_
                  obtain ⟨v6, hv6, h⟩ := ob h
                  refine c_cr (c_runS X (K_X11_isBelow l D Φ σ (x1) ((4:Int32)) hv6) ⟨w_635, ww_X11_isBelow⟩ hy_X11_isBelow rfl ⟨(Nat.le_of_ble_eq_true rfl), (Nat.le_of_ble_eq_true rfl)⟩ hP hS hl.1 (Nat.le_of_ble_eq_true rfl) dX11_suitsTest_137 rfl ⟨(Nat.le_of_ble_eq_true rfl), (Nat.le_of_ble_eq_true rfl)⟩) ?_
                  obtain ⟨hz, rfl⟩ := rz_spec h
                  exact c_rz X hz dX11_suitsTest_140
                · have h := ine hc7 h
                  by_cases hc8 : x0 = (8:Int32)
                  · have h := ip hc8 h
                    refine lv_tableIn (tgt := 141) (off := 140) hx hb dX11_suitsTest_1 (by rw [hc8]; decide) (by rw [hc8]; decide) (by rw [hc8]; rfl) rfl ?_
                    refine lv_iload_n hx hb dX11_suitsTest_141 rfl (lv_at hl 0 rfl) ?_
                    refine lv_iconst (v := (5:Int32)) hx hb dX11_suitsTest_142 (by decide) ?_
                    refine lv_icmp_eq (tgt := 158) hx hb dX11_suitsTest_143 rfl (fun hc => ?_) (fun hc => ?_)
                    · have h := ip hc h
                      exact N_X11_suitsTest_158 X hP hS (lv_sub hl [] rfl) h
                    · have h := ine hc h
                      refine lv_iload_n hx hb dX11_suitsTest_146 rfl (lv_at hl 0 rfl) ?_
                      refine lv_bipush (v := (6:Int32)) hx hb dX11_suitsTest_147 (by decide) ?_
                      refine lv_icmp_eq (tgt := 158) hx hb dX11_suitsTest_149 rfl (fun hc => ?_) (fun hc => ?_)
                      · have h := ip hc h
                        exact N_X11_suitsTest_158 X hP hS (lv_sub hl [] rfl) h
                      · have h := ine hc h
                        refine lv_iload_n hx hb dX11_suitsTest_152 rfl (lv_at hl 0 rfl) ?_
                        refine lv_bipush (v := (8:Int32)) hx hb dX11_suitsTest_153 (by decide) ?_
                        refine lv_icmp_ne (tgt := 162) hx hb dX11_suitsTest_155 rfl (fun hc => ?_) (fun hc => ?_)
                        · have h := ine hc h
                          refine lv_iconst (v := (0:Int32)) hx hb dX11_suitsTest_162 (by decide) ?_
                          exact N_X11_suitsTest_163 X hP hS (lv_sub hl [] rfl) h
                        · have h := ip hc h
                          exact N_X11_suitsTest_158 X hP hS (lv_sub hl [] rfl) h
                  · have h := ine hc8 h
                    by_cases hc9 : x0 = (9:Int32)
                    · have h := ip hc9 h
                      refine lv_tableIn (tgt := 76) (off := 75) hx hb dX11_suitsTest_1 (by rw [hc9]; decide) (by rw [hc9]; decide) (by rw [hc9]; rfl) rfl ?_
                      refine lv_iload_n hx hb dX11_suitsTest_76 rfl (lv_at hl 1 rfl) ?_
                      refine lv_iconst (v := (4:Int32)) hx hb dX11_suitsTest_77 (by decide) ?_
                      obtain ⟨v7, hv7, h⟩ := ob h
                      refine c_cr (c_runS X (K_X11_isBelow l D Φ σ (x1) ((4:Int32)) hv7) ⟨w_635, ww_X11_isBelow⟩ hy_X11_isBelow rfl ⟨(Nat.le_of_ble_eq_true rfl), (Nat.le_of_ble_eq_true rfl)⟩ hP hS hl.1 (Nat.le_of_ble_eq_true rfl) dX11_suitsTest_78 rfl ⟨(Nat.le_of_ble_eq_true rfl), (Nat.le_of_ble_eq_true rfl)⟩) ?_
                      obtain ⟨hz, rfl⟩ := rz_spec h
                      exact c_rz X hz dX11_suitsTest_81
                    · have h := ine hc9 h
                      refine lv_tableOut (tgt := 141) hx hb dX11_suitsTest_1 (sw_out (lo := 0) (hi := 9) (fun k h1 h2 => by
                        have h3 : k = 0 ∨ k = 1 ∨ k = 2 ∨ k = 3 ∨ k = 4 ∨ k = 5 ∨ k = 6 ∨ k = 7 ∨ k = 8 ∨ k = 9 := by omega
                        rcases h3 with rfl | rfl | rfl | rfl | rfl | rfl | rfl | rfl | rfl | rfl
                        · exact hc0
                        · exact hc1
                        · exact hc2
                        · exact hc3
                        · exact hc4
                        · exact hc5
                        · exact hc6
                        · exact hc7
                        · exact hc8
                        · exact hc9)) rfl ?_
                      refine lv_iload_n hx hb dX11_suitsTest_141 rfl (lv_at hl 0 rfl) ?_
                      refine lv_iconst (v := (5:Int32)) hx hb dX11_suitsTest_142 (by decide) ?_
                      refine lv_icmp_eq (tgt := 158) hx hb dX11_suitsTest_143 rfl (fun hc => ?_) (fun hc => ?_)
                      · have h := ip hc h
                        exact N_X11_suitsTest_158 X hP hS (lv_sub hl [] rfl) h
                      · have h := ine hc h
                        refine lv_iload_n hx hb dX11_suitsTest_146 rfl (lv_at hl 0 rfl) ?_
                        refine lv_bipush (v := (6:Int32)) hx hb dX11_suitsTest_147 (by decide) ?_
                        refine lv_icmp_eq (tgt := 158) hx hb dX11_suitsTest_149 rfl (fun hc => ?_) (fun hc => ?_)
                        · have h := ip hc h
                          exact N_X11_suitsTest_158 X hP hS (lv_sub hl [] rfl) h
                        · have h := ine hc h
                          refine lv_iload_n hx hb dX11_suitsTest_152 rfl (lv_at hl 0 rfl) ?_
                          refine lv_bipush (v := (8:Int32)) hx hb dX11_suitsTest_153 (by decide) ?_
                          refine lv_icmp_ne (tgt := 162) hx hb dX11_suitsTest_155 rfl (fun hc => ?_) (fun hc => ?_)
                          · have h := ine hc h
                            refine lv_iconst (v := (0:Int32)) hx hb dX11_suitsTest_162 (by decide) ?_
                            exact N_X11_suitsTest_163 X hP hS (lv_sub hl [] rfl) h
                          · have h := ip hc h
                            exact N_X11_suitsTest_158 X hP hS (lv_sub hl [] rfl) h
theorem ww_X11_suitsTest : Cond.static yX11_suitsTest ∈ BG ∧ Cond.initialized (yX11_suitsTest).cls ∈ BG ∧ Cond.code yX11_suitsTest cX11_suitsTest 3 (some .boolean) ∈ BG := ⟨w_858, w_56, w_859⟩
theorem hy_X11_suitsTest : (yX11_suitsTest).cls ≠ "java/lang/invoke/MethodHandle" ∧ (yX11_suitsTest).cls ≠ "java/lang/invoke/VarHandle" ∧ (parseMethodDescriptor (yX11_suitsTest).desc).map (fun d => d.parameters.length) = some 3 := ⟨by decide, by decide, by decide +kernel⟩
def f_X11_isNumber_19   (y0 : Int32)  : Option (Int32) := rz y0
def f_X11_isNumber_18     : Option (Int32) := f_X11_isNumber_19 ((0:Int32))
def f_X11_isNumber  (x0 : Int32)  : Option (Int32) := if x0 < ((-9999):Int32) then (f_X11_isNumber_18) else (if (9999:Int32) < x0 then (f_X11_isNumber_18) else (f_X11_isNumber_19 ((1:Int32))))
set_option maxRecDepth 20000 in
set_option maxHeartbeats 4000000 in
theorem N_X11_isNumber_19 {p : Program} {l : Launch} {e : Env} {s : State} {m : MethodId} {args : Array Value} {below : List Frame} {meth : Method} {c : Code} {D : cD} {Φ : cG}    {y0 : Int32} {σ : cS} {ls : Array Slot} {r : Int32} (X : cX p s m args meth c cX11_isNumber 1 (some .boolean) RX11 D Φ) (hP : cP D Φ σ s.heap) (hS : va_S (cReg Φ) s.heap s.heap [])  (hl : lv_has ls 1 []) (h : f_X11_isNumber_19   y0 = some r) : cWr p l e 0 0 s m args below meth c (some (.int r)) (F0 m 19 ls [.int y0]) := by
  have hx := X.1
  have hb := X.2.1
  have hown := X.2.2.2.1
  have hts := X.2.2.2.2.1
  have h : (rz y0) = some r := h
  obtain ⟨hz, rfl⟩ := rz_spec h
  exact c_rz X hz dX11_isNumber_19
set_option maxRecDepth 20000 in
set_option maxHeartbeats 4000000 in
theorem N_X11_isNumber_18 {p : Program} {l : Launch} {e : Env} {s : State} {m : MethodId} {args : Array Value} {below : List Frame} {meth : Method} {c : Code} {D : cD} {Φ : cG}     {σ : cS} {ls : Array Slot} {r : Int32} (X : cX p s m args meth c cX11_isNumber 1 (some .boolean) RX11 D Φ) (hP : cP D Φ σ s.heap) (hS : va_S (cReg Φ) s.heap s.heap [])  (hl : lv_has ls 1 []) (h : f_X11_isNumber_18    = some r) : cWr p l e 0 0 s m args below meth c (some (.int r)) (F0 m 18 ls []) := by
  have hx := X.1
  have hb := X.2.1
  have hown := X.2.2.2.1
  have hts := X.2.2.2.2.1
  have h : (f_X11_isNumber_19 ((0:Int32))) = some r := h
  refine lv_iconst (v := (0:Int32)) hx hb dX11_isNumber_18 (by decide) ?_
  exact N_X11_isNumber_19 X hP hS (lv_sub hl [] rfl) h
set_option maxRecDepth 20000 in
set_option maxHeartbeats 4000000 in
theorem K_X11_isNumber (l : Launch) (D : cD) (Φ : cG) (σ : cS)  (x0 : Int32) {r : Int32} (h : f_X11_isNumber  x0 = some r) : Met l yX11_isNumber (Cond.code yX11_isNumber cX11_isNumber 1 (some .boolean) :: BG) (rA 0 0 0 0) (cPc D Φ σ [.int x0]) (cQr (some (.int r))) 0 0 (fun _ => False) := by
  refine Met.ofW (cc := cX11_isNumber) (maxL := 1) (ret := (some .boolean)) (by decide) rfl ?_
  intro p e s m args below meth c s₁ B hml hv
  obtain ⟨rfl, hP, hK, hZ⟩ := hv
  have X : cX p s m [.int x0].toArray meth c cX11_isNumber 1 (some .boolean) RX11 D Φ := cX_of B hml hK hZ
  have hx := X.1
  have hb := X.2.1
  have hown := X.2.2.2.1
  have hts := X.2.2.2.2.1
  have hl := lv_entry [.int x0] (n := 1) (by simp only [lgs_r, lgs_i, lgs_l, lgs_0, List.length]; exact Nat.le_of_ble_eq_true rfl)
  rw [lg_entry_eq]
  generalize (lg_sl [.int x0] ++ List.replicate (1 - (lg_sl [.int x0]).length) Slot.unset).toArray = ls at hl ⊢
  simp only [lv_args_r, lv_args_i, lv_args_l, lv_args_0] at hl
  have hl : lv_has ls 1 [(0, .int x0)] := hl
  have hS : va_S (cReg Φ) s.heap s.heap [] := va_S.rf
  show cWr p l e 0 0 s m [.int x0].toArray below meth c (some (.int r)) (F0 m 0 ls [])
  have h : (if x0 < ((-9999):Int32) then (f_X11_isNumber_18) else (if (9999:Int32) < x0 then (f_X11_isNumber_18) else (f_X11_isNumber_19 ((1:Int32))))) = some r := h
  refine lv_iload_n hx hb dX11_isNumber_0 rfl (lv_at hl 0 rfl) ?_
  refine lv_sipush (v := ((-9999):Int32)) hx hb dX11_isNumber_1 (by decide) ?_
  refine lv_icmp_lt (tgt := 18) hx hb dX11_isNumber_4 rfl (fun hc => ?_) (fun hc => ?_)
  · have h := ip hc h
    exact N_X11_isNumber_18 X hP hS (lv_sub hl [] rfl) h
  · have h := ine hc h
    refine lv_iload_n hx hb dX11_isNumber_7 rfl (lv_at hl 0 rfl) ?_
    refine lv_sipush (v := (9999:Int32)) hx hb dX11_isNumber_8 (by decide) ?_
    refine lv_icmp_gt (tgt := 18) hx hb dX11_isNumber_11 rfl (fun hc => ?_) (fun hc => ?_)
    · have h := ip hc h
      exact N_X11_isNumber_18 X hP hS (lv_sub hl [] rfl) h
    · have h := ine hc h
      refine lv_iconst (v := (1:Int32)) hx hb dX11_isNumber_14 (by decide) ?_
      refine lv_goto (tgt := 19) hx hb dX11_isNumber_15 rfl ?_
      exact N_X11_isNumber_19 X hP hS (lv_sub hl [] rfl) h
theorem ww_X11_isNumber : Cond.static yX11_isNumber ∈ BG ∧ Cond.initialized (yX11_isNumber).cls ∈ BG ∧ Cond.code yX11_isNumber cX11_isNumber 1 (some .boolean) ∈ BG := ⟨w_1312, w_56, w_1313⟩
theorem hy_X11_isNumber : (yX11_isNumber).cls ≠ "java/lang/invoke/MethodHandle" ∧ (yX11_isNumber).cls ≠ "java/lang/invoke/VarHandle" ∧ (parseMethodDescriptor (yX11_isNumber).desc).map (fun d => d.parameters.length) = some 1 := ⟨by decide, by decide, by decide +kernel⟩
def f_X11_firstOf_11   (y0 : Int32)  : Option (Int32) := some y0
def f_X11_firstOf  (x0 : Int32)  : Option (Int32) := if x0 = (15:Int32) then (f_X11_firstOf_11 ((3:Int32))) else (f_X11_firstOf_11 (x0))
set_option maxRecDepth 20000 in
set_option maxHeartbeats 4000000 in
theorem N_X11_firstOf_11 {p : Program} {l : Launch} {e : Env} {s : State} {m : MethodId} {args : Array Value} {below : List Frame} {meth : Method} {c : Code} {D : cD} {Φ : cG}    {y0 : Int32} {σ : cS} {ls : Array Slot} {r : Int32} (X : cX p s m args meth c cX11_firstOf 1 (some .int) RX11 D Φ) (hP : cP D Φ σ s.heap) (hS : va_S (cReg Φ) s.heap s.heap [])  (hl : lv_has ls 1 []) (h : f_X11_firstOf_11   y0 = some r) : cWr p l e 0 0 s m args below meth c (some (.int r)) (F0 m 11 ls [.int y0]) := by
  have hx := X.1
  have hb := X.2.1
  have hown := X.2.2.2.1
  have hts := X.2.2.2.2.1
  have h : (some y0) = some r := h
  obtain rfl := sj h
  exact c_ri X dX11_firstOf_11
set_option maxRecDepth 20000 in
set_option maxHeartbeats 4000000 in
theorem K_X11_firstOf (l : Launch) (D : cD) (Φ : cG) (σ : cS)  (x0 : Int32) {r : Int32} (h : f_X11_firstOf  x0 = some r) : Met l yX11_firstOf (Cond.code yX11_firstOf cX11_firstOf 1 (some .int) :: BG) (rA 0 0 0 0) (cPc D Φ σ [.int x0]) (cQr (some (.int r))) 0 0 (fun _ => False) := by
  refine Met.ofW (cc := cX11_firstOf) (maxL := 1) (ret := (some .int)) (by decide) rfl ?_
  intro p e s m args below meth c s₁ B hml hv
  obtain ⟨rfl, hP, hK, hZ⟩ := hv
  have X : cX p s m [.int x0].toArray meth c cX11_firstOf 1 (some .int) RX11 D Φ := cX_of B hml hK hZ
  have hx := X.1
  have hb := X.2.1
  have hown := X.2.2.2.1
  have hts := X.2.2.2.2.1
  have hl := lv_entry [.int x0] (n := 1) (by simp only [lgs_r, lgs_i, lgs_l, lgs_0, List.length]; exact Nat.le_of_ble_eq_true rfl)
  rw [lg_entry_eq]
  generalize (lg_sl [.int x0] ++ List.replicate (1 - (lg_sl [.int x0]).length) Slot.unset).toArray = ls at hl ⊢
  simp only [lv_args_r, lv_args_i, lv_args_l, lv_args_0] at hl
  have hl : lv_has ls 1 [(0, .int x0)] := hl
  have hS : va_S (cReg Φ) s.heap s.heap [] := va_S.rf
  show cWr p l e 0 0 s m [.int x0].toArray below meth c (some (.int r)) (F0 m 0 ls [])
  have h : (if x0 = (15:Int32) then (f_X11_firstOf_11 ((3:Int32))) else (f_X11_firstOf_11 (x0))) = some r := h
  refine lv_iload_n hx hb dX11_firstOf_0 rfl (lv_at hl 0 rfl) ?_
  refine lv_bipush (v := (15:Int32)) hx hb dX11_firstOf_1 (by decide) ?_
  refine lv_icmp_ne (tgt := 10) hx hb dX11_firstOf_3 rfl (fun hc => ?_) (fun hc => ?_)
  · have h := ine hc h
    refine lv_iload_n hx hb dX11_firstOf_10 rfl (lv_at hl 0 rfl) ?_
    exact N_X11_firstOf_11 X hP hS (lv_sub hl [] rfl) h
  · have h := ip hc h
    refine lv_iconst (v := (3:Int32)) hx hb dX11_firstOf_6 (by decide) ?_
    refine lv_goto (tgt := 11) hx hb dX11_firstOf_7 rfl ?_
    exact N_X11_firstOf_11 X hP hS (lv_sub hl [] rfl) h
theorem ww_X11_firstOf : Cond.static yX11_firstOf ∈ BG ∧ Cond.initialized (yX11_firstOf).cls ∈ BG ∧ Cond.code yX11_firstOf cX11_firstOf 1 (some .int) ∈ BG := ⟨w_1315, w_56, w_1316⟩
theorem hy_X11_firstOf : (yX11_firstOf).cls ≠ "java/lang/invoke/MethodHandle" ∧ (yX11_firstOf).cls ≠ "java/lang/invoke/VarHandle" ∧ (parseMethodDescriptor (yX11_firstOf).desc).map (fun d => d.parameters.length) = some 1 := ⟨by decide, by decide, by decide +kernel⟩
def f_X11_lastOf_11   (y0 : Int32)  : Option (Int32) := some y0
def f_X11_lastOf  (x0 : Int32)  : Option (Int32) := if x0 = (15:Int32) then (f_X11_lastOf_11 ((4:Int32))) else (f_X11_lastOf_11 (x0))
set_option maxRecDepth 20000 in
set_option maxHeartbeats 4000000 in
theorem N_X11_lastOf_11 {p : Program} {l : Launch} {e : Env} {s : State} {m : MethodId} {args : Array Value} {below : List Frame} {meth : Method} {c : Code} {D : cD} {Φ : cG}    {y0 : Int32} {σ : cS} {ls : Array Slot} {r : Int32} (X : cX p s m args meth c cX11_lastOf 1 (some .int) RX11 D Φ) (hP : cP D Φ σ s.heap) (hS : va_S (cReg Φ) s.heap s.heap [])  (hl : lv_has ls 1 []) (h : f_X11_lastOf_11   y0 = some r) : cWr p l e 0 0 s m args below meth c (some (.int r)) (F0 m 11 ls [.int y0]) := by
  have hx := X.1
  have hb := X.2.1
  have hown := X.2.2.2.1
  have hts := X.2.2.2.2.1
  have h : (some y0) = some r := h
  obtain rfl := sj h
  exact c_ri X dX11_lastOf_11
set_option maxRecDepth 20000 in
set_option maxHeartbeats 4000000 in
theorem K_X11_lastOf (l : Launch) (D : cD) (Φ : cG) (σ : cS)  (x0 : Int32) {r : Int32} (h : f_X11_lastOf  x0 = some r) : Met l yX11_lastOf (Cond.code yX11_lastOf cX11_lastOf 1 (some .int) :: BG) (rA 0 0 0 0) (cPc D Φ σ [.int x0]) (cQr (some (.int r))) 0 0 (fun _ => False) := by
  refine Met.ofW (cc := cX11_lastOf) (maxL := 1) (ret := (some .int)) (by decide) rfl ?_
  intro p e s m args below meth c s₁ B hml hv
  obtain ⟨rfl, hP, hK, hZ⟩ := hv
  have X : cX p s m [.int x0].toArray meth c cX11_lastOf 1 (some .int) RX11 D Φ := cX_of B hml hK hZ
  have hx := X.1
  have hb := X.2.1
  have hown := X.2.2.2.1
  have hts := X.2.2.2.2.1
  have hl := lv_entry [.int x0] (n := 1) (by simp only [lgs_r, lgs_i, lgs_l, lgs_0, List.length]; exact Nat.le_of_ble_eq_true rfl)
  rw [lg_entry_eq]
  generalize (lg_sl [.int x0] ++ List.replicate (1 - (lg_sl [.int x0]).length) Slot.unset).toArray = ls at hl ⊢
  simp only [lv_args_r, lv_args_i, lv_args_l, lv_args_0] at hl
  have hl : lv_has ls 1 [(0, .int x0)] := hl
  have hS : va_S (cReg Φ) s.heap s.heap [] := va_S.rf
  show cWr p l e 0 0 s m [.int x0].toArray below meth c (some (.int r)) (F0 m 0 ls [])
  have h : (if x0 = (15:Int32) then (f_X11_lastOf_11 ((4:Int32))) else (f_X11_lastOf_11 (x0))) = some r := h
  refine lv_iload_n hx hb dX11_lastOf_0 rfl (lv_at hl 0 rfl) ?_
  refine lv_bipush (v := (15:Int32)) hx hb dX11_lastOf_1 (by decide) ?_
  refine lv_icmp_ne (tgt := 10) hx hb dX11_lastOf_3 rfl (fun hc => ?_) (fun hc => ?_)
  · have h := ine hc h
    refine lv_iload_n hx hb dX11_lastOf_10 rfl (lv_at hl 0 rfl) ?_
    exact N_X11_lastOf_11 X hP hS (lv_sub hl [] rfl) h
  · have h := ip hc h
    refine lv_iconst (v := (4:Int32)) hx hb dX11_lastOf_6 (by decide) ?_
    refine lv_goto (tgt := 11) hx hb dX11_lastOf_7 rfl ?_
    exact N_X11_lastOf_11 X hP hS (lv_sub hl [] rfl) h
theorem ww_X11_lastOf : Cond.static yX11_lastOf ∈ BG ∧ Cond.initialized (yX11_lastOf).cls ∈ BG ∧ Cond.code yX11_lastOf cX11_lastOf 1 (some .int) ∈ BG := ⟨w_1319, w_56, w_1320⟩
theorem hy_X11_lastOf : (yX11_lastOf).cls ≠ "java/lang/invoke/MethodHandle" ∧ (yX11_lastOf).cls ≠ "java/lang/invoke/VarHandle" ∧ (parseMethodDescriptor (yX11_lastOf).desc).map (fun d => d.parameters.length) = some 1 := ⟨by decide, by decide, by decide +kernel⟩
def f_X11_markDeclaration_23  (x0 : Nat)  (σ : cS) : Option (cS) := some σ
def f_X11_markDeclaration (x0 : Nat) (x1 : Int32) (σ : cS) : Option (cS) := if (100:Int32) ≤ x1 then ((rc σ (some x0) 11).bind (fun v1 => (f_X11_mark v1 (((1:Int32) <<< ((x1 - (100:Int32)) &&& 31))) σ).bind (fun v2 => f_X11_markDeclaration_23 x0 v2))) else ((rc σ (some x0) 11).bind (fun v3 => (f_X11_markAll v3  σ).bind (fun v4 => f_X11_markDeclaration_23 x0 v4)))
set_option maxRecDepth 20000 in
set_option maxHeartbeats 4000000 in
theorem N_X11_markDeclaration_23 {p : Program} {l : Launch} {e : Env} {s : State} {m : MethodId} {args : Array Value} {below : List Frame} {meth : Method} {c : Code} {D : cD} {Φ : cG} {x0 : Nat}    {σ : cS} {H : Heap} {locs : List Loc} {ls : Array Slot} {q : cS} (X : cX p s m args meth c cX11_markDeclaration 2 none RX11 D Φ) (hP : cP D Φ σ H) (hS : va_S (cReg Φ) s.heap H locs)  (hl : lv_has ls 2 []) (h : f_X11_markDeclaration_23  x0  σ = some q) : cWw p l e 2 0 0 41 s m args below meth c D Φ q none H locs 0 0 (F0 m 23 ls []) := by
  have hx := X.1
  have hb := X.2.1
  have hown := X.2.2.2.1
  have hts := X.2.2.2.2.1
  have h : (some σ) = some q := h
  obtain rfl := sj h
  exact c_wv X hP hS (Nat.le_of_ble_eq_true rfl) (Nat.le_of_ble_eq_true rfl) dX11_markDeclaration_23
set_option maxRecDepth 20000 in
set_option maxHeartbeats 4000000 in
theorem K_X11_markDeclaration (l : Launch) (D : cD) (Φ : cG) (σ : cS) (x0 : Nat) (x1 : Int32) {q : cS} (h : f_X11_markDeclaration x0 x1 σ = some q) : Met l yX11_markDeclaration (Cond.code yX11_markDeclaration cX11_markDeclaration 2 none :: BG) (rA 2 0 0 41) (cPc D Φ σ [cv Φ (some x0), .int x1]) (cQw D Φ q none) 0 0 (cReg Φ) := by
  refine Met.ofW (cc := cX11_markDeclaration) (maxL := 2) (ret := none) (by decide) rfl ?_
  intro p e s m args below meth c s₁ B hml hv
  obtain ⟨rfl, hP, hK, hZ⟩ := hv
  have X : cX p s m [cv Φ (some x0), .int x1].toArray meth c cX11_markDeclaration 2 none RX11 D Φ := cX_of B hml hK hZ
  have hx := X.1
  have hb := X.2.1
  have hown := X.2.2.2.1
  have hts := X.2.2.2.2.1
  have hl := lv_entry [cv Φ (some x0), .int x1] (n := 2) (by simp only [lgs_r, lgs_i, lgs_l, lgs_0, List.length]; exact Nat.le_of_ble_eq_true rfl)
  rw [lg_entry_eq]
  generalize (lg_sl [cv Φ (some x0), .int x1] ++ List.replicate (2 - (lg_sl [cv Φ (some x0), .int x1]).length) Slot.unset).toArray = ls at hl ⊢
  simp only [lv_args_r, lv_args_i, lv_args_l, lv_args_0] at hl
  have hl : lv_has ls 2 [(0, cv Φ (some x0)), (1, .int x1)] := hl
  have hS : va_S (cReg Φ) s.heap s.heap [] := va_S.rf
  show cWw p l e 2 0 0 41 s m [cv Φ (some x0), .int x1].toArray below meth c D Φ q none s.heap [] 0 0 (F0 m 0 ls [])
  have h : (if (100:Int32) ≤ x1 then ((rc σ (some x0) 11).bind (fun v1 => (f_X11_mark v1 (((1:Int32) <<< ((x1 - (100:Int32)) &&& 31))) σ).bind (fun v2 => f_X11_markDeclaration_23 x0 v2))) else ((rc σ (some x0) 11).bind (fun v3 => (f_X11_markAll v3  σ).bind (fun v4 => f_X11_markDeclaration_23 x0 v4)))) = some q := h
  refine lv_iload_n hx hb dX11_markDeclaration_0 rfl (lv_at hl 1 rfl) ?_
  refine lv_bipush (v := (100:Int32)) hx hb dX11_markDeclaration_1 (by decide) ?_
  refine lv_icmp_ge (tgt := 13) hx hb dX11_markDeclaration_3 rfl (fun hc => ?_) (fun hc => ?_)
  · have h := ip hc h
    refine c_aload_n hx hb dX11_markDeclaration_13 rfl (lv_at hl 0 rfl) ?_
    refine lv_iconst (v := (1:Int32)) hx hb dX11_markDeclaration_14 (by decide) ?_
    refine lv_iload_n hx hb dX11_markDeclaration_15 rfl (lv_at hl 1 rfl) ?_
    refine lv_bipush (v := (100:Int32)) hx hb dX11_markDeclaration_16 (by decide) ?_
    refine lv_isub hx hb dX11_markDeclaration_18 ?_
    refine lv_ishl hx hb dX11_markDeclaration_19 ?_
    obtain ⟨v1, hv1, h⟩ := ob h
    obtain ⟨v2, hv2, h⟩ := ob h
    refine c_cw (c_runV X (K_X11_mark l D Φ σ v1 (((1:Int32) <<< ((x1 - (100:Int32)) &&& 31))) hv2) hv1 ⟨Nat.le_of_ble_eq_true rfl, by decide⟩ ⟨w_826, ww_X11_mark⟩ rfl hy_X11_mark rfl ⟨(Nat.le_of_ble_eq_true rfl), (Nat.le_of_ble_eq_true rfl)⟩ hP hS hl.1 (Nat.le_of_ble_eq_true rfl) dX11_markDeclaration_20 rfl ⟨(Nat.le_of_ble_eq_true rfl), (Nat.le_of_ble_eq_true rfl)⟩) hS (fun H locs hP hS => ?_)
    refine W.eq (g2 := F0 m 23 ls []) rfl ?_
    exact N_X11_markDeclaration_23 X hP hS (lv_sub hl [] rfl) h
  · have h := ine hc h
    refine c_aload_n hx hb dX11_markDeclaration_6 rfl (lv_at hl 0 rfl) ?_
    obtain ⟨v3, hv3, h⟩ := ob h
    obtain ⟨v4, hv4, h⟩ := ob h
    refine c_cw (c_runV X (K_X11_markAll l D Φ σ v3  hv4) hv3 ⟨Nat.le_of_ble_eq_true rfl, by decide⟩ ⟨w_830, ww_X11_markAll⟩ rfl hy_X11_markAll rfl ⟨(Nat.le_of_ble_eq_true rfl), (Nat.le_of_ble_eq_true rfl)⟩ hP hS hl.1 (Nat.le_of_ble_eq_true rfl) dX11_markDeclaration_7 rfl ⟨(Nat.le_of_ble_eq_true rfl), (Nat.le_of_ble_eq_true rfl)⟩) hS (fun H locs hP hS => ?_)
    refine W.eq (g2 := F0 m 10 ls []) rfl ?_
    refine lv_goto (tgt := 23) hx hb dX11_markDeclaration_10 rfl ?_
    exact N_X11_markDeclaration_23 X hP hS (lv_sub hl [] rfl) h
theorem ww_X11_markDeclaration : Cond.instanceMethod yX11_markDeclaration ∈ BG ∧ Cond.selects (yX11_markDeclaration).cls yX11_markDeclaration yX11_markDeclaration ∈ BG ∧ Cond.initialized (yX11_markDeclaration).cls ∈ BG ∧ Cond.code yX11_markDeclaration cX11_markDeclaration 2 none ∈ BG := ⟨w_1328, w_54, w_56, w_1329⟩
theorem hy_X11_markDeclaration : (yX11_markDeclaration).cls ≠ "java/lang/invoke/MethodHandle" ∧ (yX11_markDeclaration).cls ≠ "java/lang/invoke/VarHandle" ∧ (parseMethodDescriptor (yX11_markDeclaration).desc).map (fun d => d.parameters.length) = some 1 := ⟨by decide, by decide, by decide +kernel⟩
def f_X11_lacksValues_8  (x0 : Nat) : Nat → Option Nat → cS → Option (Int32)
  | 0, _, _ => none
  | n + 1, x1, σ => if x1 = none then (rz (0:Int32)) else ((gR σ x1 3 19).bind (fun v1 => (gI σ v1 9 1).bind (fun v2 => if v2 = (0:Int32) then (rz (1:Int32)) else ((gR σ x1 3 17).bind (fun v3 => f_X11_lacksValues_8 x0 n (v3) σ)))))
def f_X11_lacksValues (x0 : Nat)  (σ : cS) : Option (Int32) := (gR σ (some x0) 11 0).bind (fun v1 => (gR σ v1 10 0).bind (fun v2 => f_X11_lacksValues_8 x0 4000 (v2) σ))
set_option maxRecDepth 20000 in
set_option maxHeartbeats 4000000 in
theorem N_X11_lacksValues_8 {p : Program} {l : Launch} {e : Env} {s : State} {m : MethodId} {args : Array Value} {below : List Frame} {meth : Method} {c : Code} {D : cD} {Φ : cG} {x0 : Nat}  {n : Nat} {x1 : Option Nat} {σ : cS} {ls : Array Slot} {r : Int32} (X : cX p s m args meth c cX11_lacksValues 2 (some .boolean) RX11 D Φ) (hP : cP D Φ σ s.heap) (hS : va_S (cReg Φ) s.heap s.heap [])  (hl : lv_has ls 2 [(1, cv Φ x1)]) (h : f_X11_lacksValues_8  x0 n x1 σ = some r) : cWr p l e 0 0 s m args below meth c (some (.int r)) (F0 m 8 ls []) := by
  have hx := X.1
  have hb := X.2.1
  have hown := X.2.2.2.1
  have hts := X.2.2.2.2.1
  induction n generalizing x1 ls with
  | zero => exact absurd (show none = some r from h) (by simp)
  | succ n ih =>
    have h : (if x1 = none then (rz (0:Int32)) else ((gR σ x1 3 19).bind (fun v1 => (gI σ v1 9 1).bind (fun v2 => if v2 = (0:Int32) then (rz (1:Int32)) else ((gR σ x1 3 17).bind (fun v3 => f_X11_lacksValues_8 x0 n (v3) σ)))))) = some r := h
    refine c_aload_n hx hb dX11_lacksValues_8 rfl (lv_at hl 0 rfl) ?_
    refine c_ifnull (Φ := Φ) (tgt := 32) hx hb dX11_lacksValues_9 rfl (fun hc => ?_) (fun hc => ?_)
    · have h := ip hc h
      refine lv_iconst (v := (0:Int32)) hx hb dX11_lacksValues_32 (by decide) ?_
      obtain ⟨hz, rfl⟩ := rz_spec h
      exact c_rz X hz dX11_lacksValues_33
    · have h := ine hc h
      refine c_aload_n hx hb dX11_lacksValues_12 rfl (lv_at hl 0 rfl) ?_
      obtain ⟨v1, hv1, h⟩ := ob h
      refine c_gR X hP hv1 (Nat.le_of_ble_eq_true rfl) (Nat.le_of_ble_eq_true rfl) rfl w_283 dX11_lacksValues_13 ?_
      obtain ⟨v2, hv2, h⟩ := ob h
      refine c_gI X hP hv2 (Nat.le_of_ble_eq_true rfl) (Nat.le_of_ble_eq_true rfl) rfl w_96 dX11_lacksValues_16 ?_
      refine lv_if_ne (tgt := 24) hx hb dX11_lacksValues_19 rfl (fun hc => ?_) (fun hc => ?_)
      · have h := ine hc h
        refine c_aload_n hx hb dX11_lacksValues_24 rfl (lv_at hl 0 rfl) ?_
        obtain ⟨v3, hv3, h⟩ := ob h
        refine c_gR X hP hv3 (Nat.le_of_ble_eq_true rfl) (Nat.le_of_ble_eq_true rfl) rfl w_276 dX11_lacksValues_25 ?_
        refine c_astore_n hx hb dX11_lacksValues_28 rfl hl (Nat.le_of_ble_eq_true rfl) (lvKa rfl lvK0) rfl (fun ls (hl : lv_has ls 2 [(1, cv Φ v3)]) => ?_)
        refine lv_goto (tgt := 8) hx hb dX11_lacksValues_29 rfl ?_
        exact ih (lv_sub hl [0] rfl) h
      · have h := ip hc h
        refine lv_iconst (v := (1:Int32)) hx hb dX11_lacksValues_22 (by decide) ?_
        obtain ⟨hz, rfl⟩ := rz_spec h
        exact c_rz X hz dX11_lacksValues_23
set_option maxRecDepth 20000 in
set_option maxHeartbeats 4000000 in
theorem K_X11_lacksValues (l : Launch) (D : cD) (Φ : cG) (σ : cS) (x0 : Nat)  {r : Int32} (h : f_X11_lacksValues x0  σ = some r) : Met l yX11_lacksValues (Cond.code yX11_lacksValues cX11_lacksValues 2 (some .boolean) :: BG) (rA 0 0 0 0) (cPc D Φ σ [cv Φ (some x0)]) (cQr (some (.int r))) 0 0 (fun _ => False) := by
  refine Met.ofW (cc := cX11_lacksValues) (maxL := 2) (ret := (some .boolean)) (by decide) rfl ?_
  intro p e s m args below meth c s₁ B hml hv
  obtain ⟨rfl, hP, hK, hZ⟩ := hv
  have X : cX p s m [cv Φ (some x0)].toArray meth c cX11_lacksValues 2 (some .boolean) RX11 D Φ := cX_of B hml hK hZ
  have hx := X.1
  have hb := X.2.1
  have hown := X.2.2.2.1
  have hts := X.2.2.2.2.1
  have hl := lv_entry [cv Φ (some x0)] (n := 2) (by simp only [lgs_r, lgs_i, lgs_l, lgs_0, List.length]; exact Nat.le_of_ble_eq_true rfl)
  rw [lg_entry_eq]
  generalize (lg_sl [cv Φ (some x0)] ++ List.replicate (2 - (lg_sl [cv Φ (some x0)]).length) Slot.unset).toArray = ls at hl ⊢
  simp only [lv_args_r, lv_args_i, lv_args_l, lv_args_0] at hl
  have hl : lv_has ls 2 [(0, cv Φ (some x0))] := hl
  have hS : va_S (cReg Φ) s.heap s.heap [] := va_S.rf
  show cWr p l e 0 0 s m [cv Φ (some x0)].toArray below meth c (some (.int r)) (F0 m 0 ls [])
  have h : ((gR σ (some x0) 11 0).bind (fun v1 => (gR σ v1 10 0).bind (fun v2 => f_X11_lacksValues_8 x0 4000 (v2) σ))) = some r := h
  refine c_aload_n hx hb dX11_lacksValues_0 rfl (lv_at hl 0 rfl) ?_
  obtain ⟨v1, hv1, h⟩ := ob h
  refine c_gR X hP hv1 (Nat.le_of_ble_eq_true rfl) (Nat.le_of_ble_eq_true rfl) rfl w_571 dX11_lacksValues_1 ?_
  obtain ⟨v2, hv2, h⟩ := ob h
  refine c_gR X hP hv2 (Nat.le_of_ble_eq_true rfl) (Nat.le_of_ble_eq_true rfl) rfl w_327 dX11_lacksValues_4 ?_
  refine c_astore_n hx hb dX11_lacksValues_7 rfl hl (Nat.le_of_ble_eq_true rfl) (lvKr lvK0) rfl (fun ls (hl : lv_has ls 2 [(1, cv Φ v2), (0, cv Φ (some x0))]) => ?_)
  exact N_X11_lacksValues_8 X hP hS (lv_sub hl [0] rfl) h
theorem ww_X11_lacksValues : Cond.instanceMethod yX11_lacksValues ∈ BG ∧ Cond.selects (yX11_lacksValues).cls yX11_lacksValues yX11_lacksValues ∈ BG ∧ Cond.initialized (yX11_lacksValues).cls ∈ BG ∧ Cond.code yX11_lacksValues cX11_lacksValues 2 (some .boolean) ∈ BG := ⟨w_907, w_16, w_56, w_908⟩
theorem hy_X11_lacksValues : (yX11_lacksValues).cls ≠ "java/lang/invoke/MethodHandle" ∧ (yX11_lacksValues).cls ≠ "java/lang/invoke/VarHandle" ∧ (parseMethodDescriptor (yX11_lacksValues).desc).map (fun d => d.parameters.length) = some 0 := ⟨by decide, by decide, by decide +kernel⟩
def f_X11_styleOf_32  (x0 : Nat) (y0 : Option Nat) (σ : cS) : Option (Option Nat) := some y0
def f_X11_styleOf_28  (x0 : Nat) (x1 : Option Nat) (σ : cS) : Option (Option Nat) := (gR σ x1 3 19).bind (fun v1 => f_X11_styleOf_32 x0 (v1) σ)
def f_X11_styleOf (x0 : Nat) (x1 : Option Nat) (x2 : Int32) (σ : cS) : Option (Option Nat) := if x2 = (0:Int32) then (f_X11_styleOf_28 x0 (x1) σ) else ((gI σ x1 3 0).bind (fun v1 => (f_X11_isBelow (v1) ((30:Int32))).bind (fun v2 => if v2 = (0:Int32) then (f_X11_styleOf_28 x0 (x1) σ) else ((gR σ (some x0) 11 7).bind (fun v3 => (gI σ x1 3 0).bind (fun v4 => (aR σ v3 39 v4).bind (fun v5 => f_X11_styleOf_32 x0 (v5) σ)))))))
set_option maxRecDepth 20000 in
set_option maxHeartbeats 4000000 in
theorem N_X11_styleOf_32 {p : Program} {l : Launch} {e : Env} {s : State} {m : MethodId} {args : Array Value} {below : List Frame} {meth : Method} {c : Code} {D : cD} {Φ : cG} {x0 : Nat}   {y0 : Option Nat} {σ : cS} {ls : Array Slot} {r : Option Nat} (X : cX p s m args meth c cX11_styleOf 3 (some (.object "Cascadery$Style")) RX11 D Φ) (hP : cP D Φ σ s.heap) (hS : va_S (cReg Φ) s.heap s.heap [])  (hl : lv_has ls 3 []) (h : f_X11_styleOf_32  x0 y0 σ = some r) : cWr p l e 1 21 s m args below meth c (some (cv Φ r)) (F0 m 32 ls [cv Φ y0]) := by
  have hx := X.1
  have hb := X.2.1
  have hown := X.2.2.2.1
  have hts := X.2.2.2.2.1
  have h : (some y0) = some r := h
  obtain rfl := sj h
  exact c_ra X dX11_styleOf_32
set_option maxRecDepth 20000 in
set_option maxHeartbeats 4000000 in
theorem N_X11_styleOf_28 {p : Program} {l : Launch} {e : Env} {s : State} {m : MethodId} {args : Array Value} {below : List Frame} {meth : Method} {c : Code} {D : cD} {Φ : cG} {x0 : Nat}   {x1 : Option Nat} {σ : cS} {ls : Array Slot} {r : Option Nat} (X : cX p s m args meth c cX11_styleOf 3 (some (.object "Cascadery$Style")) RX11 D Φ) (hP : cP D Φ σ s.heap) (hS : va_S (cReg Φ) s.heap s.heap [])  (hl : lv_has ls 3 [(1, cv Φ x1)]) (h : f_X11_styleOf_28  x0 x1 σ = some r) : cWr p l e 1 21 s m args below meth c (some (cv Φ r)) (F0 m 28 ls []) := by
  have hx := X.1
  have hb := X.2.1
  have hown := X.2.2.2.1
  have hts := X.2.2.2.2.1
  have h : ((gR σ x1 3 19).bind (fun v1 => f_X11_styleOf_32 x0 (v1) σ)) = some r := h
  refine c_aload_n hx hb dX11_styleOf_28 rfl (lv_at hl 0 rfl) ?_
  obtain ⟨v1, hv1, h⟩ := ob h
  refine c_gR X hP hv1 (Nat.le_of_ble_eq_true rfl) (Nat.le_of_ble_eq_true rfl) rfl w_283 dX11_styleOf_29 ?_
  exact N_X11_styleOf_32 X hP hS (lv_sub hl [] rfl) h
set_option maxRecDepth 20000 in
set_option maxHeartbeats 4000000 in
theorem K_X11_styleOf (l : Launch) (D : cD) (Φ : cG) (σ : cS) (x0 : Nat) (x1 : Option Nat) (x2 : Int32) {r : Option Nat} (h : f_X11_styleOf x0 x1 x2 σ = some r) : Met l yX11_styleOf (Cond.code yX11_styleOf cX11_styleOf 3 (some (.object "Cascadery$Style")) :: BG) (rA 1 0 0 21) (cPc D Φ σ [cv Φ (some x0), cv Φ x1, .int x2]) (cQr (some (cv Φ r))) 0 0 (fun _ => False) := by
  refine Met.ofW (cc := cX11_styleOf) (maxL := 3) (ret := (some (.object "Cascadery$Style"))) (by decide) rfl ?_
  intro p e s m args below meth c s₁ B hml hv
  obtain ⟨rfl, hP, hK, hZ⟩ := hv
  have X : cX p s m [cv Φ (some x0), cv Φ x1, .int x2].toArray meth c cX11_styleOf 3 (some (.object "Cascadery$Style")) RX11 D Φ := cX_of B hml hK hZ
  have hx := X.1
  have hb := X.2.1
  have hown := X.2.2.2.1
  have hts := X.2.2.2.2.1
  have hl := lv_entry [cv Φ (some x0), cv Φ x1, .int x2] (n := 3) (by simp only [lgs_r, lgs_i, lgs_l, lgs_0, List.length]; exact Nat.le_of_ble_eq_true rfl)
  rw [lg_entry_eq]
  generalize (lg_sl [cv Φ (some x0), cv Φ x1, .int x2] ++ List.replicate (3 - (lg_sl [cv Φ (some x0), cv Φ x1, .int x2]).length) Slot.unset).toArray = ls at hl ⊢
  simp only [lv_args_r, lv_args_i, lv_args_l, lv_args_0] at hl
  have hl : lv_has ls 3 [(0, cv Φ (some x0)), (1, cv Φ x1), (2, .int x2)] := hl
  have hS : va_S (cReg Φ) s.heap s.heap [] := va_S.rf
  show cWr p l e 1 21 s m [cv Φ (some x0), cv Φ x1, .int x2].toArray below meth c (some (cv Φ r)) (F0 m 0 ls [])
  have h : (if x2 = (0:Int32) then (f_X11_styleOf_28 x0 (x1) σ) else ((gI σ x1 3 0).bind (fun v1 => (f_X11_isBelow (v1) ((30:Int32))).bind (fun v2 => if v2 = (0:Int32) then (f_X11_styleOf_28 x0 (x1) σ) else ((gR σ (some x0) 11 7).bind (fun v3 => (gI σ x1 3 0).bind (fun v4 => (aR σ v3 39 v4).bind (fun v5 => f_X11_styleOf_32 x0 (v5) σ)))))))) = some r := h
  refine lv_iload_n hx hb dX11_styleOf_0 rfl (lv_at hl 2 rfl) ?_
  refine lv_if_eq (tgt := 28) hx hb dX11_styleOf_1 rfl (fun hc => ?_) (fun hc => ?_)
  · have h := ip hc h
    exact N_X11_styleOf_28 X hP hS (lv_sub hl [1] rfl) h
  · have h := ine hc h
    refine c_aload_n hx hb dX11_styleOf_4 rfl (lv_at hl 1 rfl) ?_
    obtain ⟨v1, hv1, h⟩ := ob h
    refine c_gI X hP hv1 (Nat.le_of_ble_eq_true rfl) (Nat.le_of_ble_eq_true rfl) rfl w_227 dX11_styleOf_5 ?_
    refine lv_bipush (v := (30:Int32)) hx hb dX11_styleOf_8 (by decide) ?_
    obtain ⟨v2, hv2, h⟩ := ob h
    refine c_cr (c_runS X (K_X11_isBelow l D Φ σ (v1) ((30:Int32)) hv2) ⟨w_635, ww_X11_isBelow⟩ hy_X11_isBelow rfl ⟨(Nat.le_of_ble_eq_true rfl), (Nat.le_of_ble_eq_true rfl)⟩ hP hS hl.1 (Nat.le_of_ble_eq_true rfl) dX11_styleOf_10 rfl ⟨(Nat.le_of_ble_eq_true rfl), (Nat.le_of_ble_eq_true rfl)⟩) ?_
    refine lv_if_eq (tgt := 28) hx hb dX11_styleOf_13 rfl (fun hc => ?_) (fun hc => ?_)
    · have h := ip hc h
      exact N_X11_styleOf_28 X hP hS (lv_sub hl [1] rfl) h
    · have h := ine hc h
      refine c_aload_n hx hb dX11_styleOf_16 rfl (lv_at hl 0 rfl) ?_
      obtain ⟨v3, hv3, h⟩ := ob h
      refine c_gR X hP hv3 (Nat.le_of_ble_eq_true rfl) (Nat.le_of_ble_eq_true rfl) rfl w_578 dX11_styleOf_17 ?_
      refine c_aload_n hx hb dX11_styleOf_20 rfl (lv_at hl 1 rfl) ?_
      obtain ⟨v4, hv4, h⟩ := ob h
      refine c_gI X hP hv4 (Nat.le_of_ble_eq_true rfl) (Nat.le_of_ble_eq_true rfl) rfl w_227 dX11_styleOf_21 ?_
      obtain ⟨v5, hv5, h⟩ := ob h
      refine c_aldq X hP hv5 (ty := .object "Cascadery$Style") rfl (by decide) rfl dX11_styleOf_24 ?_
      refine lv_goto (tgt := 32) hx hb dX11_styleOf_25 rfl ?_
      exact N_X11_styleOf_32 X hP hS (lv_sub hl [] rfl) h
theorem ww_X11_styleOf : Cond.instanceMethod yX11_styleOf ∈ BG ∧ Cond.selects (yX11_styleOf).cls yX11_styleOf yX11_styleOf ∈ BG ∧ Cond.initialized (yX11_styleOf).cls ∈ BG ∧ Cond.code yX11_styleOf cX11_styleOf 3 (some (.object "Cascadery$Style")) ∈ BG := ⟨w_983, w_29, w_56, w_984⟩
theorem hy_X11_styleOf : (yX11_styleOf).cls ≠ "java/lang/invoke/MethodHandle" ∧ (yX11_styleOf).cls ≠ "java/lang/invoke/VarHandle" ∧ (parseMethodDescriptor (yX11_styleOf).desc).map (fun d => d.parameters.length) = some 2 := ⟨by decide, by decide, by decide +kernel⟩
def f_X11_holderOf_5  (x0 : Nat) : Nat → Int32 → Option Nat → cS → Option (Option Nat)
  | 0, _, _, _ => none
  | n + 1, x2, x3, σ => if x3 = none then (some none) else ((rc σ (some x0) 11).bind (fun v1 => (f_X11_styleOf v1 (x3) (x2) σ).bind (fun v2 => (gR σ v2 9 0).bind (fun v3 => (aI σ v3 (6:Int32)).bind (fun v4 => if v4 ≤ (0:Int32) then ((gR σ x3 3 16).bind (fun v5 => f_X11_holderOf_5 x0 n (x2) (v5) σ)) else (some v2))))))
def f_X11_holderOf (x0 : Nat) (x1 : Option Nat) (x2 : Int32) (σ : cS) : Option (Option Nat) := (gR σ x1 3 16).bind (fun v1 => f_X11_holderOf_5 x0 4000 (x2) (v1) σ)
set_option maxRecDepth 20000 in
set_option maxHeartbeats 4000000 in
theorem N_X11_holderOf_5 {p : Program} {l : Launch} {e : Env} {s : State} {m : MethodId} {args : Array Value} {below : List Frame} {meth : Method} {c : Code} {D : cD} {Φ : cG} {x0 : Nat}  {n : Nat} {x2 : Int32} {x3 : Option Nat} {σ : cS} {ls : Array Slot} {r : Option Nat} (X : cX p s m args meth c cX11_holderOf 5 (some (.object "Cascadery$Style")) RX11 D Φ) (hP : cP D Φ σ s.heap) (hS : va_S (cReg Φ) s.heap s.heap [])  (hl : lv_has ls 5 [(0, cv Φ (some x0)), (2, .int x2), (3, cv Φ x3)]) (h : f_X11_holderOf_5  x0 n x2 x3 σ = some r) : cWr p l e 2 43 s m args below meth c (some (cv Φ r)) (F0 m 5 ls []) := by
  have hx := X.1
  have hb := X.2.1
  have hown := X.2.2.2.1
  have hts := X.2.2.2.2.1
  induction n generalizing x2 x3 ls with
  | zero => exact absurd (show none = some r from h) (by simp)
  | succ n ih =>
    have h : (if x3 = none then (some none) else ((rc σ (some x0) 11).bind (fun v1 => (f_X11_styleOf v1 (x3) (x2) σ).bind (fun v2 => (gR σ v2 9 0).bind (fun v3 => (aI σ v3 (6:Int32)).bind (fun v4 => if v4 ≤ (0:Int32) then ((gR σ x3 3 16).bind (fun v5 => f_X11_holderOf_5 x0 n (x2) (v5) σ)) else (some v2))))))) = some r := h
    refine c_aload_n hx hb dX11_holderOf_5 rfl (lv_at hl 2 rfl) ?_
    refine c_ifnull (Φ := Φ) (tgt := 39) hx hb dX11_holderOf_6 rfl (fun hc => ?_) (fun hc => ?_)
    · have h := ip hc h
      refine c_null (Φ := Φ) hx hb dX11_holderOf_39 ?_
      obtain rfl := sj h
      exact c_ra X dX11_holderOf_40
    · have h := ine hc h
      refine c_aload_n hx hb dX11_holderOf_9 rfl (lv_at hl 0 rfl) ?_
      refine c_aload_n hx hb dX11_holderOf_10 rfl (lv_at hl 2 rfl) ?_
      refine lv_iload_n hx hb dX11_holderOf_11 rfl (lv_at hl 1 rfl) ?_
      obtain ⟨v1, hv1, h⟩ := ob h
      obtain ⟨v2, hv2, h⟩ := ob h
      refine c_cr (c_runV X (K_X11_styleOf l D Φ σ v1 (x3) (x2) hv2) hv1 ⟨Nat.le_of_ble_eq_true rfl, by decide⟩ ⟨w_981, ww_X11_styleOf⟩ rfl hy_X11_styleOf rfl ⟨(Nat.le_of_ble_eq_true rfl), (Nat.le_of_ble_eq_true rfl)⟩ hP hS hl.1 (Nat.le_of_ble_eq_true rfl) dX11_holderOf_12 rfl ⟨(Nat.le_of_ble_eq_true rfl), (Nat.le_of_ble_eq_true rfl)⟩) ?_
      refine c_astore hx hb dX11_holderOf_15 hl (Nat.le_of_ble_eq_true rfl) (lvKa rfl (lvKa rfl (lvKr lvK0))) rfl (fun ls (hl : lv_has ls 5 [(4, cv Φ v2), (0, cv Φ (some x0)), (2, .int x2), (3, cv Φ x3)]) => ?_)
      refine c_aload hx hb dX11_holderOf_17 (lv_at hl 0 rfl) ?_
      obtain ⟨v3, hv3, h⟩ := ob h
      refine c_gR X hP hv3 (Nat.le_of_ble_eq_true rfl) (Nat.le_of_ble_eq_true rfl) rfl w_94 dX11_holderOf_19 ?_
      refine lv_bipush (v := (6:Int32)) hx hb dX11_holderOf_22 (by decide) ?_
      obtain ⟨v4, hv4, h⟩ := ob h
      refine c_ald X hP hv4 dX11_holderOf_24 ?_
      refine lv_if_le (tgt := 31) hx hb dX11_holderOf_25 rfl (fun hc => ?_) (fun hc => ?_)
      · have h := ip hc h
        refine c_aload_n hx hb dX11_holderOf_31 rfl (lv_at hl 3 rfl) ?_
        obtain ⟨v5, hv5, h⟩ := ob h
        refine c_gR X hP hv5 (Nat.le_of_ble_eq_true rfl) (Nat.le_of_ble_eq_true rfl) rfl w_273 dX11_holderOf_32 ?_
        refine c_astore_n hx hb dX11_holderOf_35 rfl hl (Nat.le_of_ble_eq_true rfl) (lvKa rfl (lvKa rfl (lvKi (lvKa rfl lvK0)))) rfl (fun ls (hl : lv_has ls 5 [(3, cv Φ v5), (4, cv Φ v2), (0, cv Φ (some x0)), (2, .int x2)]) => ?_)
        refine lv_goto (tgt := 5) hx hb dX11_holderOf_36 rfl ?_
        exact ih (lv_sub hl [2, 3, 0] rfl) h
      · have h := ine hc h
        refine c_aload hx hb dX11_holderOf_28 (lv_at hl 0 rfl) ?_
        obtain rfl := sj h
        exact c_ra X dX11_holderOf_30
set_option maxRecDepth 20000 in
set_option maxHeartbeats 4000000 in
theorem K_X11_holderOf (l : Launch) (D : cD) (Φ : cG) (σ : cS) (x0 : Nat) (x1 : Option Nat) (x2 : Int32) {r : Option Nat} (h : f_X11_holderOf x0 x1 x2 σ = some r) : Met l yX11_holderOf (Cond.code yX11_holderOf cX11_holderOf 5 (some (.object "Cascadery$Style")) :: BG) (rA 2 0 0 43) (cPc D Φ σ [cv Φ (some x0), cv Φ x1, .int x2]) (cQr (some (cv Φ r))) 0 0 (fun _ => False) := by
  refine Met.ofW (cc := cX11_holderOf) (maxL := 5) (ret := (some (.object "Cascadery$Style"))) (by decide) rfl ?_
  intro p e s m args below meth c s₁ B hml hv
  obtain ⟨rfl, hP, hK, hZ⟩ := hv
  have X : cX p s m [cv Φ (some x0), cv Φ x1, .int x2].toArray meth c cX11_holderOf 5 (some (.object "Cascadery$Style")) RX11 D Φ := cX_of B hml hK hZ
  have hx := X.1
  have hb := X.2.1
  have hown := X.2.2.2.1
  have hts := X.2.2.2.2.1
  have hl := lv_entry [cv Φ (some x0), cv Φ x1, .int x2] (n := 5) (by simp only [lgs_r, lgs_i, lgs_l, lgs_0, List.length]; exact Nat.le_of_ble_eq_true rfl)
  rw [lg_entry_eq]
  generalize (lg_sl [cv Φ (some x0), cv Φ x1, .int x2] ++ List.replicate (5 - (lg_sl [cv Φ (some x0), cv Φ x1, .int x2]).length) Slot.unset).toArray = ls at hl ⊢
  simp only [lv_args_r, lv_args_i, lv_args_l, lv_args_0] at hl
  have hl : lv_has ls 5 [(0, cv Φ (some x0)), (1, cv Φ x1), (2, .int x2)] := hl
  have hS : va_S (cReg Φ) s.heap s.heap [] := va_S.rf
  show cWr p l e 2 43 s m [cv Φ (some x0), cv Φ x1, .int x2].toArray below meth c (some (cv Φ r)) (F0 m 0 ls [])
  have h : ((gR σ x1 3 16).bind (fun v1 => f_X11_holderOf_5 x0 4000 (x2) (v1) σ)) = some r := h
  refine c_aload_n hx hb dX11_holderOf_0 rfl (lv_at hl 1 rfl) ?_
  obtain ⟨v1, hv1, h⟩ := ob h
  refine c_gR X hP hv1 (Nat.le_of_ble_eq_true rfl) (Nat.le_of_ble_eq_true rfl) rfl w_273 dX11_holderOf_1 ?_
  refine c_astore_n hx hb dX11_holderOf_4 rfl hl (Nat.le_of_ble_eq_true rfl) (lvKa rfl (lvKa rfl (lvKi lvK0))) rfl (fun ls (hl : lv_has ls 5 [(3, cv Φ v1), (0, cv Φ (some x0)), (1, cv Φ x1), (2, .int x2)]) => ?_)
  exact N_X11_holderOf_5 X hP hS (lv_sub hl [1, 3, 0] rfl) h
theorem ww_X11_holderOf : Cond.instanceMethod yX11_holderOf ∈ BG ∧ Cond.selects (yX11_holderOf).cls yX11_holderOf yX11_holderOf ∈ BG ∧ Cond.initialized (yX11_holderOf).cls ∈ BG ∧ Cond.code yX11_holderOf cX11_holderOf 5 (some (.object "Cascadery$Style")) ∈ BG := ⟨w_979, w_28, w_56, w_980⟩
theorem hy_X11_holderOf : (yX11_holderOf).cls ≠ "java/lang/invoke/MethodHandle" ∧ (yX11_holderOf).cls ≠ "java/lang/invoke/VarHandle" ∧ (parseMethodDescriptor (yX11_holderOf).desc).map (fun d => d.parameters.length) = some 2 := ⟨by decide, by decide, by decide +kernel⟩
def f_X11_findStyle_28  (x0 : Nat) (x1 : Option Nat) (x2 : Option Nat) (x3 : Int32) (x4 : Option Nat) (y0 : Option Nat) (σ : cS) : Option (cS) := (gR σ (some x0) 11 2).bind (fun v1 => (rc σ v1 1).bind (fun v2 => (f_X1_gather v2 (x2) (x4) σ).bind (fun v3 => (gR v3 (some x0) 11 2).bind (fun v4 => (gR v3 v4 1 13).bind (fun v5 => (gR v3 (some x0) 11 0).bind (fun v6 => (gR v3 v6 10 0).bind (fun v7 => (rc v3 (some x0) 11).bind (fun v8 => (f_X11_styleOf v8 (v7) (x3) v3).bind (fun v9 => (gR v3 (some x0) 11 2).bind (fun v10 => (gI v3 v10 1 8).bind (fun v11 => (rc v3 x1 9).bind (fun v12 => (f_X9_findFrom v12 (v5) (y0) (v9) (x4) (v11) v3).bind (fun v13 => some v13)))))))))))))
def f_X11_findStyle (x0 : Nat) (x1 : Option Nat) (x2 : Option Nat) (x3 : Int32) (σ : cS) : Option (cS) := (rc σ (some x0) 11).bind (fun v1 => (f_X11_holderOf v1 (x2) (x3) σ).bind (fun v2 => (gR σ x2 3 16).bind (fun v3 => if v3 = none then (f_X11_findStyle_28 x0 (x1) (x2) (x3) (v2) (none) σ) else ((gR σ x2 3 16).bind (fun v4 => (rc σ (some x0) 11).bind (fun v5 => (f_X11_styleOf v5 (v4) (x3) σ).bind (fun v6 => f_X11_findStyle_28 x0 (x1) (x2) (x3) (v2) (v6) σ)))))))
set_option maxRecDepth 20000 in
set_option maxHeartbeats 4000000 in
theorem N_X11_findStyle_28 {p : Program} {l : Launch} {e : Env} {s : State} {m : MethodId} {args : Array Value} {below : List Frame} {meth : Method} {c : Code} {D : cD} {Φ : cG} {x0 : Nat}   {x1 : Option Nat} {x2 : Option Nat} {x3 : Int32} {x4 : Option Nat} {y0 : Option Nat} {σ : cS} {H : Heap} {locs : List Loc} {ls : Array Slot} {q : cS} (X : cX p s m args meth c cX11_findStyle 6 none RX11 D Φ) (hP : cP D Φ σ H) (hS : va_S (cReg Φ) s.heap H locs)  (hl : lv_has ls 6 [(0, cv Φ (some x0)), (1, cv Φ x1), (2, cv Φ x2), (3, .int x3), (4, cv Φ x4)]) (h : f_X11_findStyle_28  x0 x1 x2 x3 x4 y0 σ = some q) : cWw p l e 3 0 0 86 s m args below meth c D Φ q none H locs 0 0 (F0 m 28 ls [cv Φ y0]) := by
  have hx := X.1
  have hb := X.2.1
  have hown := X.2.2.2.1
  have hts := X.2.2.2.2.1
  have h : ((gR σ (some x0) 11 2).bind (fun v1 => (rc σ v1 1).bind (fun v2 => (f_X1_gather v2 (x2) (x4) σ).bind (fun v3 => (gR v3 (some x0) 11 2).bind (fun v4 => (gR v3 v4 1 13).bind (fun v5 => (gR v3 (some x0) 11 0).bind (fun v6 => (gR v3 v6 10 0).bind (fun v7 => (rc v3 (some x0) 11).bind (fun v8 => (f_X11_styleOf v8 (v7) (x3) v3).bind (fun v9 => (gR v3 (some x0) 11 2).bind (fun v10 => (gI v3 v10 1 8).bind (fun v11 => (rc v3 x1 9).bind (fun v12 => (f_X9_findFrom v12 (v5) (y0) (v9) (x4) (v11) v3).bind (fun v13 => some v13)))))))))))))) = some q := h
  refine c_astore hx hb dX11_findStyle_28 hl (Nat.le_of_ble_eq_true rfl) (lvKa rfl (lvKa rfl (lvKa rfl (lvKa rfl (lvKr lvK0))))) rfl (fun ls (hl : lv_has ls 6 [(5, cv Φ y0), (0, cv Φ (some x0)), (1, cv Φ x1), (2, cv Φ x2), (3, .int x3), (4, cv Φ x4)]) => ?_)
  refine c_aload_n hx hb dX11_findStyle_30 rfl (lv_at hl 1 rfl) ?_
  obtain ⟨v1, hv1, h⟩ := ob h
  refine c_gR X hP hv1 (Nat.le_of_ble_eq_true rfl) (Nat.le_of_ble_eq_true rfl) rfl w_573 dX11_findStyle_31 ?_
  refine c_aload_n hx hb dX11_findStyle_34 rfl (lv_at hl 3 rfl) ?_
  refine c_aload hx hb dX11_findStyle_35 (lv_at hl 5 rfl) ?_
  obtain ⟨v2, hv2, h⟩ := ob h
  obtain ⟨v3, hv3, h⟩ := ob h
  refine c_cw (c_runV X (K_X1_gather l D Φ σ v2 (x2) (x4) hv3) hv2 ⟨Nat.le_of_ble_eq_true rfl, by decide⟩ ⟨w_985, ww_X1_gather⟩ rfl hy_X1_gather rfl ⟨(Nat.le_of_ble_eq_true rfl), (Nat.le_of_ble_eq_true rfl)⟩ hP hS hl.1 (Nat.le_of_ble_eq_true rfl) dX11_findStyle_37 rfl ⟨(Nat.le_of_ble_eq_true rfl), (Nat.le_of_ble_eq_true rfl)⟩) hS (fun H locs hP hS => ?_)
  refine W.eq (g2 := F0 m 40 ls []) rfl ?_
  refine c_aload_n hx hb dX11_findStyle_40 rfl (lv_at hl 2 rfl) ?_
  refine c_aload_n hx hb dX11_findStyle_41 rfl (lv_at hl 1 rfl) ?_
  obtain ⟨v4, hv4, h⟩ := ob h
  refine c_gR X hP hv4 (Nat.le_of_ble_eq_true rfl) (Nat.le_of_ble_eq_true rfl) rfl w_573 dX11_findStyle_42 ?_
  obtain ⟨v5, hv5, h⟩ := ob h
  refine c_gR X hP hv5 (Nat.le_of_ble_eq_true rfl) (Nat.le_of_ble_eq_true rfl) rfl w_519 dX11_findStyle_45 ?_
  refine c_aload hx hb dX11_findStyle_48 (lv_at hl 0 rfl) ?_
  refine c_aload_n hx hb dX11_findStyle_50 rfl (lv_at hl 1 rfl) ?_
  refine c_aload_n hx hb dX11_findStyle_51 rfl (lv_at hl 1 rfl) ?_
  obtain ⟨v6, hv6, h⟩ := ob h
  refine c_gR X hP hv6 (Nat.le_of_ble_eq_true rfl) (Nat.le_of_ble_eq_true rfl) rfl w_571 dX11_findStyle_52 ?_
  obtain ⟨v7, hv7, h⟩ := ob h
  refine c_gR X hP hv7 (Nat.le_of_ble_eq_true rfl) (Nat.le_of_ble_eq_true rfl) rfl w_327 dX11_findStyle_55 ?_
  refine lv_iload_n hx hb dX11_findStyle_58 rfl (lv_at hl 4 rfl) ?_
  obtain ⟨v8, hv8, h⟩ := ob h
  obtain ⟨v9, hv9, h⟩ := ob h
  refine c_cr (c_runV X (K_X11_styleOf l D Φ v3 v8 (v7) (x3) hv9) hv8 ⟨Nat.le_of_ble_eq_true rfl, by decide⟩ ⟨w_981, ww_X11_styleOf⟩ rfl hy_X11_styleOf rfl ⟨(Nat.le_of_ble_eq_true rfl), (Nat.le_of_ble_eq_true rfl)⟩ hP hS hl.1 (Nat.le_of_ble_eq_true rfl) dX11_findStyle_59 rfl ⟨(Nat.le_of_ble_eq_true rfl), (Nat.le_of_ble_eq_true rfl)⟩) ?_
  refine c_aload hx hb dX11_findStyle_62 (lv_at hl 5 rfl) ?_
  refine c_aload_n hx hb dX11_findStyle_64 rfl (lv_at hl 1 rfl) ?_
  obtain ⟨v10, hv10, h⟩ := ob h
  refine c_gR X hP hv10 (Nat.le_of_ble_eq_true rfl) (Nat.le_of_ble_eq_true rfl) rfl w_573 dX11_findStyle_65 ?_
  obtain ⟨v11, hv11, h⟩ := ob h
  refine c_gI X hP hv11 (Nat.le_of_ble_eq_true rfl) (Nat.le_of_ble_eq_true rfl) rfl w_509 dX11_findStyle_68 ?_
  obtain ⟨v12, hv12, h⟩ := ob h
  obtain ⟨v13, hv13, h⟩ := ob h
  refine c_cw (c_runV X (K_X9_findFrom l D Φ v3 v12 (v5) (y0) (v9) (x4) (v11) hv13) hv12 ⟨Nat.le_of_ble_eq_true rfl, by decide⟩ ⟨w_1009, ww_X9_findFrom⟩ rfl hy_X9_findFrom rfl ⟨(Nat.le_of_ble_eq_true rfl), (Nat.le_of_ble_eq_true rfl)⟩ hP hS hl.1 (Nat.le_of_ble_eq_true rfl) dX11_findStyle_71 rfl ⟨(Nat.le_of_ble_eq_true rfl), (Nat.le_of_ble_eq_true rfl)⟩) hS (fun H locs hP hS => ?_)
  refine W.eq (g2 := F0 m 74 ls []) rfl ?_
  obtain rfl := sj h
  exact c_wv X hP hS (Nat.le_of_ble_eq_true rfl) (Nat.le_of_ble_eq_true rfl) dX11_findStyle_74
set_option maxRecDepth 20000 in
set_option maxHeartbeats 4000000 in
theorem K_X11_findStyle (l : Launch) (D : cD) (Φ : cG) (σ : cS) (x0 : Nat) (x1 : Option Nat) (x2 : Option Nat) (x3 : Int32) {q : cS} (h : f_X11_findStyle x0 x1 x2 x3 σ = some q) : Met l yX11_findStyle (Cond.code yX11_findStyle cX11_findStyle 6 none :: BG) (rA 3 0 0 86) (cPc D Φ σ [cv Φ (some x0), cv Φ x1, cv Φ x2, .int x3]) (cQw D Φ q none) 0 0 (cReg Φ) := by
  refine Met.ofW (cc := cX11_findStyle) (maxL := 6) (ret := none) (by decide) rfl ?_
  intro p e s m args below meth c s₁ B hml hv
  obtain ⟨rfl, hP, hK, hZ⟩ := hv
  have X : cX p s m [cv Φ (some x0), cv Φ x1, cv Φ x2, .int x3].toArray meth c cX11_findStyle 6 none RX11 D Φ := cX_of B hml hK hZ
  have hx := X.1
  have hb := X.2.1
  have hown := X.2.2.2.1
  have hts := X.2.2.2.2.1
  have hl := lv_entry [cv Φ (some x0), cv Φ x1, cv Φ x2, .int x3] (n := 6) (by simp only [lgs_r, lgs_i, lgs_l, lgs_0, List.length]; exact Nat.le_of_ble_eq_true rfl)
  rw [lg_entry_eq]
  generalize (lg_sl [cv Φ (some x0), cv Φ x1, cv Φ x2, .int x3] ++ List.replicate (6 - (lg_sl [cv Φ (some x0), cv Φ x1, cv Φ x2, .int x3]).length) Slot.unset).toArray = ls at hl ⊢
  simp only [lv_args_r, lv_args_i, lv_args_l, lv_args_0] at hl
  have hl : lv_has ls 6 [(0, cv Φ (some x0)), (1, cv Φ x1), (2, cv Φ x2), (3, .int x3)] := hl
  have hS : va_S (cReg Φ) s.heap s.heap [] := va_S.rf
  show cWw p l e 3 0 0 86 s m [cv Φ (some x0), cv Φ x1, cv Φ x2, .int x3].toArray below meth c D Φ q none s.heap [] 0 0 (F0 m 0 ls [])
  have h : ((rc σ (some x0) 11).bind (fun v1 => (f_X11_holderOf v1 (x2) (x3) σ).bind (fun v2 => (gR σ x2 3 16).bind (fun v3 => if v3 = none then (f_X11_findStyle_28 x0 (x1) (x2) (x3) (v2) (none) σ) else ((gR σ x2 3 16).bind (fun v4 => (rc σ (some x0) 11).bind (fun v5 => (f_X11_styleOf v5 (v4) (x3) σ).bind (fun v6 => f_X11_findStyle_28 x0 (x1) (x2) (x3) (v2) (v6) σ)))))))) = some q := h
  refine c_aload_n hx hb dX11_findStyle_0 rfl (lv_at hl 0 rfl) ?_
  refine c_aload_n hx hb dX11_findStyle_1 rfl (lv_at hl 2 rfl) ?_
  refine lv_iload_n hx hb dX11_findStyle_2 rfl (lv_at hl 3 rfl) ?_
  obtain ⟨v1, hv1, h⟩ := ob h
  obtain ⟨v2, hv2, h⟩ := ob h
  refine c_cr (c_runV X (K_X11_holderOf l D Φ σ v1 (x2) (x3) hv2) hv1 ⟨Nat.le_of_ble_eq_true rfl, by decide⟩ ⟨w_977, ww_X11_holderOf⟩ rfl hy_X11_holderOf rfl ⟨(Nat.le_of_ble_eq_true rfl), (Nat.le_of_ble_eq_true rfl)⟩ hP hS hl.1 (Nat.le_of_ble_eq_true rfl) dX11_findStyle_3 rfl ⟨(Nat.le_of_ble_eq_true rfl), (Nat.le_of_ble_eq_true rfl)⟩) ?_
  refine c_astore hx hb dX11_findStyle_6 hl (Nat.le_of_ble_eq_true rfl) (lvKa rfl (lvKa rfl (lvKa rfl (lvKi lvK0)))) rfl (fun ls (hl : lv_has ls 6 [(4, cv Φ v2), (0, cv Φ (some x0)), (1, cv Φ x1), (2, cv Φ x2), (3, .int x3)]) => ?_)
  refine c_aload_n hx hb dX11_findStyle_8 rfl (lv_at hl 3 rfl) ?_
  obtain ⟨v3, hv3, h⟩ := ob h
  refine c_gR X hP hv3 (Nat.le_of_ble_eq_true rfl) (Nat.le_of_ble_eq_true rfl) rfl w_273 dX11_findStyle_9 ?_
  refine c_ifnonnull (Φ := Φ) (tgt := 19) hx hb dX11_findStyle_12 rfl (fun hc => ?_) (fun hc => ?_)
  · have h := ine hc h
    refine c_aload_n hx hb dX11_findStyle_19 rfl (lv_at hl 1 rfl) ?_
    refine c_aload_n hx hb dX11_findStyle_20 rfl (lv_at hl 3 rfl) ?_
    obtain ⟨v4, hv4, h⟩ := ob h
    refine c_gR X hP hv4 (Nat.le_of_ble_eq_true rfl) (Nat.le_of_ble_eq_true rfl) rfl w_273 dX11_findStyle_21 ?_
    refine lv_iload_n hx hb dX11_findStyle_24 rfl (lv_at hl 4 rfl) ?_
    obtain ⟨v5, hv5, h⟩ := ob h
    obtain ⟨v6, hv6, h⟩ := ob h
    refine c_cr (c_runV X (K_X11_styleOf l D Φ σ v5 (v4) (x3) hv6) hv5 ⟨Nat.le_of_ble_eq_true rfl, by decide⟩ ⟨w_981, ww_X11_styleOf⟩ rfl hy_X11_styleOf rfl ⟨(Nat.le_of_ble_eq_true rfl), (Nat.le_of_ble_eq_true rfl)⟩ hP hS hl.1 (Nat.le_of_ble_eq_true rfl) dX11_findStyle_25 rfl ⟨(Nat.le_of_ble_eq_true rfl), (Nat.le_of_ble_eq_true rfl)⟩) ?_
    exact N_X11_findStyle_28 X hP hS (lv_sub hl [1, 2, 3, 4, 0] rfl) h
  · have h := ip hc h
    refine c_null (Φ := Φ) hx hb dX11_findStyle_15 ?_
    refine lv_goto (tgt := 28) hx hb dX11_findStyle_16 rfl ?_
    exact N_X11_findStyle_28 X hP hS (lv_sub hl [1, 2, 3, 4, 0] rfl) h
theorem ww_X11_findStyle : Cond.instanceMethod yX11_findStyle ∈ BG ∧ Cond.selects (yX11_findStyle).cls yX11_findStyle yX11_findStyle ∈ BG ∧ Cond.initialized (yX11_findStyle).cls ∈ BG ∧ Cond.code yX11_findStyle cX11_findStyle 6 none ∈ BG := ⟨w_975, w_27, w_56, w_976⟩
theorem hy_X11_findStyle : (yX11_findStyle).cls ≠ "java/lang/invoke/MethodHandle" ∧ (yX11_findStyle).cls ≠ "java/lang/invoke/VarHandle" ∧ (parseMethodDescriptor (yX11_findStyle).desc).map (fun d => d.parameters.length) = some 3 := ⟨by decide, by decide, by decide +kernel⟩
def f_X11_animationAt_18  (x0 : Nat) (y0 : Option Nat) (σ : cS) : Option (Option Nat) := some y0
def f_X11_animationAt (x0 : Nat) (x1 : Int32) (σ : cS) : Option (Option Nat) := (f_X11_isBelow (x1) ((4:Int32))).bind (fun v1 => if v1 = (0:Int32) then (f_X11_animationAt_18 x0 (none) σ) else ((gR σ (some x0) 11 3).bind (fun v2 => (aR σ v2 30 x1).bind (fun v3 => f_X11_animationAt_18 x0 (v3) σ))))
set_option maxRecDepth 20000 in
set_option maxHeartbeats 4000000 in
theorem N_X11_animationAt_18 {p : Program} {l : Launch} {e : Env} {s : State} {m : MethodId} {args : Array Value} {below : List Frame} {meth : Method} {c : Code} {D : cD} {Φ : cG} {x0 : Nat}   {y0 : Option Nat} {σ : cS} {ls : Array Slot} {r : Option Nat} (X : cX p s m args meth c cX11_animationAt 2 (some (.object "Cascadery$Animation")) RX11 D Φ) (hP : cP D Φ σ s.heap) (hS : va_S (cReg Φ) s.heap s.heap [])  (hl : lv_has ls 2 []) (h : f_X11_animationAt_18  x0 y0 σ = some r) : cWr p l e 1 21 s m args below meth c (some (cv Φ r)) (F0 m 18 ls [cv Φ y0]) := by
  have hx := X.1
  have hb := X.2.1
  have hown := X.2.2.2.1
  have hts := X.2.2.2.2.1
  have h : (some y0) = some r := h
  obtain rfl := sj h
  exact c_ra X dX11_animationAt_18
set_option maxRecDepth 20000 in
set_option maxHeartbeats 4000000 in
theorem K_X11_animationAt (l : Launch) (D : cD) (Φ : cG) (σ : cS) (x0 : Nat) (x1 : Int32) {r : Option Nat} (h : f_X11_animationAt x0 x1 σ = some r) : Met l yX11_animationAt (Cond.code yX11_animationAt cX11_animationAt 2 (some (.object "Cascadery$Animation")) :: BG) (rA 1 0 0 21) (cPc D Φ σ [cv Φ (some x0), .int x1]) (cQr (some (cv Φ r))) 0 0 (fun _ => False) := by
  refine Met.ofW (cc := cX11_animationAt) (maxL := 2) (ret := (some (.object "Cascadery$Animation"))) (by decide) rfl ?_
  intro p e s m args below meth c s₁ B hml hv
  obtain ⟨rfl, hP, hK, hZ⟩ := hv
  have X : cX p s m [cv Φ (some x0), .int x1].toArray meth c cX11_animationAt 2 (some (.object "Cascadery$Animation")) RX11 D Φ := cX_of B hml hK hZ
  have hx := X.1
  have hb := X.2.1
  have hown := X.2.2.2.1
  have hts := X.2.2.2.2.1
  have hl := lv_entry [cv Φ (some x0), .int x1] (n := 2) (by simp only [lgs_r, lgs_i, lgs_l, lgs_0, List.length]; exact Nat.le_of_ble_eq_true rfl)
  rw [lg_entry_eq]
  generalize (lg_sl [cv Φ (some x0), .int x1] ++ List.replicate (2 - (lg_sl [cv Φ (some x0), .int x1]).length) Slot.unset).toArray = ls at hl ⊢
  simp only [lv_args_r, lv_args_i, lv_args_l, lv_args_0] at hl
  have hl : lv_has ls 2 [(0, cv Φ (some x0)), (1, .int x1)] := hl
  have hS : va_S (cReg Φ) s.heap s.heap [] := va_S.rf
  show cWr p l e 1 21 s m [cv Φ (some x0), .int x1].toArray below meth c (some (cv Φ r)) (F0 m 0 ls [])
  have h : ((f_X11_isBelow (x1) ((4:Int32))).bind (fun v1 => if v1 = (0:Int32) then (f_X11_animationAt_18 x0 (none) σ) else ((gR σ (some x0) 11 3).bind (fun v2 => (aR σ v2 30 x1).bind (fun v3 => f_X11_animationAt_18 x0 (v3) σ))))) = some r := h
  refine lv_iload_n hx hb dX11_animationAt_0 rfl (lv_at hl 1 rfl) ?_
  refine lv_iconst (v := (4:Int32)) hx hb dX11_animationAt_1 (by decide) ?_
  obtain ⟨v1, hv1, h⟩ := ob h
  refine c_cr (c_runS X (K_X11_isBelow l D Φ σ (x1) ((4:Int32)) hv1) ⟨w_635, ww_X11_isBelow⟩ hy_X11_isBelow rfl ⟨(Nat.le_of_ble_eq_true rfl), (Nat.le_of_ble_eq_true rfl)⟩ hP hS hl.1 (Nat.le_of_ble_eq_true rfl) dX11_animationAt_2 rfl ⟨(Nat.le_of_ble_eq_true rfl), (Nat.le_of_ble_eq_true rfl)⟩) ?_
  refine lv_if_eq (tgt := 17) hx hb dX11_animationAt_5 rfl (fun hc => ?_) (fun hc => ?_)
  · have h := ip hc h
    refine c_null (Φ := Φ) hx hb dX11_animationAt_17 ?_
    exact N_X11_animationAt_18 X hP hS (lv_sub hl [] rfl) h
  · have h := ine hc h
    refine c_aload_n hx hb dX11_animationAt_8 rfl (lv_at hl 0 rfl) ?_
    obtain ⟨v2, hv2, h⟩ := ob h
    refine c_gR X hP hv2 (Nat.le_of_ble_eq_true rfl) (Nat.le_of_ble_eq_true rfl) rfl w_574 dX11_animationAt_9 ?_
    refine lv_iload_n hx hb dX11_animationAt_12 rfl (lv_at hl 1 rfl) ?_
    obtain ⟨v3, hv3, h⟩ := ob h
    refine c_aldq X hP hv3 (ty := .object "Cascadery$Animation") rfl (by decide) rfl dX11_animationAt_13 ?_
    refine lv_goto (tgt := 18) hx hb dX11_animationAt_14 rfl ?_
    exact N_X11_animationAt_18 X hP hS (lv_sub hl [] rfl) h
theorem ww_X11_animationAt : Cond.instanceMethod yX11_animationAt ∈ BG ∧ Cond.selects (yX11_animationAt).cls yX11_animationAt yX11_animationAt ∈ BG ∧ Cond.initialized (yX11_animationAt).cls ∈ BG ∧ Cond.code yX11_animationAt cX11_animationAt 2 (some (.object "Cascadery$Animation")) ∈ BG := ⟨w_1053, w_40, w_56, w_1054⟩
theorem hy_X11_animationAt : (yX11_animationAt).cls ≠ "java/lang/invoke/MethodHandle" ∧ (yX11_animationAt).cls ≠ "java/lang/invoke/VarHandle" ∧ (parseMethodDescriptor (yX11_animationAt).desc).map (fun d => d.parameters.length) = some 1 := ⟨by decide, by decide, by decide +kernel⟩
def f_X11_playedFor (x0 : Nat) (x1 : Option Nat) (σ : cS) : Option (Option Nat) := (gR σ x1 9 0).bind (fun v1 => (aI σ v1 (11:Int32)).bind (fun v2 => (rc σ (some x0) 11).bind (fun v3 => (f_X11_animationAt v3 (v2) σ).bind (fun v4 => some v4))))
set_option maxRecDepth 20000 in
set_option maxHeartbeats 4000000 in
theorem K_X11_playedFor (l : Launch) (D : cD) (Φ : cG) (σ : cS) (x0 : Nat) (x1 : Option Nat) {r : Option Nat} (h : f_X11_playedFor x0 x1 σ = some r) : Met l yX11_playedFor (Cond.code yX11_playedFor cX11_playedFor 2 (some (.object "Cascadery$Animation")) :: BG) (rA 2 0 0 42) (cPc D Φ σ [cv Φ (some x0), cv Φ x1]) (cQr (some (cv Φ r))) 0 0 (fun _ => False) := by
  refine Met.ofW (cc := cX11_playedFor) (maxL := 2) (ret := (some (.object "Cascadery$Animation"))) (by decide) rfl ?_
  intro p e s m args below meth c s₁ B hml hv
  obtain ⟨rfl, hP, hK, hZ⟩ := hv
  have X : cX p s m [cv Φ (some x0), cv Φ x1].toArray meth c cX11_playedFor 2 (some (.object "Cascadery$Animation")) RX11 D Φ := cX_of B hml hK hZ
  have hx := X.1
  have hb := X.2.1
  have hown := X.2.2.2.1
  have hts := X.2.2.2.2.1
  have hl := lv_entry [cv Φ (some x0), cv Φ x1] (n := 2) (by simp only [lgs_r, lgs_i, lgs_l, lgs_0, List.length]; exact Nat.le_of_ble_eq_true rfl)
  rw [lg_entry_eq]
  generalize (lg_sl [cv Φ (some x0), cv Φ x1] ++ List.replicate (2 - (lg_sl [cv Φ (some x0), cv Φ x1]).length) Slot.unset).toArray = ls at hl ⊢
  simp only [lv_args_r, lv_args_i, lv_args_l, lv_args_0] at hl
  have hl : lv_has ls 2 [(0, cv Φ (some x0)), (1, cv Φ x1)] := hl
  have hS : va_S (cReg Φ) s.heap s.heap [] := va_S.rf
  show cWr p l e 2 42 s m [cv Φ (some x0), cv Φ x1].toArray below meth c (some (cv Φ r)) (F0 m 0 ls [])
  have h : ((gR σ x1 9 0).bind (fun v1 => (aI σ v1 (11:Int32)).bind (fun v2 => (rc σ (some x0) 11).bind (fun v3 => (f_X11_animationAt v3 (v2) σ).bind (fun v4 => some v4))))) = some r := h
  refine c_aload_n hx hb dX11_playedFor_0 rfl (lv_at hl 0 rfl) ?_
  refine c_aload_n hx hb dX11_playedFor_1 rfl (lv_at hl 1 rfl) ?_
  obtain ⟨v1, hv1, h⟩ := ob h
  refine c_gR X hP hv1 (Nat.le_of_ble_eq_true rfl) (Nat.le_of_ble_eq_true rfl) rfl w_94 dX11_playedFor_2 ?_
  refine lv_bipush (v := (11:Int32)) hx hb dX11_playedFor_5 (by decide) ?_
  obtain ⟨v2, hv2, h⟩ := ob h
  refine c_ald X hP hv2 dX11_playedFor_7 ?_
  obtain ⟨v3, hv3, h⟩ := ob h
  obtain ⟨v4, hv4, h⟩ := ob h
  refine c_cr (c_runV X (K_X11_animationAt l D Φ σ v3 (v2) hv4) hv3 ⟨Nat.le_of_ble_eq_true rfl, by decide⟩ ⟨w_1051, ww_X11_animationAt⟩ rfl hy_X11_animationAt rfl ⟨(Nat.le_of_ble_eq_true rfl), (Nat.le_of_ble_eq_true rfl)⟩ hP hS hl.1 (Nat.le_of_ble_eq_true rfl) dX11_playedFor_8 rfl ⟨(Nat.le_of_ble_eq_true rfl), (Nat.le_of_ble_eq_true rfl)⟩) ?_
  obtain rfl := sj h
  exact c_ra X dX11_playedFor_11
theorem ww_X11_playedFor : Cond.instanceMethod yX11_playedFor ∈ BG ∧ Cond.selects (yX11_playedFor).cls yX11_playedFor yX11_playedFor ∈ BG ∧ Cond.initialized (yX11_playedFor).cls ∈ BG ∧ Cond.code yX11_playedFor cX11_playedFor 2 (some (.object "Cascadery$Animation")) ∈ BG := ⟨w_1049, w_39, w_56, w_1050⟩
theorem hy_X11_playedFor : (yX11_playedFor).cls ≠ "java/lang/invoke/MethodHandle" ∧ (yX11_playedFor).cls ≠ "java/lang/invoke/VarHandle" ∧ (parseMethodDescriptor (yX11_playedFor).desc).map (fun d => d.parameters.length) = some 1 := ⟨by decide, by decide, by decide +kernel⟩
def f_X11_isLikePrevious_56  (x0 : Nat) (y0 : Int32) (σ : cS) : Option (Int32) := rz y0
def f_X11_isLikePrevious_55  (x0 : Nat)  (σ : cS) : Option (Int32) := f_X11_isLikePrevious_56 x0 ((0:Int32)) σ
def f_X11_isLikePrevious (x0 : Nat) (x1 : Option Nat) (σ : cS) : Option (Int32) := (gR σ x1 3 13).bind (fun v1 => if v1 = none then (f_X11_isLikePrevious_55 x0 σ) else ((gI σ (some x0) 11 14).bind (fun v2 => (gI σ v1 3 0).bind (fun v3 => (f_X11_isMember (v2) (v3)).bind (fun v4 => if v4 = (0:Int32) then (f_X11_isLikePrevious_55 x0 σ) else ((gR σ (some x0) 11 2).bind (fun v5 => (gI σ v5 1 11).bind (fun v6 => if v6 = (0:Int32) then ((gR σ (some x0) 11 2).bind (fun v7 => (gI σ v7 1 12).bind (fun v8 => if v8 = (0:Int32) then ((rc σ x1 3).bind (fun v9 => (f_X3_looksLike v9 (v1) σ).bind (fun v10 => if v10 = (0:Int32) then (f_X11_isLikePrevious_55 x0 σ) else (f_X11_isLikePrevious_56 x0 ((1:Int32)) σ)))) else (f_X11_isLikePrevious_55 x0 σ)))) else (f_X11_isLikePrevious_55 x0 σ)))))))))
set_option maxRecDepth 20000 in
set_option maxHeartbeats 4000000 in
theorem N_X11_isLikePrevious_56 {p : Program} {l : Launch} {e : Env} {s : State} {m : MethodId} {args : Array Value} {below : List Frame} {meth : Method} {c : Code} {D : cD} {Φ : cG} {x0 : Nat}   {y0 : Int32} {σ : cS} {ls : Array Slot} {r : Int32} (X : cX p s m args meth c cX11_isLikePrevious 3 (some .boolean) RX11 D Φ) (hP : cP D Φ σ s.heap) (hS : va_S (cReg Φ) s.heap s.heap [])  (hl : lv_has ls 3 []) (h : f_X11_isLikePrevious_56  x0 y0 σ = some r) : cWr p l e 1 21 s m args below meth c (some (.int r)) (F0 m 56 ls [.int y0]) := by
  have hx := X.1
  have hb := X.2.1
  have hown := X.2.2.2.1
  have hts := X.2.2.2.2.1
  have h : (rz y0) = some r := h
  obtain ⟨hz, rfl⟩ := rz_spec h
  exact c_rz X hz dX11_isLikePrevious_56
set_option maxRecDepth 20000 in
set_option maxHeartbeats 4000000 in
theorem N_X11_isLikePrevious_55 {p : Program} {l : Launch} {e : Env} {s : State} {m : MethodId} {args : Array Value} {below : List Frame} {meth : Method} {c : Code} {D : cD} {Φ : cG} {x0 : Nat}    {σ : cS} {ls : Array Slot} {r : Int32} (X : cX p s m args meth c cX11_isLikePrevious 3 (some .boolean) RX11 D Φ) (hP : cP D Φ σ s.heap) (hS : va_S (cReg Φ) s.heap s.heap [])  (hl : lv_has ls 3 []) (h : f_X11_isLikePrevious_55  x0  σ = some r) : cWr p l e 1 21 s m args below meth c (some (.int r)) (F0 m 55 ls []) := by
  have hx := X.1
  have hb := X.2.1
  have hown := X.2.2.2.1
  have hts := X.2.2.2.2.1
  have h : (f_X11_isLikePrevious_56 x0 ((0:Int32)) σ) = some r := h
  refine lv_iconst (v := (0:Int32)) hx hb dX11_isLikePrevious_55 (by decide) ?_
  exact N_X11_isLikePrevious_56 X hP hS (lv_sub hl [] rfl) h
set_option maxRecDepth 20000 in
set_option maxHeartbeats 4000000 in
theorem K_X11_isLikePrevious (l : Launch) (D : cD) (Φ : cG) (σ : cS) (x0 : Nat) (x1 : Option Nat) {r : Int32} (h : f_X11_isLikePrevious x0 x1 σ = some r) : Met l yX11_isLikePrevious (Cond.code yX11_isLikePrevious cX11_isLikePrevious 3 (some .boolean) :: BG) (rA 1 0 0 21) (cPc D Φ σ [cv Φ (some x0), cv Φ x1]) (cQr (some (.int r))) 0 0 (fun _ => False) := by
  refine Met.ofW (cc := cX11_isLikePrevious) (maxL := 3) (ret := (some .boolean)) (by decide) rfl ?_
  intro p e s m args below meth c s₁ B hml hv
  obtain ⟨rfl, hP, hK, hZ⟩ := hv
  have X : cX p s m [cv Φ (some x0), cv Φ x1].toArray meth c cX11_isLikePrevious 3 (some .boolean) RX11 D Φ := cX_of B hml hK hZ
  have hx := X.1
  have hb := X.2.1
  have hown := X.2.2.2.1
  have hts := X.2.2.2.2.1
  have hl := lv_entry [cv Φ (some x0), cv Φ x1] (n := 3) (by simp only [lgs_r, lgs_i, lgs_l, lgs_0, List.length]; exact Nat.le_of_ble_eq_true rfl)
  rw [lg_entry_eq]
  generalize (lg_sl [cv Φ (some x0), cv Φ x1] ++ List.replicate (3 - (lg_sl [cv Φ (some x0), cv Φ x1]).length) Slot.unset).toArray = ls at hl ⊢
  simp only [lv_args_r, lv_args_i, lv_args_l, lv_args_0] at hl
  have hl : lv_has ls 3 [(0, cv Φ (some x0)), (1, cv Φ x1)] := hl
  have hS : va_S (cReg Φ) s.heap s.heap [] := va_S.rf
  show cWr p l e 1 21 s m [cv Φ (some x0), cv Φ x1].toArray below meth c (some (.int r)) (F0 m 0 ls [])
  have h : ((gR σ x1 3 13).bind (fun v1 => if v1 = none then (f_X11_isLikePrevious_55 x0 σ) else ((gI σ (some x0) 11 14).bind (fun v2 => (gI σ v1 3 0).bind (fun v3 => (f_X11_isMember (v2) (v3)).bind (fun v4 => if v4 = (0:Int32) then (f_X11_isLikePrevious_55 x0 σ) else ((gR σ (some x0) 11 2).bind (fun v5 => (gI σ v5 1 11).bind (fun v6 => if v6 = (0:Int32) then ((gR σ (some x0) 11 2).bind (fun v7 => (gI σ v7 1 12).bind (fun v8 => if v8 = (0:Int32) then ((rc σ x1 3).bind (fun v9 => (f_X3_looksLike v9 (v1) σ).bind (fun v10 => if v10 = (0:Int32) then (f_X11_isLikePrevious_55 x0 σ) else (f_X11_isLikePrevious_56 x0 ((1:Int32)) σ)))) else (f_X11_isLikePrevious_55 x0 σ)))) else (f_X11_isLikePrevious_55 x0 σ)))))))))) = some r := h
  refine c_aload_n hx hb dX11_isLikePrevious_0 rfl (lv_at hl 1 rfl) ?_
  obtain ⟨v1, hv1, h⟩ := ob h
  refine c_gR X hP hv1 (Nat.le_of_ble_eq_true rfl) (Nat.le_of_ble_eq_true rfl) rfl w_266 dX11_isLikePrevious_1 ?_
  refine c_astore_n hx hb dX11_isLikePrevious_4 rfl hl (Nat.le_of_ble_eq_true rfl) (lvKa rfl (lvKr lvK0)) rfl (fun ls (hl : lv_has ls 3 [(2, cv Φ v1), (0, cv Φ (some x0)), (1, cv Φ x1)]) => ?_)
  refine c_aload_n hx hb dX11_isLikePrevious_5 rfl (lv_at hl 0 rfl) ?_
  refine c_ifnull (Φ := Φ) (tgt := 55) hx hb dX11_isLikePrevious_6 rfl (fun hc => ?_) (fun hc => ?_)
  · have h := ip hc h
    exact N_X11_isLikePrevious_55 X hP hS (lv_sub hl [] rfl) h
  · have h := ine hc h
    refine c_aload_n hx hb dX11_isLikePrevious_9 rfl (lv_at hl 1 rfl) ?_
    obtain ⟨v2, hv2, h⟩ := ob h
    refine c_gI X hP hv2 (Nat.le_of_ble_eq_true rfl) (Nat.le_of_ble_eq_true rfl) rfl w_585 dX11_isLikePrevious_10 ?_
    refine c_aload_n hx hb dX11_isLikePrevious_13 rfl (lv_at hl 0 rfl) ?_
    obtain ⟨v3, hv3, h⟩ := ob h
    refine c_gI X hP hv3 (Nat.le_of_ble_eq_true rfl) (Nat.le_of_ble_eq_true rfl) rfl w_227 dX11_isLikePrevious_14 ?_
    obtain ⟨v4, hv4, h⟩ := ob h
    refine c_cr (c_runS X (K_X11_isMember l D Φ σ (v2) (v3) hv4) ⟨w_966, ww_X11_isMember⟩ hy_X11_isMember rfl ⟨(Nat.le_of_ble_eq_true rfl), (Nat.le_of_ble_eq_true rfl)⟩ hP hS hl.1 (Nat.le_of_ble_eq_true rfl) dX11_isLikePrevious_17 rfl ⟨(Nat.le_of_ble_eq_true rfl), (Nat.le_of_ble_eq_true rfl)⟩) ?_
    refine lv_if_eq (tgt := 55) hx hb dX11_isLikePrevious_20 rfl (fun hc => ?_) (fun hc => ?_)
    · have h := ip hc h
      exact N_X11_isLikePrevious_55 X hP hS (lv_sub hl [] rfl) h
    · have h := ine hc h
      refine c_aload_n hx hb dX11_isLikePrevious_23 rfl (lv_at hl 1 rfl) ?_
      obtain ⟨v5, hv5, h⟩ := ob h
      refine c_gR X hP hv5 (Nat.le_of_ble_eq_true rfl) (Nat.le_of_ble_eq_true rfl) rfl w_573 dX11_isLikePrevious_24 ?_
      obtain ⟨v6, hv6, h⟩ := ob h
      refine c_gI X hP hv6 (Nat.le_of_ble_eq_true rfl) (Nat.le_of_ble_eq_true rfl) rfl w_515 dX11_isLikePrevious_27 ?_
      refine lv_if_ne (tgt := 55) hx hb dX11_isLikePrevious_30 rfl (fun hc => ?_) (fun hc => ?_)
      · have h := ine hc h
        exact N_X11_isLikePrevious_55 X hP hS (lv_sub hl [] rfl) h
      · have h := ip hc h
        refine c_aload_n hx hb dX11_isLikePrevious_33 rfl (lv_at hl 1 rfl) ?_
        obtain ⟨v7, hv7, h⟩ := ob h
        refine c_gR X hP hv7 (Nat.le_of_ble_eq_true rfl) (Nat.le_of_ble_eq_true rfl) rfl w_573 dX11_isLikePrevious_34 ?_
        obtain ⟨v8, hv8, h⟩ := ob h
        refine c_gI X hP hv8 (Nat.le_of_ble_eq_true rfl) (Nat.le_of_ble_eq_true rfl) rfl w_517 dX11_isLikePrevious_37 ?_
        refine lv_if_ne (tgt := 55) hx hb dX11_isLikePrevious_40 rfl (fun hc => ?_) (fun hc => ?_)
        · have h := ine hc h
          exact N_X11_isLikePrevious_55 X hP hS (lv_sub hl [] rfl) h
        · have h := ip hc h
          refine c_aload_n hx hb dX11_isLikePrevious_43 rfl (lv_at hl 2 rfl) ?_
          refine c_aload_n hx hb dX11_isLikePrevious_44 rfl (lv_at hl 0 rfl) ?_
          obtain ⟨v9, hv9, h⟩ := ob h
          obtain ⟨v10, hv10, h⟩ := ob h
          refine c_cr (c_runV X (K_X3_looksLike l D Φ σ v9 (v1) hv10) hv9 ⟨Nat.le_of_ble_eq_true rfl, by decide⟩ ⟨w_1076, ww_X3_looksLike⟩ rfl hy_X3_looksLike rfl ⟨(Nat.le_of_ble_eq_true rfl), (Nat.le_of_ble_eq_true rfl)⟩ hP hS hl.1 (Nat.le_of_ble_eq_true rfl) dX11_isLikePrevious_45 rfl ⟨(Nat.le_of_ble_eq_true rfl), (Nat.le_of_ble_eq_true rfl)⟩) ?_
          refine lv_if_eq (tgt := 55) hx hb dX11_isLikePrevious_48 rfl (fun hc => ?_) (fun hc => ?_)
          · have h := ip hc h
            exact N_X11_isLikePrevious_55 X hP hS (lv_sub hl [] rfl) h
          · have h := ine hc h
            refine lv_iconst (v := (1:Int32)) hx hb dX11_isLikePrevious_51 (by decide) ?_
            refine lv_goto (tgt := 56) hx hb dX11_isLikePrevious_52 rfl ?_
            exact N_X11_isLikePrevious_56 X hP hS (lv_sub hl [] rfl) h
theorem ww_X11_isLikePrevious : Cond.instanceMethod yX11_isLikePrevious ∈ BG ∧ Cond.selects (yX11_isLikePrevious).cls yX11_isLikePrevious yX11_isLikePrevious ∈ BG ∧ Cond.initialized (yX11_isLikePrevious).cls ∈ BG ∧ Cond.code yX11_isLikePrevious cX11_isLikePrevious 3 (some .boolean) ∈ BG := ⟨w_1074, w_42, w_56, w_1075⟩
theorem hy_X11_isLikePrevious : (yX11_isLikePrevious).cls ≠ "java/lang/invoke/MethodHandle" ∧ (yX11_isLikePrevious).cls ≠ "java/lang/invoke/VarHandle" ∧ (parseMethodDescriptor (yX11_isLikePrevious).desc).map (fun d => d.parameters.length) = some 1 := ⟨by decide, by decide, by decide +kernel⟩
def f_X11_restyle_111  (x0 : Nat) (y0 : Int32) (σ : cS) : Option (Int32 × cS) := lrz y0 σ
def f_X11_restyle_106  (x0 : Nat)  (σ : cS) : Option (Int32 × cS) := f_X11_restyle_111 x0 ((1:Int32)) σ
def f_X11_restyle_77  (x0 : Nat) (x1 : Option Nat) (x2 : Int32) (σ : cS) : Option (Int32 × cS) := (gI σ (some x0) 11 14).bind (fun v1 => (gI σ x1 3 0).bind (fun v2 => (pI σ (some x0) 11 14 (v1 ||| ((1:Int32) <<< (v2 &&& 31)))).bind (fun v3 => if x2 = (0:Int32) then ((gR v3 x1 3 19).bind (fun v4 => (gI v3 v4 9 4).bind (fun v5 => if v5 = (0:Int32) then (f_X11_restyle_111 x0 ((0:Int32)) v3) else (f_X11_restyle_106 x0 v3)))) else (f_X11_restyle_106 x0 v3))))
def f_X11_restyle_15  (x0 : Nat) (x1 : Option Nat) (y0 : Int32) (σ : cS) : Option (Int32 × cS) := (gR σ (some x0) 11 8).bind (fun v1 => (rc σ (some x0) 11).bind (fun v2 => (f_X11_findStyle v2 (v1) (x1) ((0:Int32)) σ).bind (fun v3 => (gR v3 x1 3 19).bind (fun v4 => (gR v3 (some x0) 11 8).bind (fun v5 => (gI v3 (some x0) 11 6).bind (fun v6 => (gR v3 x1 3 19).bind (fun v7 => (rc v3 (some x0) 11).bind (fun v8 => (f_X11_playedFor v8 (v7) v3).bind (fun v9 => (rc v3 v4 9).bind (fun v10 => (f_X9_adopt v10 (v5) (v6) (v9) v3).bind (fun v11 => (gI v11 (some x0) 11 12).bind (fun v12 => (pI v11 (some x0) 11 12 (v12 + (1:Int32))).bind (fun v13 => (rc v13 (some x0) 11).bind (fun v14 => (f_X11_isLikePrevious v14 (x1) v13).bind (fun v15 => if v15 = (0:Int32) then (f_X11_restyle_77 x0 (x1) (y0) v13) else ((gI v13 (some x0) 11 13).bind (fun v16 => (pI v13 (some x0) 11 13 (v16 + (1:Int32))).bind (fun v17 => f_X11_restyle_77 x0 (x1) (y0) v17))))))))))))))))))
def f_X11_restyle (x0 : Nat) (x1 : Option Nat) (σ : cS) : Option (Int32 × cS) := (gR σ x1 3 19).bind (fun v1 => (gI σ v1 9 1).bind (fun v2 => if v2 = (0:Int32) then (f_X11_restyle_15 x0 (x1) ((1:Int32)) σ) else (f_X11_restyle_15 x0 (x1) ((0:Int32)) σ)))
set_option maxRecDepth 20000 in
set_option maxHeartbeats 4000000 in
theorem N_X11_restyle_111 {p : Program} {l : Launch} {e : Env} {s : State} {m : MethodId} {args : Array Value} {below : List Frame} {meth : Method} {c : Code} {D : cD} {Φ : cG} {x0 : Nat}   {y0 : Int32} {σ : cS} {H : Heap} {locs : List Loc} {ls : Array Slot} {q : Int32 × cS} (X : cX p s m args meth c cX11_restyle 3 (some .boolean) RX11 D Φ) (hP : cP D Φ σ H) (hS : va_S (cReg Φ) s.heap H locs)  (hl : lv_has ls 3 []) (h : f_X11_restyle_111  x0 y0 σ = some q) : cWw p l e 4 0 0 111 s m args below meth c D Φ q.2 (some (.int q.1)) H locs 0 0 (F0 m 111 ls [.int y0]) := by
  have hx := X.1
  have hb := X.2.1
  have hown := X.2.2.2.1
  have hts := X.2.2.2.2.1
  have h : (lrz y0 σ) = some q := h
  obtain ⟨hz, rfl⟩ := lrz_spec h
  exact c_wz X hz hP hS (Nat.le_of_ble_eq_true rfl) (Nat.le_of_ble_eq_true rfl) dX11_restyle_111
set_option maxRecDepth 20000 in
set_option maxHeartbeats 4000000 in
theorem N_X11_restyle_106 {p : Program} {l : Launch} {e : Env} {s : State} {m : MethodId} {args : Array Value} {below : List Frame} {meth : Method} {c : Code} {D : cD} {Φ : cG} {x0 : Nat}    {σ : cS} {H : Heap} {locs : List Loc} {ls : Array Slot} {q : Int32 × cS} (X : cX p s m args meth c cX11_restyle 3 (some .boolean) RX11 D Φ) (hP : cP D Φ σ H) (hS : va_S (cReg Φ) s.heap H locs)  (hl : lv_has ls 3 []) (h : f_X11_restyle_106  x0  σ = some q) : cWw p l e 4 0 0 111 s m args below meth c D Φ q.2 (some (.int q.1)) H locs 0 0 (F0 m 106 ls []) := by
  have hx := X.1
  have hb := X.2.1
  have hown := X.2.2.2.1
  have hts := X.2.2.2.2.1
  have h : (f_X11_restyle_111 x0 ((1:Int32)) σ) = some q := h
  refine lv_iconst (v := (1:Int32)) hx hb dX11_restyle_106 (by decide) ?_
  refine lv_goto (tgt := 111) hx hb dX11_restyle_107 rfl ?_
  exact N_X11_restyle_111 X hP hS (lv_sub hl [] rfl) h
set_option maxRecDepth 20000 in
set_option maxHeartbeats 4000000 in
theorem N_X11_restyle_77 {p : Program} {l : Launch} {e : Env} {s : State} {m : MethodId} {args : Array Value} {below : List Frame} {meth : Method} {c : Code} {D : cD} {Φ : cG} {x0 : Nat}   {x1 : Option Nat} {x2 : Int32} {σ : cS} {H : Heap} {locs : List Loc} {ls : Array Slot} {q : Int32 × cS} (X : cX p s m args meth c cX11_restyle 3 (some .boolean) RX11 D Φ) (hP : cP D Φ σ H) (hS : va_S (cReg Φ) s.heap H locs)  (hl : lv_has ls 3 [(0, cv Φ (some x0)), (1, cv Φ x1), (2, .int x2)]) (h : f_X11_restyle_77  x0 x1 x2 σ = some q) : cWw p l e 4 0 0 111 s m args below meth c D Φ q.2 (some (.int q.1)) H locs 0 0 (F0 m 77 ls []) := by
  have hx := X.1
  have hb := X.2.1
  have hown := X.2.2.2.1
  have hts := X.2.2.2.2.1
  have h : ((gI σ (some x0) 11 14).bind (fun v1 => (gI σ x1 3 0).bind (fun v2 => (pI σ (some x0) 11 14 (v1 ||| ((1:Int32) <<< (v2 &&& 31)))).bind (fun v3 => if x2 = (0:Int32) then ((gR v3 x1 3 19).bind (fun v4 => (gI v3 v4 9 4).bind (fun v5 => if v5 = (0:Int32) then (f_X11_restyle_111 x0 ((0:Int32)) v3) else (f_X11_restyle_106 x0 v3)))) else (f_X11_restyle_106 x0 v3))))) = some q := h
  refine c_aload_n hx hb dX11_restyle_77 rfl (lv_at hl 0 rfl) ?_
  refine c_dupq hx hb dX11_restyle_78 ?_
  obtain ⟨v1, hv1, h⟩ := ob h
  refine c_gI X hP hv1 (Nat.le_of_ble_eq_true rfl) (Nat.le_of_ble_eq_true rfl) rfl w_585 dX11_restyle_79 ?_
  refine lv_iconst (v := (1:Int32)) hx hb dX11_restyle_82 (by decide) ?_
  refine c_aload_n hx hb dX11_restyle_83 rfl (lv_at hl 1 rfl) ?_
  obtain ⟨v2, hv2, h⟩ := ob h
  refine c_gI X hP hv2 (Nat.le_of_ble_eq_true rfl) (Nat.le_of_ble_eq_true rfl) rfl w_227 dX11_restyle_84 ?_
  refine lv_ishl hx hb dX11_restyle_87 ?_
  refine lv_ior hx hb dX11_restyle_88 ?_
  obtain ⟨v3, hv3, h⟩ := ob h
  refine c_pI X hP hS hv3 (Nat.le_of_ble_eq_true rfl) (Nat.le_of_ble_eq_true rfl) rfl rfl (Or.inl rfl) w_585 dX11_restyle_89 (fun H locs hP hS => ?_)
  refine lv_iload_n hx hb dX11_restyle_92 rfl (lv_at hl 2 rfl) ?_
  refine lv_if_ne (tgt := 106) hx hb dX11_restyle_93 rfl (fun hc => ?_) (fun hc => ?_)
  · have h := ine hc h
    exact N_X11_restyle_106 X hP hS (lv_sub hl [] rfl) h
  · have h := ip hc h
    refine c_aload_n hx hb dX11_restyle_96 rfl (lv_at hl 1 rfl) ?_
    obtain ⟨v4, hv4, h⟩ := ob h
    refine c_gR X hP hv4 (Nat.le_of_ble_eq_true rfl) (Nat.le_of_ble_eq_true rfl) rfl w_283 dX11_restyle_97 ?_
    obtain ⟨v5, hv5, h⟩ := ob h
    refine c_gI X hP hv5 (Nat.le_of_ble_eq_true rfl) (Nat.le_of_ble_eq_true rfl) rfl w_102 dX11_restyle_100 ?_
    refine lv_if_eq (tgt := 110) hx hb dX11_restyle_103 rfl (fun hc => ?_) (fun hc => ?_)
    · have h := ip hc h
      refine lv_iconst (v := (0:Int32)) hx hb dX11_restyle_110 (by decide) ?_
      exact N_X11_restyle_111 X hP hS (lv_sub hl [] rfl) h
    · have h := ine hc h
      exact N_X11_restyle_106 X hP hS (lv_sub hl [] rfl) h
set_option maxRecDepth 20000 in
set_option maxHeartbeats 4000000 in
theorem N_X11_restyle_15 {p : Program} {l : Launch} {e : Env} {s : State} {m : MethodId} {args : Array Value} {below : List Frame} {meth : Method} {c : Code} {D : cD} {Φ : cG} {x0 : Nat}   {x1 : Option Nat} {y0 : Int32} {σ : cS} {H : Heap} {locs : List Loc} {ls : Array Slot} {q : Int32 × cS} (X : cX p s m args meth c cX11_restyle 3 (some .boolean) RX11 D Φ) (hP : cP D Φ σ H) (hS : va_S (cReg Φ) s.heap H locs)  (hl : lv_has ls 3 [(0, cv Φ (some x0)), (1, cv Φ x1)]) (h : f_X11_restyle_15  x0 x1 y0 σ = some q) : cWw p l e 4 0 0 111 s m args below meth c D Φ q.2 (some (.int q.1)) H locs 0 0 (F0 m 15 ls [.int y0]) := by
  have hx := X.1
  have hb := X.2.1
  have hown := X.2.2.2.1
  have hts := X.2.2.2.2.1
  have h : ((gR σ (some x0) 11 8).bind (fun v1 => (rc σ (some x0) 11).bind (fun v2 => (f_X11_findStyle v2 (v1) (x1) ((0:Int32)) σ).bind (fun v3 => (gR v3 x1 3 19).bind (fun v4 => (gR v3 (some x0) 11 8).bind (fun v5 => (gI v3 (some x0) 11 6).bind (fun v6 => (gR v3 x1 3 19).bind (fun v7 => (rc v3 (some x0) 11).bind (fun v8 => (f_X11_playedFor v8 (v7) v3).bind (fun v9 => (rc v3 v4 9).bind (fun v10 => (f_X9_adopt v10 (v5) (v6) (v9) v3).bind (fun v11 => (gI v11 (some x0) 11 12).bind (fun v12 => (pI v11 (some x0) 11 12 (v12 + (1:Int32))).bind (fun v13 => (rc v13 (some x0) 11).bind (fun v14 => (f_X11_isLikePrevious v14 (x1) v13).bind (fun v15 => if v15 = (0:Int32) then (f_X11_restyle_77 x0 (x1) (y0) v13) else ((gI v13 (some x0) 11 13).bind (fun v16 => (pI v13 (some x0) 11 13 (v16 + (1:Int32))).bind (fun v17 => f_X11_restyle_77 x0 (x1) (y0) v17))))))))))))))))))) = some q := h
  refine c_istore_n hx hb dX11_restyle_15 rfl hl (Nat.le_of_ble_eq_true rfl) (lvKa rfl (lvKr lvK0)) rfl (fun ls (hl : lv_has ls 3 [(2, .int y0), (0, cv Φ (some x0)), (1, cv Φ x1)]) => ?_)
  refine c_aload_n hx hb dX11_restyle_16 rfl (lv_at hl 1 rfl) ?_
  refine c_aload_n hx hb dX11_restyle_17 rfl (lv_at hl 1 rfl) ?_
  obtain ⟨v1, hv1, h⟩ := ob h
  refine c_gR X hP hv1 (Nat.le_of_ble_eq_true rfl) (Nat.le_of_ble_eq_true rfl) rfl w_579 dX11_restyle_18 ?_
  refine c_aload_n hx hb dX11_restyle_21 rfl (lv_at hl 2 rfl) ?_
  refine lv_iconst (v := (0:Int32)) hx hb dX11_restyle_22 (by decide) ?_
  obtain ⟨v2, hv2, h⟩ := ob h
  obtain ⟨v3, hv3, h⟩ := ob h
  refine c_cw (c_runV X (K_X11_findStyle l D Φ σ v2 (v1) (x1) ((0:Int32)) hv3) hv2 ⟨Nat.le_of_ble_eq_true rfl, by decide⟩ ⟨w_973, ww_X11_findStyle⟩ rfl hy_X11_findStyle rfl ⟨(Nat.le_of_ble_eq_true rfl), (Nat.le_of_ble_eq_true rfl)⟩ hP hS hl.1 (Nat.le_of_ble_eq_true rfl) dX11_restyle_23 rfl ⟨(Nat.le_of_ble_eq_true rfl), (Nat.le_of_ble_eq_true rfl)⟩) hS (fun H locs hP hS => ?_)
  refine W.eq (g2 := F0 m 26 ls []) rfl ?_
  refine c_aload_n hx hb dX11_restyle_26 rfl (lv_at hl 2 rfl) ?_
  obtain ⟨v4, hv4, h⟩ := ob h
  refine c_gR X hP hv4 (Nat.le_of_ble_eq_true rfl) (Nat.le_of_ble_eq_true rfl) rfl w_283 dX11_restyle_27 ?_
  refine c_aload_n hx hb dX11_restyle_30 rfl (lv_at hl 1 rfl) ?_
  obtain ⟨v5, hv5, h⟩ := ob h
  refine c_gR X hP hv5 (Nat.le_of_ble_eq_true rfl) (Nat.le_of_ble_eq_true rfl) rfl w_579 dX11_restyle_31 ?_
  refine c_aload_n hx hb dX11_restyle_34 rfl (lv_at hl 1 rfl) ?_
  obtain ⟨v6, hv6, h⟩ := ob h
  refine c_gI X hP hv6 (Nat.le_of_ble_eq_true rfl) (Nat.le_of_ble_eq_true rfl) rfl w_577 dX11_restyle_35 ?_
  refine c_aload_n hx hb dX11_restyle_38 rfl (lv_at hl 1 rfl) ?_
  refine c_aload_n hx hb dX11_restyle_39 rfl (lv_at hl 2 rfl) ?_
  obtain ⟨v7, hv7, h⟩ := ob h
  refine c_gR X hP hv7 (Nat.le_of_ble_eq_true rfl) (Nat.le_of_ble_eq_true rfl) rfl w_283 dX11_restyle_40 ?_
  obtain ⟨v8, hv8, h⟩ := ob h
  obtain ⟨v9, hv9, h⟩ := ob h
  refine c_cr (c_runV X (K_X11_playedFor l D Φ v3 v8 (v7) hv9) hv8 ⟨Nat.le_of_ble_eq_true rfl, by decide⟩ ⟨w_1047, ww_X11_playedFor⟩ rfl hy_X11_playedFor rfl ⟨(Nat.le_of_ble_eq_true rfl), (Nat.le_of_ble_eq_true rfl)⟩ hP hS hl.1 (Nat.le_of_ble_eq_true rfl) dX11_restyle_43 rfl ⟨(Nat.le_of_ble_eq_true rfl), (Nat.le_of_ble_eq_true rfl)⟩) ?_
  obtain ⟨v10, hv10, h⟩ := ob h
  obtain ⟨v11, hv11, h⟩ := ob h
  refine c_cw (c_runV X (K_X9_adopt l D Φ v3 v10 (v5) (v6) (v9) hv11) hv10 ⟨Nat.le_of_ble_eq_true rfl, by decide⟩ ⟨w_1055, ww_X9_adopt⟩ rfl hy_X9_adopt rfl ⟨(Nat.le_of_ble_eq_true rfl), (Nat.le_of_ble_eq_true rfl)⟩ hP hS hl.1 (Nat.le_of_ble_eq_true rfl) dX11_restyle_46 rfl ⟨(Nat.le_of_ble_eq_true rfl), (Nat.le_of_ble_eq_true rfl)⟩) hS (fun H locs hP hS => ?_)
  refine W.eq (g2 := F0 m 49 ls []) rfl ?_
  refine c_aload_n hx hb dX11_restyle_49 rfl (lv_at hl 1 rfl) ?_
  refine c_dupq hx hb dX11_restyle_50 ?_
  obtain ⟨v12, hv12, h⟩ := ob h
  refine c_gI X hP hv12 (Nat.le_of_ble_eq_true rfl) (Nat.le_of_ble_eq_true rfl) rfl w_583 dX11_restyle_51 ?_
  refine lv_iconst (v := (1:Int32)) hx hb dX11_restyle_54 (by decide) ?_
  refine lv_iadd hx hb dX11_restyle_55 ?_
  obtain ⟨v13, hv13, h⟩ := ob h
  refine c_pI X hP hS hv13 (Nat.le_of_ble_eq_true rfl) (Nat.le_of_ble_eq_true rfl) rfl rfl (Or.inl rfl) w_583 dX11_restyle_56 (fun H locs hP hS => ?_)
  refine c_aload_n hx hb dX11_restyle_59 rfl (lv_at hl 1 rfl) ?_
  refine c_aload_n hx hb dX11_restyle_60 rfl (lv_at hl 2 rfl) ?_
  obtain ⟨v14, hv14, h⟩ := ob h
  obtain ⟨v15, hv15, h⟩ := ob h
  refine c_cr (c_runV X (K_X11_isLikePrevious l D Φ v13 v14 (x1) hv15) hv14 ⟨Nat.le_of_ble_eq_true rfl, by decide⟩ ⟨w_1072, ww_X11_isLikePrevious⟩ rfl hy_X11_isLikePrevious rfl ⟨(Nat.le_of_ble_eq_true rfl), (Nat.le_of_ble_eq_true rfl)⟩ hP hS hl.1 (Nat.le_of_ble_eq_true rfl) dX11_restyle_61 rfl ⟨(Nat.le_of_ble_eq_true rfl), (Nat.le_of_ble_eq_true rfl)⟩) ?_
  refine lv_if_eq (tgt := 77) hx hb dX11_restyle_64 rfl (fun hc => ?_) (fun hc => ?_)
  · have h := ip hc h
    exact N_X11_restyle_77 X hP hS (lv_sub hl [1, 2, 0] rfl) h
  · have h := ine hc h
    refine c_aload_n hx hb dX11_restyle_67 rfl (lv_at hl 1 rfl) ?_
    refine c_dupq hx hb dX11_restyle_68 ?_
    obtain ⟨v16, hv16, h⟩ := ob h
    refine c_gI X hP hv16 (Nat.le_of_ble_eq_true rfl) (Nat.le_of_ble_eq_true rfl) rfl w_584 dX11_restyle_69 ?_
    refine lv_iconst (v := (1:Int32)) hx hb dX11_restyle_72 (by decide) ?_
    refine lv_iadd hx hb dX11_restyle_73 ?_
    obtain ⟨v17, hv17, h⟩ := ob h
    refine c_pI X hP hS hv17 (Nat.le_of_ble_eq_true rfl) (Nat.le_of_ble_eq_true rfl) rfl rfl (Or.inl rfl) w_584 dX11_restyle_74 (fun H locs hP hS => ?_)
    exact N_X11_restyle_77 X hP hS (lv_sub hl [1, 2, 0] rfl) h
set_option maxRecDepth 20000 in
set_option maxHeartbeats 4000000 in
theorem K_X11_restyle (l : Launch) (D : cD) (Φ : cG) (σ : cS) (x0 : Nat) (x1 : Option Nat) {q : Int32 × cS} (h : f_X11_restyle x0 x1 σ = some q) : Met l yX11_restyle (Cond.code yX11_restyle cX11_restyle 3 (some .boolean) :: BG) (rA 4 0 0 111) (cPc D Φ σ [cv Φ (some x0), cv Φ x1]) (cQw D Φ q.2 (some (.int q.1))) 0 0 (cReg Φ) := by
  refine Met.ofW (cc := cX11_restyle) (maxL := 3) (ret := (some .boolean)) (by decide) rfl ?_
  intro p e s m args below meth c s₁ B hml hv
  obtain ⟨rfl, hP, hK, hZ⟩ := hv
  have X : cX p s m [cv Φ (some x0), cv Φ x1].toArray meth c cX11_restyle 3 (some .boolean) RX11 D Φ := cX_of B hml hK hZ
  have hx := X.1
  have hb := X.2.1
  have hown := X.2.2.2.1
  have hts := X.2.2.2.2.1
  have hl := lv_entry [cv Φ (some x0), cv Φ x1] (n := 3) (by simp only [lgs_r, lgs_i, lgs_l, lgs_0, List.length]; exact Nat.le_of_ble_eq_true rfl)
  rw [lg_entry_eq]
  generalize (lg_sl [cv Φ (some x0), cv Φ x1] ++ List.replicate (3 - (lg_sl [cv Φ (some x0), cv Φ x1]).length) Slot.unset).toArray = ls at hl ⊢
  simp only [lv_args_r, lv_args_i, lv_args_l, lv_args_0] at hl
  have hl : lv_has ls 3 [(0, cv Φ (some x0)), (1, cv Φ x1)] := hl
  have hS : va_S (cReg Φ) s.heap s.heap [] := va_S.rf
  show cWw p l e 4 0 0 111 s m [cv Φ (some x0), cv Φ x1].toArray below meth c D Φ q.2 (some (.int q.1)) s.heap [] 0 0 (F0 m 0 ls [])
  have h : ((gR σ x1 3 19).bind (fun v1 => (gI σ v1 9 1).bind (fun v2 => if v2 = (0:Int32) then (f_X11_restyle_15 x0 (x1) ((1:Int32)) σ) else (f_X11_restyle_15 x0 (x1) ((0:Int32)) σ)))) = some q := h
  refine c_aload_n hx hb dX11_restyle_0 rfl (lv_at hl 1 rfl) ?_
  obtain ⟨v1, hv1, h⟩ := ob h
  refine c_gR X hP hv1 (Nat.le_of_ble_eq_true rfl) (Nat.le_of_ble_eq_true rfl) rfl w_283 dX11_restyle_1 ?_
  obtain ⟨v2, hv2, h⟩ := ob h
  refine c_gI X hP hv2 (Nat.le_of_ble_eq_true rfl) (Nat.le_of_ble_eq_true rfl) rfl w_96 dX11_restyle_4 ?_
  refine lv_if_ne (tgt := 14) hx hb dX11_restyle_7 rfl (fun hc => ?_) (fun hc => ?_)
  · have h := ine hc h
    refine lv_iconst (v := (0:Int32)) hx hb dX11_restyle_14 (by decide) ?_
    exact N_X11_restyle_15 X hP hS (lv_sub hl [0, 1] rfl) h
  · have h := ip hc h
    refine lv_iconst (v := (1:Int32)) hx hb dX11_restyle_10 (by decide) ?_
    refine lv_goto (tgt := 15) hx hb dX11_restyle_11 rfl ?_
    exact N_X11_restyle_15 X hP hS (lv_sub hl [0, 1] rfl) h
theorem ww_X11_restyle : Cond.instanceMethod yX11_restyle ∈ BG ∧ Cond.selects (yX11_restyle).cls yX11_restyle yX11_restyle ∈ BG ∧ Cond.initialized (yX11_restyle).cls ∈ BG ∧ Cond.code yX11_restyle cX11_restyle 3 (some .boolean) ∈ BG := ⟨w_971, w_26, w_56, w_972⟩
theorem hy_X11_restyle : (yX11_restyle).cls ≠ "java/lang/invoke/MethodHandle" ∧ (yX11_restyle).cls ≠ "java/lang/invoke/VarHandle" ∧ (parseMethodDescriptor (yX11_restyle).desc).map (fun d => d.parameters.length) = some 1 := ⟨by decide, by decide, by decide +kernel⟩
def f_X11_sizeFor_136 (k35 : Option Nat → Int32 → Option Nat → Int32 → Option Nat → cS → Option (Int32 × cS)) (x0 : Nat) (x1 : Option Nat) (x2 : Int32) (x3 : Option Nat) (x4 : Int32) (x5 : Option Nat) (σ : cS) : Option (Int32 × cS) := (gR σ x5 3 17).bind (fun v1 => k35 (x1) (x2) (x3) (x4) (v1) σ)
def f_X11_sizeFor_121 (k35 : Option Nat → Int32 → Option Nat → Int32 → Option Nat → cS → Option (Int32 × cS)) (x0 : Nat) (x1 : Option Nat) (x2 : Int32) (x3 : Option Nat) (x5 : Option Nat) (y0 : Int32) (y1 : Int32) (σ : cS) : Option (Int32 × cS) := (gR σ (some x0) 11 9).bind (fun v1 => (gR σ v1 9 0).bind (fun v2 => (aI σ v2 (3:Int32)).bind (fun v3 => f_X11_sizeFor_136 k35 x0 (x1) (x2) (x3) ((y0 + (y1 + ((2:Int32) * v3)))) (x5) σ)))
def f_X11_sizeFor_35  (x0 : Nat) : Nat → Option Nat → Int32 → Option Nat → Int32 → Option Nat → cS → Option (Int32 × cS)
  | 0, _, _, _, _, _, _ => none
  | n + 1, x1, x2, x3, x4, x5, σ => if x5 = none then (some (x4, σ)) else ((gR σ x5 3 16).bind (fun v1 => if v1 = x1 then ((gR σ (some x0) 11 2).bind (fun v2 => (rc σ v2 1).bind (fun v3 => (f_X1_gather v3 (x5) (none) σ).bind (fun v4 => (gR v4 (some x0) 11 9).bind (fun v5 => (gR v4 (some x0) 11 2).bind (fun v6 => (gR v4 v6 1 13).bind (fun v7 => (gR v4 (some x0) 11 0).bind (fun v8 => (gR v4 v8 10 0).bind (fun v9 => (rc v4 (some x0) 11).bind (fun v10 => (f_X11_styleOf v10 (v9) (x2) v4).bind (fun v11 => (gR v4 (some x0) 11 2).bind (fun v12 => (gI v4 v12 1 8).bind (fun v13 => (rc v4 v5 9).bind (fun v14 => (f_X9_findFrom v14 (v7) (x3) (v11) (none) (v13) v4).bind (fun v15 => (gR v15 (some x0) 11 9).bind (fun v16 => (gR v15 v16 9 0).bind (fun v17 => (aI v15 v17 (2:Int32)).bind (fun v18 => if v18 = ((-1000000):Int32) then (f_X11_sizeFor_121 (f_X11_sizeFor_35 x0 n) x0 (x1) (x2) (x3) (x5) (x4) ((0:Int32)) v15) else (f_X11_sizeFor_121 (f_X11_sizeFor_35 x0 n) x0 (x1) (x2) (x3) (x5) (x4) (v18) v15))))))))))))))))))) else (f_X11_sizeFor_136 (f_X11_sizeFor_35 x0 n) x0 (x1) (x2) (x3) (x4) (x5) σ)))
def f_X11_sizeFor (x0 : Nat) (x1 : Option Nat) (x2 : Int32) (σ : cS) : Option (Int32 × cS) := (rc σ (some x0) 11).bind (fun v1 => (f_X11_styleOf v1 (x1) (x2) σ).bind (fun v2 => (gR σ v2 9 0).bind (fun v3 => (aI σ v3 (2:Int32)).bind (fun v4 => if v4 = ((-1000000):Int32) then ((gR σ x1 3 17).bind (fun v5 => f_X11_sizeFor_35 x0 4000 (x1) (x2) (v2) ((0:Int32)) (v5) σ)) else ((gR σ v2 9 0).bind (fun v6 => (aI σ v6 (2:Int32)).bind (fun v7 => some (v7, σ))))))))
set_option maxRecDepth 20000 in
set_option maxHeartbeats 4000000 in
theorem N_X11_sizeFor_136 {p : Program} {l : Launch} {e : Env} {s : State} {m : MethodId} {args : Array Value} {below : List Frame} {meth : Method} {c : Code} {D : cD} {Φ : cG} {x0 : Nat} {k35 : Option Nat → Int32 → Option Nat → Int32 → Option Nat → cS → Option (Int32 × cS)}  {x1 : Option Nat} {x2 : Int32} {x3 : Option Nat} {x4 : Int32} {x5 : Option Nat} {σ : cS} {H : Heap} {locs : List Loc} {ls : Array Slot} {q : Int32 × cS} (X : cX p s m args meth c cX11_sizeFor 7 (some .int) RX11 D Φ) (hP : cP D Φ σ H) (hS : va_S (cReg Φ) s.heap H locs) (hk35 : ∀ {x1 : Option Nat} {x2 : Int32} {x3 : Option Nat} {x4 : Int32} {x5 : Option Nat} {σ : cS} {H : Heap} {locs : List Loc} {ls : Array Slot}, cP D Φ σ H → va_S (cReg Φ) s.heap H locs → lv_has ls 7 [(0, cv Φ (some x0)), (1, cv Φ x1), (2, .int x2), (3, cv Φ x3), (4, .int x4), (5, cv Φ x5)] → k35 x1 x2 x3 x4 x5 σ = some q → cWw p l e 3 0 0 86 s m args below meth c D Φ q.2 (some (.int q.1)) H locs 0 0 (F0 m 35 ls [])) (hl : lv_has ls 7 [(0, cv Φ (some x0)), (1, cv Φ x1), (2, .int x2), (3, cv Φ x3), (4, .int x4), (5, cv Φ x5)]) (h : f_X11_sizeFor_136 k35 x0 x1 x2 x3 x4 x5 σ = some q) : cWw p l e 3 0 0 86 s m args below meth c D Φ q.2 (some (.int q.1)) H locs 0 0 (F0 m 136 ls []) := by
  have hx := X.1
  have hb := X.2.1
  have hown := X.2.2.2.1
  have hts := X.2.2.2.2.1
  have h : ((gR σ x5 3 17).bind (fun v1 => k35 (x1) (x2) (x3) (x4) (v1) σ)) = some q := h
  refine c_aload hx hb dX11_sizeFor_136 (lv_at hl 5 rfl) ?_
  obtain ⟨v1, hv1, h⟩ := ob h
  refine c_gR X hP hv1 (Nat.le_of_ble_eq_true rfl) (Nat.le_of_ble_eq_true rfl) rfl w_276 dX11_sizeFor_138 ?_
  refine c_astore hx hb dX11_sizeFor_141 hl (Nat.le_of_ble_eq_true rfl) (lvKa rfl (lvKa rfl (lvKa rfl (lvKa rfl (lvKi (lvKa rfl lvK0)))))) rfl (fun ls (hl : lv_has ls 7 [(5, cv Φ v1), (0, cv Φ (some x0)), (1, cv Φ x1), (2, .int x2), (3, cv Φ x3), (4, .int x4)]) => ?_)
  refine lv_goto (tgt := 35) hx hb dX11_sizeFor_143 rfl ?_
  exact hk35 hP hS (lv_sub hl [1, 2, 3, 4, 5, 0] rfl) h
set_option maxRecDepth 20000 in
set_option maxHeartbeats 4000000 in
theorem N_X11_sizeFor_121 {p : Program} {l : Launch} {e : Env} {s : State} {m : MethodId} {args : Array Value} {below : List Frame} {meth : Method} {c : Code} {D : cD} {Φ : cG} {x0 : Nat} {k35 : Option Nat → Int32 → Option Nat → Int32 → Option Nat → cS → Option (Int32 × cS)}  {x1 : Option Nat} {x2 : Int32} {x3 : Option Nat} {x5 : Option Nat} {y0 : Int32} {y1 : Int32} {σ : cS} {H : Heap} {locs : List Loc} {ls : Array Slot} {q : Int32 × cS} (X : cX p s m args meth c cX11_sizeFor 7 (some .int) RX11 D Φ) (hP : cP D Φ σ H) (hS : va_S (cReg Φ) s.heap H locs) (hk35 : ∀ {x1 : Option Nat} {x2 : Int32} {x3 : Option Nat} {x4 : Int32} {x5 : Option Nat} {σ : cS} {H : Heap} {locs : List Loc} {ls : Array Slot}, cP D Φ σ H → va_S (cReg Φ) s.heap H locs → lv_has ls 7 [(0, cv Φ (some x0)), (1, cv Φ x1), (2, .int x2), (3, cv Φ x3), (4, .int x4), (5, cv Φ x5)] → k35 x1 x2 x3 x4 x5 σ = some q → cWw p l e 3 0 0 86 s m args below meth c D Φ q.2 (some (.int q.1)) H locs 0 0 (F0 m 35 ls [])) (hl : lv_has ls 7 [(0, cv Φ (some x0)), (1, cv Φ x1), (2, .int x2), (3, cv Φ x3), (5, cv Φ x5)]) (h : f_X11_sizeFor_121 k35 x0 x1 x2 x3 x5 y0 y1 σ = some q) : cWw p l e 3 0 0 86 s m args below meth c D Φ q.2 (some (.int q.1)) H locs 0 0 (F0 m 121 ls [.int y1, .int y0]) := by
  have hx := X.1
  have hb := X.2.1
  have hown := X.2.2.2.1
  have hts := X.2.2.2.2.1
  have h : ((gR σ (some x0) 11 9).bind (fun v1 => (gR σ v1 9 0).bind (fun v2 => (aI σ v2 (3:Int32)).bind (fun v3 => f_X11_sizeFor_136 k35 x0 (x1) (x2) (x3) ((y0 + (y1 + ((2:Int32) * v3)))) (x5) σ)))) = some q := h
  refine lv_iconst (v := (2:Int32)) hx hb dX11_sizeFor_121 (by decide) ?_
  refine c_aload_n hx hb dX11_sizeFor_122 rfl (lv_at hl 0 rfl) ?_
  obtain ⟨v1, hv1, h⟩ := ob h
  refine c_gR X hP hv1 (Nat.le_of_ble_eq_true rfl) (Nat.le_of_ble_eq_true rfl) rfl w_580 dX11_sizeFor_123 ?_
  obtain ⟨v2, hv2, h⟩ := ob h
  refine c_gR X hP hv2 (Nat.le_of_ble_eq_true rfl) (Nat.le_of_ble_eq_true rfl) rfl w_94 dX11_sizeFor_126 ?_
  refine lv_iconst (v := (3:Int32)) hx hb dX11_sizeFor_129 (by decide) ?_
  obtain ⟨v3, hv3, h⟩ := ob h
  refine c_ald X hP hv3 dX11_sizeFor_130 ?_
  refine lv_imul hx hb dX11_sizeFor_131 ?_
  refine lv_iadd hx hb dX11_sizeFor_132 ?_
  refine lv_iadd hx hb dX11_sizeFor_133 ?_
  refine c_istore hx hb dX11_sizeFor_134 hl (Nat.le_of_ble_eq_true rfl) (lvKa rfl (lvKa rfl (lvKa rfl (lvKr (lvKa rfl lvK0))))) rfl (fun ls (hl : lv_has ls 7 [(4, .int (y0 + (y1 + ((2:Int32) * v3)))), (0, cv Φ (some x0)), (1, cv Φ x1), (2, .int x2), (3, cv Φ x3), (5, cv Φ x5)]) => ?_)
  exact N_X11_sizeFor_136 X hP hS hk35 (lv_sub hl [1, 2, 3, 4, 0, 5] rfl) h
set_option maxRecDepth 20000 in
set_option maxHeartbeats 4000000 in
theorem N_X11_sizeFor_35 {p : Program} {l : Launch} {e : Env} {s : State} {m : MethodId} {args : Array Value} {below : List Frame} {meth : Method} {c : Code} {D : cD} {Φ : cG} {x0 : Nat}  {n : Nat} {x1 : Option Nat} {x2 : Int32} {x3 : Option Nat} {x4 : Int32} {x5 : Option Nat} {σ : cS} {H : Heap} {locs : List Loc} {ls : Array Slot} {q : Int32 × cS} (X : cX p s m args meth c cX11_sizeFor 7 (some .int) RX11 D Φ) (hP : cP D Φ σ H) (hS : va_S (cReg Φ) s.heap H locs)  (hl : lv_has ls 7 [(0, cv Φ (some x0)), (1, cv Φ x1), (2, .int x2), (3, cv Φ x3), (4, .int x4), (5, cv Φ x5)]) (h : f_X11_sizeFor_35  x0 n x1 x2 x3 x4 x5 σ = some q) : cWw p l e 3 0 0 86 s m args below meth c D Φ q.2 (some (.int q.1)) H locs 0 0 (F0 m 35 ls []) := by
  have hx := X.1
  have hb := X.2.1
  have hown := X.2.2.2.1
  have hts := X.2.2.2.2.1
  induction n generalizing x1 x2 x3 x4 x5 σ H locs ls with
  | zero => exact absurd (show none = some q from h) (by simp)
  | succ n ih =>
    have h : (if x5 = none then (some (x4, σ)) else ((gR σ x5 3 16).bind (fun v1 => if v1 = x1 then ((gR σ (some x0) 11 2).bind (fun v2 => (rc σ v2 1).bind (fun v3 => (f_X1_gather v3 (x5) (none) σ).bind (fun v4 => (gR v4 (some x0) 11 9).bind (fun v5 => (gR v4 (some x0) 11 2).bind (fun v6 => (gR v4 v6 1 13).bind (fun v7 => (gR v4 (some x0) 11 0).bind (fun v8 => (gR v4 v8 10 0).bind (fun v9 => (rc v4 (some x0) 11).bind (fun v10 => (f_X11_styleOf v10 (v9) (x2) v4).bind (fun v11 => (gR v4 (some x0) 11 2).bind (fun v12 => (gI v4 v12 1 8).bind (fun v13 => (rc v4 v5 9).bind (fun v14 => (f_X9_findFrom v14 (v7) (x3) (v11) (none) (v13) v4).bind (fun v15 => (gR v15 (some x0) 11 9).bind (fun v16 => (gR v15 v16 9 0).bind (fun v17 => (aI v15 v17 (2:Int32)).bind (fun v18 => if v18 = ((-1000000):Int32) then (f_X11_sizeFor_121 (f_X11_sizeFor_35 x0 n) x0 (x1) (x2) (x3) (x5) (x4) ((0:Int32)) v15) else (f_X11_sizeFor_121 (f_X11_sizeFor_35 x0 n) x0 (x1) (x2) (x3) (x5) (x4) (v18) v15))))))))))))))))))) else (f_X11_sizeFor_136 (f_X11_sizeFor_35 x0 n) x0 (x1) (x2) (x3) (x4) (x5) σ)))) = some q := h
    refine c_aload hx hb dX11_sizeFor_35 (lv_at hl 5 rfl) ?_
    refine c_ifnull (Φ := Φ) (tgt := 146) hx hb dX11_sizeFor_37 rfl (fun hc => ?_) (fun hc => ?_)
    · have h := ip hc h
      refine lv_iload hx hb dX11_sizeFor_146 (lv_at hl 4 rfl) ?_
      obtain rfl := sj h
      exact c_wi X hP hS (Nat.le_of_ble_eq_true rfl) (Nat.le_of_ble_eq_true rfl) dX11_sizeFor_148
    · have h := ine hc h
      refine c_aload hx hb dX11_sizeFor_40 (lv_at hl 5 rfl) ?_
      obtain ⟨v1, hv1, h⟩ := ob h
      refine c_gR X hP hv1 (Nat.le_of_ble_eq_true rfl) (Nat.le_of_ble_eq_true rfl) rfl w_273 dX11_sizeFor_42 ?_
      refine c_aload_n hx hb dX11_sizeFor_45 rfl (lv_at hl 1 rfl) ?_
      refine c_acmp_ne (tgt := 136) X hP dX11_sizeFor_46 rfl (fun hc => ?_) (fun hc => ?_)
      · have h := ine hc h
        exact N_X11_sizeFor_136 X hP hS ih (lv_sub hl [0, 1, 2, 3, 4, 5] rfl) h
      · have h := ip hc h
        refine c_aload_n hx hb dX11_sizeFor_49 rfl (lv_at hl 0 rfl) ?_
        obtain ⟨v2, hv2, h⟩ := ob h
        refine c_gR X hP hv2 (Nat.le_of_ble_eq_true rfl) (Nat.le_of_ble_eq_true rfl) rfl w_573 dX11_sizeFor_50 ?_
        refine c_aload hx hb dX11_sizeFor_53 (lv_at hl 5 rfl) ?_
        refine c_null (Φ := Φ) hx hb dX11_sizeFor_55 ?_
        obtain ⟨v3, hv3, h⟩ := ob h
        obtain ⟨v4, hv4, h⟩ := ob h
        refine c_cw (c_runV X (K_X1_gather l D Φ σ v3 (x5) (none) hv4) hv3 ⟨Nat.le_of_ble_eq_true rfl, by decide⟩ ⟨w_985, ww_X1_gather⟩ rfl hy_X1_gather rfl ⟨(Nat.le_of_ble_eq_true rfl), (Nat.le_of_ble_eq_true rfl)⟩ hP hS hl.1 (Nat.le_of_ble_eq_true rfl) dX11_sizeFor_56 rfl ⟨(Nat.le_of_ble_eq_true rfl), (Nat.le_of_ble_eq_true rfl)⟩) hS (fun H locs hP hS => ?_)
        refine W.eq (g2 := F0 m 59 ls []) rfl ?_
        refine c_aload_n hx hb dX11_sizeFor_59 rfl (lv_at hl 0 rfl) ?_
        obtain ⟨v5, hv5, h⟩ := ob h
        refine c_gR X hP hv5 (Nat.le_of_ble_eq_true rfl) (Nat.le_of_ble_eq_true rfl) rfl w_580 dX11_sizeFor_60 ?_
        refine c_aload_n hx hb dX11_sizeFor_63 rfl (lv_at hl 0 rfl) ?_
        obtain ⟨v6, hv6, h⟩ := ob h
        refine c_gR X hP hv6 (Nat.le_of_ble_eq_true rfl) (Nat.le_of_ble_eq_true rfl) rfl w_573 dX11_sizeFor_64 ?_
        obtain ⟨v7, hv7, h⟩ := ob h
        refine c_gR X hP hv7 (Nat.le_of_ble_eq_true rfl) (Nat.le_of_ble_eq_true rfl) rfl w_519 dX11_sizeFor_67 ?_
        refine c_aload_n hx hb dX11_sizeFor_70 rfl (lv_at hl 3 rfl) ?_
        refine c_aload_n hx hb dX11_sizeFor_71 rfl (lv_at hl 0 rfl) ?_
        refine c_aload_n hx hb dX11_sizeFor_72 rfl (lv_at hl 0 rfl) ?_
        obtain ⟨v8, hv8, h⟩ := ob h
        refine c_gR X hP hv8 (Nat.le_of_ble_eq_true rfl) (Nat.le_of_ble_eq_true rfl) rfl w_571 dX11_sizeFor_73 ?_
        obtain ⟨v9, hv9, h⟩ := ob h
        refine c_gR X hP hv9 (Nat.le_of_ble_eq_true rfl) (Nat.le_of_ble_eq_true rfl) rfl w_327 dX11_sizeFor_76 ?_
        refine lv_iload_n hx hb dX11_sizeFor_79 rfl (lv_at hl 2 rfl) ?_
        obtain ⟨v10, hv10, h⟩ := ob h
        obtain ⟨v11, hv11, h⟩ := ob h
        refine c_cr (c_runV X (K_X11_styleOf l D Φ v4 v10 (v9) (x2) hv11) hv10 ⟨Nat.le_of_ble_eq_true rfl, by decide⟩ ⟨w_981, ww_X11_styleOf⟩ rfl hy_X11_styleOf rfl ⟨(Nat.le_of_ble_eq_true rfl), (Nat.le_of_ble_eq_true rfl)⟩ hP hS hl.1 (Nat.le_of_ble_eq_true rfl) dX11_sizeFor_80 rfl ⟨(Nat.le_of_ble_eq_true rfl), (Nat.le_of_ble_eq_true rfl)⟩) ?_
        refine c_null (Φ := Φ) hx hb dX11_sizeFor_83 ?_
        refine c_aload_n hx hb dX11_sizeFor_84 rfl (lv_at hl 0 rfl) ?_
        obtain ⟨v12, hv12, h⟩ := ob h
        refine c_gR X hP hv12 (Nat.le_of_ble_eq_true rfl) (Nat.le_of_ble_eq_true rfl) rfl w_573 dX11_sizeFor_85 ?_
        obtain ⟨v13, hv13, h⟩ := ob h
        refine c_gI X hP hv13 (Nat.le_of_ble_eq_true rfl) (Nat.le_of_ble_eq_true rfl) rfl w_509 dX11_sizeFor_88 ?_
        obtain ⟨v14, hv14, h⟩ := ob h
        obtain ⟨v15, hv15, h⟩ := ob h
        refine c_cw (c_runV X (K_X9_findFrom l D Φ v4 v14 (v7) (x3) (v11) (none) (v13) hv15) hv14 ⟨Nat.le_of_ble_eq_true rfl, by decide⟩ ⟨w_1009, ww_X9_findFrom⟩ rfl hy_X9_findFrom rfl ⟨(Nat.le_of_ble_eq_true rfl), (Nat.le_of_ble_eq_true rfl)⟩ hP hS hl.1 (Nat.le_of_ble_eq_true rfl) dX11_sizeFor_91 rfl ⟨(Nat.le_of_ble_eq_true rfl), (Nat.le_of_ble_eq_true rfl)⟩) hS (fun H locs hP hS => ?_)
        refine W.eq (g2 := F0 m 94 ls []) rfl ?_
        refine c_aload_n hx hb dX11_sizeFor_94 rfl (lv_at hl 0 rfl) ?_
        obtain ⟨v16, hv16, h⟩ := ob h
        refine c_gR X hP hv16 (Nat.le_of_ble_eq_true rfl) (Nat.le_of_ble_eq_true rfl) rfl w_580 dX11_sizeFor_95 ?_
        obtain ⟨v17, hv17, h⟩ := ob h
        refine c_gR X hP hv17 (Nat.le_of_ble_eq_true rfl) (Nat.le_of_ble_eq_true rfl) rfl w_94 dX11_sizeFor_98 ?_
        refine lv_iconst (v := (2:Int32)) hx hb dX11_sizeFor_101 (by decide) ?_
        obtain ⟨v18, hv18, h⟩ := ob h
        refine c_ald X hP hv18 dX11_sizeFor_102 ?_
        refine c_istore hx hb dX11_sizeFor_103 hl (Nat.le_of_ble_eq_true rfl) (lvKa rfl (lvKa rfl (lvKa rfl (lvKa rfl (lvKa rfl (lvKr lvK0)))))) rfl (fun ls (hl : lv_has ls 7 [(6, .int v18), (0, cv Φ (some x0)), (1, cv Φ x1), (2, .int x2), (3, cv Φ x3), (4, .int x4), (5, cv Φ x5)]) => ?_)
        refine lv_iload hx hb dX11_sizeFor_105 (lv_at hl 5 rfl) ?_
        refine lv_iload hx hb dX11_sizeFor_107 (lv_at hl 0 rfl) ?_
        refine lv_ldcw hx hb hown (hts _ w_1088) dX11_sizeFor_109 ?_
        refine lv_icmp_ne (tgt := 119) hx hb dX11_sizeFor_112 rfl (fun hc => ?_) (fun hc => ?_)
        · have h := ine hc h
          refine lv_iload hx hb dX11_sizeFor_119 (lv_at hl 0 rfl) ?_
          exact N_X11_sizeFor_121 X hP hS ih (lv_sub hl [1, 2, 3, 4, 6] rfl) h
        · have h := ip hc h
          refine lv_iconst (v := (0:Int32)) hx hb dX11_sizeFor_115 (by decide) ?_
          refine lv_goto (tgt := 121) hx hb dX11_sizeFor_116 rfl ?_
          exact N_X11_sizeFor_121 X hP hS ih (lv_sub hl [1, 2, 3, 4, 6] rfl) h
set_option maxRecDepth 20000 in
set_option maxHeartbeats 4000000 in
theorem K_X11_sizeFor (l : Launch) (D : cD) (Φ : cG) (σ : cS) (x0 : Nat) (x1 : Option Nat) (x2 : Int32) {q : Int32 × cS} (h : f_X11_sizeFor x0 x1 x2 σ = some q) : Met l yX11_sizeFor (Cond.code yX11_sizeFor cX11_sizeFor 7 (some .int) :: BG) (rA 3 0 0 86) (cPc D Φ σ [cv Φ (some x0), cv Φ x1, .int x2]) (cQw D Φ q.2 (some (.int q.1))) 0 0 (cReg Φ) := by
  refine Met.ofW (cc := cX11_sizeFor) (maxL := 7) (ret := (some .int)) (by decide) rfl ?_
  intro p e s m args below meth c s₁ B hml hv
  obtain ⟨rfl, hP, hK, hZ⟩ := hv
  have X : cX p s m [cv Φ (some x0), cv Φ x1, .int x2].toArray meth c cX11_sizeFor 7 (some .int) RX11 D Φ := cX_of B hml hK hZ
  have hx := X.1
  have hb := X.2.1
  have hown := X.2.2.2.1
  have hts := X.2.2.2.2.1
  have hl := lv_entry [cv Φ (some x0), cv Φ x1, .int x2] (n := 7) (by simp only [lgs_r, lgs_i, lgs_l, lgs_0, List.length]; exact Nat.le_of_ble_eq_true rfl)
  rw [lg_entry_eq]
  generalize (lg_sl [cv Φ (some x0), cv Φ x1, .int x2] ++ List.replicate (7 - (lg_sl [cv Φ (some x0), cv Φ x1, .int x2]).length) Slot.unset).toArray = ls at hl ⊢
  simp only [lv_args_r, lv_args_i, lv_args_l, lv_args_0] at hl
  have hl : lv_has ls 7 [(0, cv Φ (some x0)), (1, cv Φ x1), (2, .int x2)] := hl
  have hS : va_S (cReg Φ) s.heap s.heap [] := va_S.rf
  show cWw p l e 3 0 0 86 s m [cv Φ (some x0), cv Φ x1, .int x2].toArray below meth c D Φ q.2 (some (.int q.1)) s.heap [] 0 0 (F0 m 0 ls [])
  have h : ((rc σ (some x0) 11).bind (fun v1 => (f_X11_styleOf v1 (x1) (x2) σ).bind (fun v2 => (gR σ v2 9 0).bind (fun v3 => (aI σ v3 (2:Int32)).bind (fun v4 => if v4 = ((-1000000):Int32) then ((gR σ x1 3 17).bind (fun v5 => f_X11_sizeFor_35 x0 4000 (x1) (x2) (v2) ((0:Int32)) (v5) σ)) else ((gR σ v2 9 0).bind (fun v6 => (aI σ v6 (2:Int32)).bind (fun v7 => some (v7, σ))))))))) = some q := h
  refine c_aload_n hx hb dX11_sizeFor_0 rfl (lv_at hl 0 rfl) ?_
  refine c_aload_n hx hb dX11_sizeFor_1 rfl (lv_at hl 1 rfl) ?_
  refine lv_iload_n hx hb dX11_sizeFor_2 rfl (lv_at hl 2 rfl) ?_
  obtain ⟨v1, hv1, h⟩ := ob h
  obtain ⟨v2, hv2, h⟩ := ob h
  refine c_cr (c_runV X (K_X11_styleOf l D Φ σ v1 (x1) (x2) hv2) hv1 ⟨Nat.le_of_ble_eq_true rfl, by decide⟩ ⟨w_981, ww_X11_styleOf⟩ rfl hy_X11_styleOf rfl ⟨(Nat.le_of_ble_eq_true rfl), (Nat.le_of_ble_eq_true rfl)⟩ hP hS hl.1 (Nat.le_of_ble_eq_true rfl) dX11_sizeFor_3 rfl ⟨(Nat.le_of_ble_eq_true rfl), (Nat.le_of_ble_eq_true rfl)⟩) ?_
  refine c_astore_n hx hb dX11_sizeFor_6 rfl hl (Nat.le_of_ble_eq_true rfl) (lvKa rfl (lvKa rfl (lvKi lvK0))) rfl (fun ls (hl : lv_has ls 7 [(3, cv Φ v2), (0, cv Φ (some x0)), (1, cv Φ x1), (2, .int x2)]) => ?_)
  refine c_aload_n hx hb dX11_sizeFor_7 rfl (lv_at hl 0 rfl) ?_
  obtain ⟨v3, hv3, h⟩ := ob h
  refine c_gR X hP hv3 (Nat.le_of_ble_eq_true rfl) (Nat.le_of_ble_eq_true rfl) rfl w_94 dX11_sizeFor_8 ?_
  refine lv_iconst (v := (2:Int32)) hx hb dX11_sizeFor_11 (by decide) ?_
  obtain ⟨v4, hv4, h⟩ := ob h
  refine c_ald X hP hv4 dX11_sizeFor_12 ?_
  refine lv_ldcw hx hb hown (hts _ w_1088) dX11_sizeFor_13 ?_
  refine lv_icmp_eq (tgt := 26) hx hb dX11_sizeFor_16 rfl (fun hc => ?_) (fun hc => ?_)
  · have h := ip hc h
    refine lv_iconst (v := (0:Int32)) hx hb dX11_sizeFor_26 (by decide) ?_
    refine c_istore hx hb dX11_sizeFor_27 hl (Nat.le_of_ble_eq_true rfl) (lvKr (lvKa rfl (lvKa rfl (lvKa rfl lvK0)))) rfl (fun ls (hl : lv_has ls 7 [(4, .int (0:Int32)), (3, cv Φ v2), (0, cv Φ (some x0)), (1, cv Φ x1), (2, .int x2)]) => ?_)
    refine c_aload_n hx hb dX11_sizeFor_29 rfl (lv_at hl 3 rfl) ?_
    obtain ⟨v5, hv5, h⟩ := ob h
    refine c_gR X hP hv5 (Nat.le_of_ble_eq_true rfl) (Nat.le_of_ble_eq_true rfl) rfl w_276 dX11_sizeFor_30 ?_
    refine c_astore hx hb dX11_sizeFor_33 hl (Nat.le_of_ble_eq_true rfl) (lvKi (lvKa rfl (lvKa rfl (lvKa rfl (lvKa rfl lvK0))))) rfl (fun ls (hl : lv_has ls 7 [(5, cv Φ v5), (4, .int (0:Int32)), (3, cv Φ v2), (0, cv Φ (some x0)), (1, cv Φ x1), (2, .int x2)]) => ?_)
    exact N_X11_sizeFor_35 X hP hS (lv_sub hl [3, 4, 5, 2, 1, 0] rfl) h
  · have h := ine hc h
    refine c_aload_n hx hb dX11_sizeFor_19 rfl (lv_at hl 0 rfl) ?_
    obtain ⟨v6, hv6, h⟩ := ob h
    refine c_gR X hP hv6 (Nat.le_of_ble_eq_true rfl) (Nat.le_of_ble_eq_true rfl) rfl w_94 dX11_sizeFor_20 ?_
    refine lv_iconst (v := (2:Int32)) hx hb dX11_sizeFor_23 (by decide) ?_
    obtain ⟨v7, hv7, h⟩ := ob h
    refine c_ald X hP hv7 dX11_sizeFor_24 ?_
    obtain rfl := sj h
    exact c_wi X hP hS (Nat.le_of_ble_eq_true rfl) (Nat.le_of_ble_eq_true rfl) dX11_sizeFor_25
theorem ww_X11_sizeFor : Cond.instanceMethod yX11_sizeFor ∈ BG ∧ Cond.selects (yX11_sizeFor).cls yX11_sizeFor yX11_sizeFor ∈ BG ∧ Cond.initialized (yX11_sizeFor).cls ∈ BG ∧ Cond.code yX11_sizeFor cX11_sizeFor 7 (some .int) ∈ BG := ⟨w_1086, w_44, w_56, w_1087⟩
theorem hy_X11_sizeFor : (yX11_sizeFor).cls ≠ "java/lang/invoke/MethodHandle" ∧ (yX11_sizeFor).cls ≠ "java/lang/invoke/VarHandle" ∧ (parseMethodDescriptor (yX11_sizeFor).desc).map (fun d => d.parameters.length) = some 2 := ⟨by decide, by decide, by decide +kernel⟩
def f_X11_renewSize_37  (x0 : Nat) (y0 : Int32) (σ : cS) : Option (Int32 × cS) := lrz y0 σ
def f_X11_renewSize (x0 : Nat) (x1 : Option Nat) (σ : cS) : Option (Int32 × cS) := (gR σ x1 3 19).bind (fun v1 => (gI σ v1 9 2).bind (fun v2 => (gR σ x1 3 19).bind (fun v3 => (rc σ (some x0) 11).bind (fun v4 => (f_X11_sizeFor v4 (x1) ((0:Int32)) σ).bind (fun v5 => (pI v5.2 v3 9 2 v5.1).bind (fun v6 => (gR v6 x1 3 19).bind (fun v7 => (gI v6 v7 9 2).bind (fun v8 => if v8 = v2 then (f_X11_renewSize_37 x0 ((0:Int32)) v6) else (f_X11_renewSize_37 x0 ((1:Int32)) v6)))))))))
set_option maxRecDepth 20000 in
set_option maxHeartbeats 4000000 in
theorem N_X11_renewSize_37 {p : Program} {l : Launch} {e : Env} {s : State} {m : MethodId} {args : Array Value} {below : List Frame} {meth : Method} {c : Code} {D : cD} {Φ : cG} {x0 : Nat}   {y0 : Int32} {σ : cS} {H : Heap} {locs : List Loc} {ls : Array Slot} {q : Int32 × cS} (X : cX p s m args meth c cX11_renewSize 3 (some .boolean) RX11 D Φ) (hP : cP D Φ σ H) (hS : va_S (cReg Φ) s.heap H locs)  (hl : lv_has ls 3 []) (h : f_X11_renewSize_37  x0 y0 σ = some q) : cWw p l e 4 0 0 112 s m args below meth c D Φ q.2 (some (.int q.1)) H locs 0 0 (F0 m 37 ls [.int y0]) := by
  have hx := X.1
  have hb := X.2.1
  have hown := X.2.2.2.1
  have hts := X.2.2.2.2.1
  have h : (lrz y0 σ) = some q := h
  obtain ⟨hz, rfl⟩ := lrz_spec h
  exact c_wz X hz hP hS (Nat.le_of_ble_eq_true rfl) (Nat.le_of_ble_eq_true rfl) dX11_renewSize_37
set_option maxRecDepth 20000 in
set_option maxHeartbeats 4000000 in
theorem K_X11_renewSize (l : Launch) (D : cD) (Φ : cG) (σ : cS) (x0 : Nat) (x1 : Option Nat) {q : Int32 × cS} (h : f_X11_renewSize x0 x1 σ = some q) : Met l yX11_renewSize (Cond.code yX11_renewSize cX11_renewSize 3 (some .boolean) :: BG) (rA 4 0 0 112) (cPc D Φ σ [cv Φ (some x0), cv Φ x1]) (cQw D Φ q.2 (some (.int q.1))) 0 0 (cReg Φ) := by
  refine Met.ofW (cc := cX11_renewSize) (maxL := 3) (ret := (some .boolean)) (by decide) rfl ?_
  intro p e s m args below meth c s₁ B hml hv
  obtain ⟨rfl, hP, hK, hZ⟩ := hv
  have X : cX p s m [cv Φ (some x0), cv Φ x1].toArray meth c cX11_renewSize 3 (some .boolean) RX11 D Φ := cX_of B hml hK hZ
  have hx := X.1
  have hb := X.2.1
  have hown := X.2.2.2.1
  have hts := X.2.2.2.2.1
  have hl := lv_entry [cv Φ (some x0), cv Φ x1] (n := 3) (by simp only [lgs_r, lgs_i, lgs_l, lgs_0, List.length]; exact Nat.le_of_ble_eq_true rfl)
  rw [lg_entry_eq]
  generalize (lg_sl [cv Φ (some x0), cv Φ x1] ++ List.replicate (3 - (lg_sl [cv Φ (some x0), cv Φ x1]).length) Slot.unset).toArray = ls at hl ⊢
  simp only [lv_args_r, lv_args_i, lv_args_l, lv_args_0] at hl
  have hl : lv_has ls 3 [(0, cv Φ (some x0)), (1, cv Φ x1)] := hl
  have hS : va_S (cReg Φ) s.heap s.heap [] := va_S.rf
  show cWw p l e 4 0 0 112 s m [cv Φ (some x0), cv Φ x1].toArray below meth c D Φ q.2 (some (.int q.1)) s.heap [] 0 0 (F0 m 0 ls [])
  have h : ((gR σ x1 3 19).bind (fun v1 => (gI σ v1 9 2).bind (fun v2 => (gR σ x1 3 19).bind (fun v3 => (rc σ (some x0) 11).bind (fun v4 => (f_X11_sizeFor v4 (x1) ((0:Int32)) σ).bind (fun v5 => (pI v5.2 v3 9 2 v5.1).bind (fun v6 => (gR v6 x1 3 19).bind (fun v7 => (gI v6 v7 9 2).bind (fun v8 => if v8 = v2 then (f_X11_renewSize_37 x0 ((0:Int32)) v6) else (f_X11_renewSize_37 x0 ((1:Int32)) v6)))))))))) = some q := h
  refine c_aload_n hx hb dX11_renewSize_0 rfl (lv_at hl 1 rfl) ?_
  obtain ⟨v1, hv1, h⟩ := ob h
  refine c_gR X hP hv1 (Nat.le_of_ble_eq_true rfl) (Nat.le_of_ble_eq_true rfl) rfl w_283 dX11_renewSize_1 ?_
  obtain ⟨v2, hv2, h⟩ := ob h
  refine c_gI X hP hv2 (Nat.le_of_ble_eq_true rfl) (Nat.le_of_ble_eq_true rfl) rfl w_99 dX11_renewSize_4 ?_
  refine c_istore_n hx hb dX11_renewSize_7 rfl hl (Nat.le_of_ble_eq_true rfl) (lvKa rfl (lvKr lvK0)) rfl (fun ls (hl : lv_has ls 3 [(2, .int v2), (0, cv Φ (some x0)), (1, cv Φ x1)]) => ?_)
  refine c_aload_n hx hb dX11_renewSize_8 rfl (lv_at hl 2 rfl) ?_
  obtain ⟨v3, hv3, h⟩ := ob h
  refine c_gR X hP hv3 (Nat.le_of_ble_eq_true rfl) (Nat.le_of_ble_eq_true rfl) rfl w_283 dX11_renewSize_9 ?_
  refine c_aload_n hx hb dX11_renewSize_12 rfl (lv_at hl 1 rfl) ?_
  refine c_aload_n hx hb dX11_renewSize_13 rfl (lv_at hl 2 rfl) ?_
  refine lv_iconst (v := (0:Int32)) hx hb dX11_renewSize_14 (by decide) ?_
  obtain ⟨v4, hv4, h⟩ := ob h
  obtain ⟨v5, hv5, h⟩ := ob h
  refine c_cw (c_runV X (K_X11_sizeFor l D Φ σ v4 (x1) ((0:Int32)) hv5) hv4 ⟨Nat.le_of_ble_eq_true rfl, by decide⟩ ⟨w_1084, ww_X11_sizeFor⟩ rfl hy_X11_sizeFor rfl ⟨(Nat.le_of_ble_eq_true rfl), (Nat.le_of_ble_eq_true rfl)⟩ hP hS hl.1 (Nat.le_of_ble_eq_true rfl) dX11_renewSize_15 rfl ⟨(Nat.le_of_ble_eq_true rfl), (Nat.le_of_ble_eq_true rfl)⟩) hS (fun H locs hP hS => ?_)
  refine W.eq (g2 := F0 m 18 ls [.int v5.1, cv Φ v3]) rfl ?_
  obtain ⟨v6, hv6, h⟩ := ob h
  refine c_pI X hP hS hv6 (Nat.le_of_ble_eq_true rfl) (Nat.le_of_ble_eq_true rfl) rfl rfl (Or.inl rfl) w_99 dX11_renewSize_18 (fun H locs hP hS => ?_)
  refine c_aload_n hx hb dX11_renewSize_21 rfl (lv_at hl 2 rfl) ?_
  obtain ⟨v7, hv7, h⟩ := ob h
  refine c_gR X hP hv7 (Nat.le_of_ble_eq_true rfl) (Nat.le_of_ble_eq_true rfl) rfl w_283 dX11_renewSize_22 ?_
  obtain ⟨v8, hv8, h⟩ := ob h
  refine c_gI X hP hv8 (Nat.le_of_ble_eq_true rfl) (Nat.le_of_ble_eq_true rfl) rfl w_99 dX11_renewSize_25 ?_
  refine lv_iload_n hx hb dX11_renewSize_28 rfl (lv_at hl 0 rfl) ?_
  refine lv_icmp_eq (tgt := 36) hx hb dX11_renewSize_29 rfl (fun hc => ?_) (fun hc => ?_)
  · have h := ip hc h
    refine lv_iconst (v := (0:Int32)) hx hb dX11_renewSize_36 (by decide) ?_
    exact N_X11_renewSize_37 X hP hS (lv_sub hl [] rfl) h
  · have h := ine hc h
    refine lv_iconst (v := (1:Int32)) hx hb dX11_renewSize_32 (by decide) ?_
    refine lv_goto (tgt := 37) hx hb dX11_renewSize_33 rfl ?_
    exact N_X11_renewSize_37 X hP hS (lv_sub hl [] rfl) h
theorem ww_X11_renewSize : Cond.instanceMethod yX11_renewSize ∈ BG ∧ Cond.selects (yX11_renewSize).cls yX11_renewSize yX11_renewSize ∈ BG ∧ Cond.initialized (yX11_renewSize).cls ∈ BG ∧ Cond.code yX11_renewSize cX11_renewSize 3 (some .boolean) ∈ BG := ⟨w_1082, w_43, w_56, w_1083⟩
theorem hy_X11_renewSize : (yX11_renewSize).cls ≠ "java/lang/invoke/MethodHandle" ∧ (yX11_renewSize).cls ≠ "java/lang/invoke/VarHandle" ∧ (parseMethodDescriptor (yX11_renewSize).desc).map (fun d => d.parameters.length) = some 1 := ⟨by decide, by decide, by decide +kernel⟩
def f_X11_flush_146 (k28 : Option Nat → cS → Option (cS)) (x0 : Nat) (x1 : Option Nat) (σ : cS) : Option (cS) := (gR σ x1 3 17).bind (fun v1 => k28 (v1) σ)
def f_X11_flush_127 (k28 : Option Nat → cS → Option (cS)) (x0 : Nat) (x1 : Option Nat) (x2 : Int32) (σ : cS) : Option (cS) := if x2 = (0:Int32) then (f_X11_flush_146 k28 x0 (x1) σ) else ((gI σ (some x0) 11 15).bind (fun v1 => (gI σ x1 3 0).bind (fun v2 => (pI σ (some x0) 11 15 (v1 ||| ((1:Int32) <<< (v2 &&& 31)))).bind (fun v3 => f_X11_flush_146 k28 x0 (x1) v3))))
def f_X11_flush_106 (k28 : Option Nat → cS → Option (cS)) (x0 : Nat) (x1 : Option Nat) (x2 : Int32) (σ : cS) : Option (cS) := (gR σ x1 3 19).bind (fun v1 => (gR σ v1 9 0).bind (fun v2 => (aI σ v2 (6:Int32)).bind (fun v3 => if v3 ≤ (0:Int32) then (f_X11_flush_127 k28 x0 (x1) (x2) σ) else ((rc σ (some x0) 11).bind (fun v4 => (f_X11_renewSize v4 (x1) σ).bind (fun v5 => f_X11_flush_127 k28 x0 (x1) ((x2 ||| v5.1)) v5.2))))))
def f_X11_flush_98 (k28 : Option Nat → cS → Option (cS)) (x0 : Nat) (x1 : Option Nat) (x2 : Int32) (σ : cS) : Option (cS) := (rc σ (some x0) 11).bind (fun v1 => (f_X11_restyle v1 (x1) σ).bind (fun v2 => f_X11_flush_106 k28 x0 (x1) ((x2 ||| v2.1)) v2.2))
def f_X11_flush_61 (k28 : Option Nat → cS → Option (cS)) (x0 : Nat) (x1 : Option Nat) (y0 : Int32) (σ : cS) : Option (cS) := (gR σ x1 3 19).bind (fun v1 => (pI σ v1 9 4 (0:Int32)).bind (fun v2 => if y0 = (0:Int32) then ((gI v2 (some x0) 11 10).bind (fun v3 => (gI v2 x1 3 0).bind (fun v4 => (f_X11_isMember (v3) (v4)).bind (fun v5 => if v5 = (0:Int32) then ((gR v2 x1 3 19).bind (fun v6 => (gI v2 v6 9 1).bind (fun v7 => if v7 = (0:Int32) then (f_X11_flush_98 k28 x0 (x1) (y0) v2) else (f_X11_flush_106 k28 x0 (x1) (y0) v2)))) else (f_X11_flush_98 k28 x0 (x1) (y0) v2))))) else (f_X11_flush_98 k28 x0 (x1) (y0) v2)))
def f_X11_flush_60 (k28 : Option Nat → cS → Option (cS)) (x0 : Nat) (x1 : Option Nat) (σ : cS) : Option (cS) := f_X11_flush_61 k28 x0 (x1) ((0:Int32)) σ
def f_X11_flush_28  (x0 : Nat) : Nat → Option Nat → cS → Option (cS)
  | 0, _, _ => none
  | n + 1, x1, σ => if x1 = none then ((pI σ (some x0) 11 10 (0:Int32)).bind (fun v1 => some v1)) else ((gR σ x1 3 16).bind (fun v2 => if v2 = none then (f_X11_flush_60 (f_X11_flush_28 x0 n) x0 (x1) σ) else ((gI σ (some x0) 11 15).bind (fun v3 => (gR σ x1 3 16).bind (fun v4 => (gI σ v4 3 0).bind (fun v5 => (f_X11_isMember (v3) (v5)).bind (fun v6 => if v6 = (0:Int32) then (f_X11_flush_60 (f_X11_flush_28 x0 n) x0 (x1) σ) else (f_X11_flush_61 (f_X11_flush_28 x0 n) x0 (x1) ((1:Int32)) σ))))))))
def f_X11_flush (x0 : Nat)  (σ : cS) : Option (cS) := (gI σ (some x0) 11 11).bind (fun v1 => (pI σ (some x0) 11 11 (v1 + (1:Int32))).bind (fun v2 => (pI v2 (some x0) 11 14 (0:Int32)).bind (fun v3 => (pI v3 (some x0) 11 15 (0:Int32)).bind (fun v4 => (gR v4 (some x0) 11 0).bind (fun v5 => (gR v4 v5 10 0).bind (fun v6 => f_X11_flush_28 x0 4000 (v6) v4))))))
set_option maxRecDepth 20000 in
set_option maxHeartbeats 4000000 in
theorem N_X11_flush_146 {p : Program} {l : Launch} {e : Env} {s : State} {m : MethodId} {args : Array Value} {below : List Frame} {meth : Method} {c : Code} {D : cD} {Φ : cG} {x0 : Nat} {k28 : Option Nat → cS → Option (cS)}  {x1 : Option Nat} {σ : cS} {H : Heap} {locs : List Loc} {ls : Array Slot} {q : cS} (X : cX p s m args meth c cX11_flush 3 none RX11 D Φ) (hP : cP D Φ σ H) (hS : va_S (cReg Φ) s.heap H locs) (hk28 : ∀ {x1 : Option Nat} {σ : cS} {H : Heap} {locs : List Loc} {ls : Array Slot}, cP D Φ σ H → va_S (cReg Φ) s.heap H locs → lv_has ls 3 [(0, cv Φ (some x0)), (1, cv Φ x1)] → k28 x1 σ = some q → cWw p l e 5 0 0 134 s m args below meth c D Φ q none H locs 0 0 (F0 m 28 ls [])) (hl : lv_has ls 3 [(0, cv Φ (some x0)), (1, cv Φ x1)]) (h : f_X11_flush_146 k28 x0 x1 σ = some q) : cWw p l e 5 0 0 134 s m args below meth c D Φ q none H locs 0 0 (F0 m 146 ls []) := by
  have hx := X.1
  have hb := X.2.1
  have hown := X.2.2.2.1
  have hts := X.2.2.2.2.1
  have h : ((gR σ x1 3 17).bind (fun v1 => k28 (v1) σ)) = some q := h
  refine c_aload_n hx hb dX11_flush_146 rfl (lv_at hl 1 rfl) ?_
  obtain ⟨v1, hv1, h⟩ := ob h
  refine c_gR X hP hv1 (Nat.le_of_ble_eq_true rfl) (Nat.le_of_ble_eq_true rfl) rfl w_276 dX11_flush_147 ?_
  refine c_astore_n hx hb dX11_flush_150 rfl hl (Nat.le_of_ble_eq_true rfl) (lvKr (lvKa rfl lvK0)) rfl (fun ls (hl : lv_has ls 3 [(1, cv Φ v1), (0, cv Φ (some x0))]) => ?_)
  refine lv_goto (tgt := 28) hx hb dX11_flush_151 rfl ?_
  exact hk28 hP hS (lv_sub hl [1, 0] rfl) h
set_option maxRecDepth 20000 in
set_option maxHeartbeats 4000000 in
theorem N_X11_flush_127 {p : Program} {l : Launch} {e : Env} {s : State} {m : MethodId} {args : Array Value} {below : List Frame} {meth : Method} {c : Code} {D : cD} {Φ : cG} {x0 : Nat} {k28 : Option Nat → cS → Option (cS)}  {x1 : Option Nat} {x2 : Int32} {σ : cS} {H : Heap} {locs : List Loc} {ls : Array Slot} {q : cS} (X : cX p s m args meth c cX11_flush 3 none RX11 D Φ) (hP : cP D Φ σ H) (hS : va_S (cReg Φ) s.heap H locs) (hk28 : ∀ {x1 : Option Nat} {σ : cS} {H : Heap} {locs : List Loc} {ls : Array Slot}, cP D Φ σ H → va_S (cReg Φ) s.heap H locs → lv_has ls 3 [(0, cv Φ (some x0)), (1, cv Φ x1)] → k28 x1 σ = some q → cWw p l e 5 0 0 134 s m args below meth c D Φ q none H locs 0 0 (F0 m 28 ls [])) (hl : lv_has ls 3 [(0, cv Φ (some x0)), (1, cv Φ x1), (2, .int x2)]) (h : f_X11_flush_127 k28 x0 x1 x2 σ = some q) : cWw p l e 5 0 0 134 s m args below meth c D Φ q none H locs 0 0 (F0 m 127 ls []) := by
  have hx := X.1
  have hb := X.2.1
  have hown := X.2.2.2.1
  have hts := X.2.2.2.2.1
  have h : (if x2 = (0:Int32) then (f_X11_flush_146 k28 x0 (x1) σ) else ((gI σ (some x0) 11 15).bind (fun v1 => (gI σ x1 3 0).bind (fun v2 => (pI σ (some x0) 11 15 (v1 ||| ((1:Int32) <<< (v2 &&& 31)))).bind (fun v3 => f_X11_flush_146 k28 x0 (x1) v3))))) = some q := h
  refine lv_iload_n hx hb dX11_flush_127 rfl (lv_at hl 2 rfl) ?_
  refine lv_if_eq (tgt := 146) hx hb dX11_flush_128 rfl (fun hc => ?_) (fun hc => ?_)
  · have h := ip hc h
    exact N_X11_flush_146 X hP hS hk28 (lv_sub hl [0, 1] rfl) h
  · have h := ine hc h
    refine c_aload_n hx hb dX11_flush_131 rfl (lv_at hl 0 rfl) ?_
    refine c_dupq hx hb dX11_flush_132 ?_
    obtain ⟨v1, hv1, h⟩ := ob h
    refine c_gI X hP hv1 (Nat.le_of_ble_eq_true rfl) (Nat.le_of_ble_eq_true rfl) rfl w_586 dX11_flush_133 ?_
    refine lv_iconst (v := (1:Int32)) hx hb dX11_flush_136 (by decide) ?_
    refine c_aload_n hx hb dX11_flush_137 rfl (lv_at hl 1 rfl) ?_
    obtain ⟨v2, hv2, h⟩ := ob h
    refine c_gI X hP hv2 (Nat.le_of_ble_eq_true rfl) (Nat.le_of_ble_eq_true rfl) rfl w_227 dX11_flush_138 ?_
    refine lv_ishl hx hb dX11_flush_141 ?_
    refine lv_ior hx hb dX11_flush_142 ?_
    obtain ⟨v3, hv3, h⟩ := ob h
    refine c_pI X hP hS hv3 (Nat.le_of_ble_eq_true rfl) (Nat.le_of_ble_eq_true rfl) rfl rfl (Or.inl rfl) w_586 dX11_flush_143 (fun H locs hP hS => ?_)
    exact N_X11_flush_146 X hP hS hk28 (lv_sub hl [0, 1] rfl) h
set_option maxRecDepth 20000 in
set_option maxHeartbeats 4000000 in
theorem N_X11_flush_106 {p : Program} {l : Launch} {e : Env} {s : State} {m : MethodId} {args : Array Value} {below : List Frame} {meth : Method} {c : Code} {D : cD} {Φ : cG} {x0 : Nat} {k28 : Option Nat → cS → Option (cS)}  {x1 : Option Nat} {x2 : Int32} {σ : cS} {H : Heap} {locs : List Loc} {ls : Array Slot} {q : cS} (X : cX p s m args meth c cX11_flush 3 none RX11 D Φ) (hP : cP D Φ σ H) (hS : va_S (cReg Φ) s.heap H locs) (hk28 : ∀ {x1 : Option Nat} {σ : cS} {H : Heap} {locs : List Loc} {ls : Array Slot}, cP D Φ σ H → va_S (cReg Φ) s.heap H locs → lv_has ls 3 [(0, cv Φ (some x0)), (1, cv Φ x1)] → k28 x1 σ = some q → cWw p l e 5 0 0 134 s m args below meth c D Φ q none H locs 0 0 (F0 m 28 ls [])) (hl : lv_has ls 3 [(0, cv Φ (some x0)), (1, cv Φ x1), (2, .int x2)]) (h : f_X11_flush_106 k28 x0 x1 x2 σ = some q) : cWw p l e 5 0 0 134 s m args below meth c D Φ q none H locs 0 0 (F0 m 106 ls []) := by
  have hx := X.1
  have hb := X.2.1
  have hown := X.2.2.2.1
  have hts := X.2.2.2.2.1
  have h : ((gR σ x1 3 19).bind (fun v1 => (gR σ v1 9 0).bind (fun v2 => (aI σ v2 (6:Int32)).bind (fun v3 => if v3 ≤ (0:Int32) then (f_X11_flush_127 k28 x0 (x1) (x2) σ) else ((rc σ (some x0) 11).bind (fun v4 => (f_X11_renewSize v4 (x1) σ).bind (fun v5 => f_X11_flush_127 k28 x0 (x1) ((x2 ||| v5.1)) v5.2))))))) = some q := h
  refine c_aload_n hx hb dX11_flush_106 rfl (lv_at hl 1 rfl) ?_
  obtain ⟨v1, hv1, h⟩ := ob h
  refine c_gR X hP hv1 (Nat.le_of_ble_eq_true rfl) (Nat.le_of_ble_eq_true rfl) rfl w_283 dX11_flush_107 ?_
  obtain ⟨v2, hv2, h⟩ := ob h
  refine c_gR X hP hv2 (Nat.le_of_ble_eq_true rfl) (Nat.le_of_ble_eq_true rfl) rfl w_94 dX11_flush_110 ?_
  refine lv_bipush (v := (6:Int32)) hx hb dX11_flush_113 (by decide) ?_
  obtain ⟨v3, hv3, h⟩ := ob h
  refine c_ald X hP hv3 dX11_flush_115 ?_
  refine lv_if_le (tgt := 127) hx hb dX11_flush_116 rfl (fun hc => ?_) (fun hc => ?_)
  · have h := ip hc h
    exact N_X11_flush_127 X hP hS hk28 (lv_sub hl [0, 1, 2] rfl) h
  · have h := ine hc h
    refine lv_iload_n hx hb dX11_flush_119 rfl (lv_at hl 2 rfl) ?_
    refine c_aload_n hx hb dX11_flush_120 rfl (lv_at hl 0 rfl) ?_
    refine c_aload_n hx hb dX11_flush_121 rfl (lv_at hl 1 rfl) ?_
    obtain ⟨v4, hv4, h⟩ := ob h
    obtain ⟨v5, hv5, h⟩ := ob h
    refine c_cw (c_runV X (K_X11_renewSize l D Φ σ v4 (x1) hv5) hv4 ⟨Nat.le_of_ble_eq_true rfl, by decide⟩ ⟨w_1080, ww_X11_renewSize⟩ rfl hy_X11_renewSize rfl ⟨(Nat.le_of_ble_eq_true rfl), (Nat.le_of_ble_eq_true rfl)⟩ hP hS hl.1 (Nat.le_of_ble_eq_true rfl) dX11_flush_122 rfl ⟨(Nat.le_of_ble_eq_true rfl), (Nat.le_of_ble_eq_true rfl)⟩) hS (fun H locs hP hS => ?_)
    refine W.eq (g2 := F0 m 125 ls [.int v5.1, .int x2]) rfl ?_
    refine lv_ior hx hb dX11_flush_125 ?_
    refine c_istore_n hx hb dX11_flush_126 rfl hl (Nat.le_of_ble_eq_true rfl) (lvKa rfl (lvKr (lvKa rfl lvK0))) rfl (fun ls (hl : lv_has ls 3 [(2, .int (x2 ||| v5.1)), (0, cv Φ (some x0)), (1, cv Φ x1)]) => ?_)
    exact N_X11_flush_127 X hP hS hk28 (lv_sub hl [1, 2, 0] rfl) h
set_option maxRecDepth 20000 in
set_option maxHeartbeats 4000000 in
theorem N_X11_flush_98 {p : Program} {l : Launch} {e : Env} {s : State} {m : MethodId} {args : Array Value} {below : List Frame} {meth : Method} {c : Code} {D : cD} {Φ : cG} {x0 : Nat} {k28 : Option Nat → cS → Option (cS)}  {x1 : Option Nat} {x2 : Int32} {σ : cS} {H : Heap} {locs : List Loc} {ls : Array Slot} {q : cS} (X : cX p s m args meth c cX11_flush 3 none RX11 D Φ) (hP : cP D Φ σ H) (hS : va_S (cReg Φ) s.heap H locs) (hk28 : ∀ {x1 : Option Nat} {σ : cS} {H : Heap} {locs : List Loc} {ls : Array Slot}, cP D Φ σ H → va_S (cReg Φ) s.heap H locs → lv_has ls 3 [(0, cv Φ (some x0)), (1, cv Φ x1)] → k28 x1 σ = some q → cWw p l e 5 0 0 134 s m args below meth c D Φ q none H locs 0 0 (F0 m 28 ls [])) (hl : lv_has ls 3 [(0, cv Φ (some x0)), (1, cv Φ x1), (2, .int x2)]) (h : f_X11_flush_98 k28 x0 x1 x2 σ = some q) : cWw p l e 5 0 0 134 s m args below meth c D Φ q none H locs 0 0 (F0 m 98 ls []) := by
  have hx := X.1
  have hb := X.2.1
  have hown := X.2.2.2.1
  have hts := X.2.2.2.2.1
  have h : ((rc σ (some x0) 11).bind (fun v1 => (f_X11_restyle v1 (x1) σ).bind (fun v2 => f_X11_flush_106 k28 x0 (x1) ((x2 ||| v2.1)) v2.2))) = some q := h
  refine lv_iload_n hx hb dX11_flush_98 rfl (lv_at hl 2 rfl) ?_
  refine c_aload_n hx hb dX11_flush_99 rfl (lv_at hl 0 rfl) ?_
  refine c_aload_n hx hb dX11_flush_100 rfl (lv_at hl 1 rfl) ?_
  obtain ⟨v1, hv1, h⟩ := ob h
  obtain ⟨v2, hv2, h⟩ := ob h
  refine c_cw (c_runV X (K_X11_restyle l D Φ σ v1 (x1) hv2) hv1 ⟨Nat.le_of_ble_eq_true rfl, by decide⟩ ⟨w_969, ww_X11_restyle⟩ rfl hy_X11_restyle rfl ⟨(Nat.le_of_ble_eq_true rfl), (Nat.le_of_ble_eq_true rfl)⟩ hP hS hl.1 (Nat.le_of_ble_eq_true rfl) dX11_flush_101 rfl ⟨(Nat.le_of_ble_eq_true rfl), (Nat.le_of_ble_eq_true rfl)⟩) hS (fun H locs hP hS => ?_)
  refine W.eq (g2 := F0 m 104 ls [.int v2.1, .int x2]) rfl ?_
  refine lv_ior hx hb dX11_flush_104 ?_
  refine c_istore_n hx hb dX11_flush_105 rfl hl (Nat.le_of_ble_eq_true rfl) (lvKa rfl (lvKr (lvKa rfl lvK0))) rfl (fun ls (hl : lv_has ls 3 [(2, .int (x2 ||| v2.1)), (0, cv Φ (some x0)), (1, cv Φ x1)]) => ?_)
  exact N_X11_flush_106 X hP hS hk28 (lv_sub hl [1, 2, 0] rfl) h
set_option maxRecDepth 20000 in
set_option maxHeartbeats 4000000 in
theorem N_X11_flush_61 {p : Program} {l : Launch} {e : Env} {s : State} {m : MethodId} {args : Array Value} {below : List Frame} {meth : Method} {c : Code} {D : cD} {Φ : cG} {x0 : Nat} {k28 : Option Nat → cS → Option (cS)}  {x1 : Option Nat} {y0 : Int32} {σ : cS} {H : Heap} {locs : List Loc} {ls : Array Slot} {q : cS} (X : cX p s m args meth c cX11_flush 3 none RX11 D Φ) (hP : cP D Φ σ H) (hS : va_S (cReg Φ) s.heap H locs) (hk28 : ∀ {x1 : Option Nat} {σ : cS} {H : Heap} {locs : List Loc} {ls : Array Slot}, cP D Φ σ H → va_S (cReg Φ) s.heap H locs → lv_has ls 3 [(0, cv Φ (some x0)), (1, cv Φ x1)] → k28 x1 σ = some q → cWw p l e 5 0 0 134 s m args below meth c D Φ q none H locs 0 0 (F0 m 28 ls [])) (hl : lv_has ls 3 [(0, cv Φ (some x0)), (1, cv Φ x1)]) (h : f_X11_flush_61 k28 x0 x1 y0 σ = some q) : cWw p l e 5 0 0 134 s m args below meth c D Φ q none H locs 0 0 (F0 m 61 ls [.int y0]) := by
  have hx := X.1
  have hb := X.2.1
  have hown := X.2.2.2.1
  have hts := X.2.2.2.2.1
  have h : ((gR σ x1 3 19).bind (fun v1 => (pI σ v1 9 4 (0:Int32)).bind (fun v2 => if y0 = (0:Int32) then ((gI v2 (some x0) 11 10).bind (fun v3 => (gI v2 x1 3 0).bind (fun v4 => (f_X11_isMember (v3) (v4)).bind (fun v5 => if v5 = (0:Int32) then ((gR v2 x1 3 19).bind (fun v6 => (gI v2 v6 9 1).bind (fun v7 => if v7 = (0:Int32) then (f_X11_flush_98 k28 x0 (x1) (y0) v2) else (f_X11_flush_106 k28 x0 (x1) (y0) v2)))) else (f_X11_flush_98 k28 x0 (x1) (y0) v2))))) else (f_X11_flush_98 k28 x0 (x1) (y0) v2)))) = some q := h
  refine c_istore_n hx hb dX11_flush_61 rfl hl (Nat.le_of_ble_eq_true rfl) (lvKa rfl (lvKr lvK0)) rfl (fun ls (hl : lv_has ls 3 [(2, .int y0), (0, cv Φ (some x0)), (1, cv Φ x1)]) => ?_)
  refine c_aload_n hx hb dX11_flush_62 rfl (lv_at hl 2 rfl) ?_
  obtain ⟨v1, hv1, h⟩ := ob h
  refine c_gR X hP hv1 (Nat.le_of_ble_eq_true rfl) (Nat.le_of_ble_eq_true rfl) rfl w_283 dX11_flush_63 ?_
  refine lv_iconst (v := (0:Int32)) hx hb dX11_flush_66 (by decide) ?_
  obtain ⟨v2, hv2, h⟩ := ob h
  refine c_pI X hP hS hv2 (Nat.le_of_ble_eq_true rfl) (Nat.le_of_ble_eq_true rfl) rfl rfl (Or.inl rfl) w_102 dX11_flush_67 (fun H locs hP hS => ?_)
  refine lv_iload_n hx hb dX11_flush_70 rfl (lv_at hl 0 rfl) ?_
  refine lv_if_ne (tgt := 98) hx hb dX11_flush_71 rfl (fun hc => ?_) (fun hc => ?_)
  · have h := ine hc h
    exact N_X11_flush_98 X hP hS hk28 (lv_sub hl [1, 2, 0] rfl) h
  · have h := ip hc h
    refine c_aload_n hx hb dX11_flush_74 rfl (lv_at hl 1 rfl) ?_
    obtain ⟨v3, hv3, h⟩ := ob h
    refine c_gI X hP hv3 (Nat.le_of_ble_eq_true rfl) (Nat.le_of_ble_eq_true rfl) rfl w_581 dX11_flush_75 ?_
    refine c_aload_n hx hb dX11_flush_78 rfl (lv_at hl 2 rfl) ?_
    obtain ⟨v4, hv4, h⟩ := ob h
    refine c_gI X hP hv4 (Nat.le_of_ble_eq_true rfl) (Nat.le_of_ble_eq_true rfl) rfl w_227 dX11_flush_79 ?_
    obtain ⟨v5, hv5, h⟩ := ob h
    refine c_cr (c_runS X (K_X11_isMember l D Φ v2 (v3) (v4) hv5) ⟨w_966, ww_X11_isMember⟩ hy_X11_isMember rfl ⟨(Nat.le_of_ble_eq_true rfl), (Nat.le_of_ble_eq_true rfl)⟩ hP hS hl.1 (Nat.le_of_ble_eq_true rfl) dX11_flush_82 rfl ⟨(Nat.le_of_ble_eq_true rfl), (Nat.le_of_ble_eq_true rfl)⟩) ?_
    refine lv_if_ne (tgt := 98) hx hb dX11_flush_85 rfl (fun hc => ?_) (fun hc => ?_)
    · have h := ine hc h
      exact N_X11_flush_98 X hP hS hk28 (lv_sub hl [1, 2, 0] rfl) h
    · have h := ip hc h
      refine c_aload_n hx hb dX11_flush_88 rfl (lv_at hl 2 rfl) ?_
      obtain ⟨v6, hv6, h⟩ := ob h
      refine c_gR X hP hv6 (Nat.le_of_ble_eq_true rfl) (Nat.le_of_ble_eq_true rfl) rfl w_283 dX11_flush_89 ?_
      obtain ⟨v7, hv7, h⟩ := ob h
      refine c_gI X hP hv7 (Nat.le_of_ble_eq_true rfl) (Nat.le_of_ble_eq_true rfl) rfl w_96 dX11_flush_92 ?_
      refine lv_if_ne (tgt := 106) hx hb dX11_flush_95 rfl (fun hc => ?_) (fun hc => ?_)
      · have h := ine hc h
        exact N_X11_flush_106 X hP hS hk28 (lv_sub hl [1, 2, 0] rfl) h
      · have h := ip hc h
        exact N_X11_flush_98 X hP hS hk28 (lv_sub hl [1, 2, 0] rfl) h
set_option maxRecDepth 20000 in
set_option maxHeartbeats 4000000 in
theorem N_X11_flush_60 {p : Program} {l : Launch} {e : Env} {s : State} {m : MethodId} {args : Array Value} {below : List Frame} {meth : Method} {c : Code} {D : cD} {Φ : cG} {x0 : Nat} {k28 : Option Nat → cS → Option (cS)}  {x1 : Option Nat} {σ : cS} {H : Heap} {locs : List Loc} {ls : Array Slot} {q : cS} (X : cX p s m args meth c cX11_flush 3 none RX11 D Φ) (hP : cP D Φ σ H) (hS : va_S (cReg Φ) s.heap H locs) (hk28 : ∀ {x1 : Option Nat} {σ : cS} {H : Heap} {locs : List Loc} {ls : Array Slot}, cP D Φ σ H → va_S (cReg Φ) s.heap H locs → lv_has ls 3 [(0, cv Φ (some x0)), (1, cv Φ x1)] → k28 x1 σ = some q → cWw p l e 5 0 0 134 s m args below meth c D Φ q none H locs 0 0 (F0 m 28 ls [])) (hl : lv_has ls 3 [(0, cv Φ (some x0)), (1, cv Φ x1)]) (h : f_X11_flush_60 k28 x0 x1 σ = some q) : cWw p l e 5 0 0 134 s m args below meth c D Φ q none H locs 0 0 (F0 m 60 ls []) := by
  have hx := X.1
  have hb := X.2.1
  have hown := X.2.2.2.1
  have hts := X.2.2.2.2.1
  have h : (f_X11_flush_61 k28 x0 (x1) ((0:Int32)) σ) = some q := h
  refine lv_iconst (v := (0:Int32)) hx hb dX11_flush_60 (by decide) ?_
  exact N_X11_flush_61 X hP hS hk28 (lv_sub hl [0, 1] rfl) h
set_option maxRecDepth 20000 in
set_option maxHeartbeats 4000000 in
theorem N_X11_flush_28 {p : Program} {l : Launch} {e : Env} {s : State} {m : MethodId} {args : Array Value} {below : List Frame} {meth : Method} {c : Code} {D : cD} {Φ : cG} {x0 : Nat}  {n : Nat} {x1 : Option Nat} {σ : cS} {H : Heap} {locs : List Loc} {ls : Array Slot} {q : cS} (X : cX p s m args meth c cX11_flush 3 none RX11 D Φ) (hP : cP D Φ σ H) (hS : va_S (cReg Φ) s.heap H locs)  (hl : lv_has ls 3 [(0, cv Φ (some x0)), (1, cv Φ x1)]) (h : f_X11_flush_28  x0 n x1 σ = some q) : cWw p l e 5 0 0 134 s m args below meth c D Φ q none H locs 0 0 (F0 m 28 ls []) := by
  have hx := X.1
  have hb := X.2.1
  have hown := X.2.2.2.1
  have hts := X.2.2.2.2.1
  induction n generalizing x1 σ H locs ls with
  | zero => exact absurd (show none = some q from h) (by simp)
  | succ n ih =>
    have h : (if x1 = none then ((pI σ (some x0) 11 10 (0:Int32)).bind (fun v1 => some v1)) else ((gR σ x1 3 16).bind (fun v2 => if v2 = none then (f_X11_flush_60 (f_X11_flush_28 x0 n) x0 (x1) σ) else ((gI σ (some x0) 11 15).bind (fun v3 => (gR σ x1 3 16).bind (fun v4 => (gI σ v4 3 0).bind (fun v5 => (f_X11_isMember (v3) (v5)).bind (fun v6 => if v6 = (0:Int32) then (f_X11_flush_60 (f_X11_flush_28 x0 n) x0 (x1) σ) else (f_X11_flush_61 (f_X11_flush_28 x0 n) x0 (x1) ((1:Int32)) σ))))))))) = some q := h
    refine c_aload_n hx hb dX11_flush_28 rfl (lv_at hl 1 rfl) ?_
    refine c_ifnull (Φ := Φ) (tgt := 154) hx hb dX11_flush_29 rfl (fun hc => ?_) (fun hc => ?_)
    · have h := ip hc h
      refine c_aload_n hx hb dX11_flush_154 rfl (lv_at hl 0 rfl) ?_
      refine lv_iconst (v := (0:Int32)) hx hb dX11_flush_155 (by decide) ?_
      obtain ⟨v1, hv1, h⟩ := ob h
      refine c_pI X hP hS hv1 (Nat.le_of_ble_eq_true rfl) (Nat.le_of_ble_eq_true rfl) rfl rfl (Or.inl rfl) w_581 dX11_flush_156 (fun H locs hP hS => ?_)
      obtain rfl := sj h
      exact c_wv X hP hS (Nat.le_of_ble_eq_true rfl) (Nat.le_of_ble_eq_true rfl) dX11_flush_159
    · have h := ine hc h
      refine c_aload_n hx hb dX11_flush_32 rfl (lv_at hl 1 rfl) ?_
      obtain ⟨v2, hv2, h⟩ := ob h
      refine c_gR X hP hv2 (Nat.le_of_ble_eq_true rfl) (Nat.le_of_ble_eq_true rfl) rfl w_273 dX11_flush_33 ?_
      refine c_ifnull (Φ := Φ) (tgt := 60) hx hb dX11_flush_36 rfl (fun hc => ?_) (fun hc => ?_)
      · have h := ip hc h
        exact N_X11_flush_60 X hP hS ih (lv_sub hl [0, 1] rfl) h
      · have h := ine hc h
        refine c_aload_n hx hb dX11_flush_39 rfl (lv_at hl 0 rfl) ?_
        obtain ⟨v3, hv3, h⟩ := ob h
        refine c_gI X hP hv3 (Nat.le_of_ble_eq_true rfl) (Nat.le_of_ble_eq_true rfl) rfl w_586 dX11_flush_40 ?_
        refine c_aload_n hx hb dX11_flush_43 rfl (lv_at hl 1 rfl) ?_
        obtain ⟨v4, hv4, h⟩ := ob h
        refine c_gR X hP hv4 (Nat.le_of_ble_eq_true rfl) (Nat.le_of_ble_eq_true rfl) rfl w_273 dX11_flush_44 ?_
        obtain ⟨v5, hv5, h⟩ := ob h
        refine c_gI X hP hv5 (Nat.le_of_ble_eq_true rfl) (Nat.le_of_ble_eq_true rfl) rfl w_227 dX11_flush_47 ?_
        obtain ⟨v6, hv6, h⟩ := ob h
        refine c_cr (c_runS X (K_X11_isMember l D Φ σ (v3) (v5) hv6) ⟨w_966, ww_X11_isMember⟩ hy_X11_isMember rfl ⟨(Nat.le_of_ble_eq_true rfl), (Nat.le_of_ble_eq_true rfl)⟩ hP hS hl.1 (Nat.le_of_ble_eq_true rfl) dX11_flush_50 rfl ⟨(Nat.le_of_ble_eq_true rfl), (Nat.le_of_ble_eq_true rfl)⟩) ?_
        refine lv_if_eq (tgt := 60) hx hb dX11_flush_53 rfl (fun hc => ?_) (fun hc => ?_)
        · have h := ip hc h
          exact N_X11_flush_60 X hP hS ih (lv_sub hl [0, 1] rfl) h
        · have h := ine hc h
          refine lv_iconst (v := (1:Int32)) hx hb dX11_flush_56 (by decide) ?_
          refine lv_goto (tgt := 61) hx hb dX11_flush_57 rfl ?_
          exact N_X11_flush_61 X hP hS ih (lv_sub hl [0, 1] rfl) h
set_option maxRecDepth 20000 in
set_option maxHeartbeats 4000000 in
theorem K_X11_flush (l : Launch) (D : cD) (Φ : cG) (σ : cS) (x0 : Nat)  {q : cS} (h : f_X11_flush x0  σ = some q) : Met l yX11_flush (Cond.code yX11_flush cX11_flush 3 none :: BG) (rA 5 0 0 134) (cPc D Φ σ [cv Φ (some x0)]) (cQw D Φ q none) 0 0 (cReg Φ) := by
  refine Met.ofW (cc := cX11_flush) (maxL := 3) (ret := none) (by decide) rfl ?_
  intro p e s m args below meth c s₁ B hml hv
  obtain ⟨rfl, hP, hK, hZ⟩ := hv
  have X : cX p s m [cv Φ (some x0)].toArray meth c cX11_flush 3 none RX11 D Φ := cX_of B hml hK hZ
  have hx := X.1
  have hb := X.2.1
  have hown := X.2.2.2.1
  have hts := X.2.2.2.2.1
  have hl := lv_entry [cv Φ (some x0)] (n := 3) (by simp only [lgs_r, lgs_i, lgs_l, lgs_0, List.length]; exact Nat.le_of_ble_eq_true rfl)
  rw [lg_entry_eq]
  generalize (lg_sl [cv Φ (some x0)] ++ List.replicate (3 - (lg_sl [cv Φ (some x0)]).length) Slot.unset).toArray = ls at hl ⊢
  simp only [lv_args_r, lv_args_i, lv_args_l, lv_args_0] at hl
  have hl : lv_has ls 3 [(0, cv Φ (some x0))] := hl
  have hS : va_S (cReg Φ) s.heap s.heap [] := va_S.rf
  show cWw p l e 5 0 0 134 s m [cv Φ (some x0)].toArray below meth c D Φ q none s.heap [] 0 0 (F0 m 0 ls [])
  have h : ((gI σ (some x0) 11 11).bind (fun v1 => (pI σ (some x0) 11 11 (v1 + (1:Int32))).bind (fun v2 => (pI v2 (some x0) 11 14 (0:Int32)).bind (fun v3 => (pI v3 (some x0) 11 15 (0:Int32)).bind (fun v4 => (gR v4 (some x0) 11 0).bind (fun v5 => (gR v4 v5 10 0).bind (fun v6 => f_X11_flush_28 x0 4000 (v6) v4))))))) = some q := h
  refine c_aload_n hx hb dX11_flush_0 rfl (lv_at hl 0 rfl) ?_
  refine c_dupq hx hb dX11_flush_1 ?_
  obtain ⟨v1, hv1, h⟩ := ob h
  refine c_gI X hP hv1 (Nat.le_of_ble_eq_true rfl) (Nat.le_of_ble_eq_true rfl) rfl w_582 dX11_flush_2 ?_
  refine lv_iconst (v := (1:Int32)) hx hb dX11_flush_5 (by decide) ?_
  refine lv_iadd hx hb dX11_flush_6 ?_
  obtain ⟨v2, hv2, h⟩ := ob h
  refine c_pI X hP hS hv2 (Nat.le_of_ble_eq_true rfl) (Nat.le_of_ble_eq_true rfl) rfl rfl (Or.inl rfl) w_582 dX11_flush_7 (fun H locs hP hS => ?_)
  refine c_aload_n hx hb dX11_flush_10 rfl (lv_at hl 0 rfl) ?_
  refine lv_iconst (v := (0:Int32)) hx hb dX11_flush_11 (by decide) ?_
  obtain ⟨v3, hv3, h⟩ := ob h
  refine c_pI X hP hS hv3 (Nat.le_of_ble_eq_true rfl) (Nat.le_of_ble_eq_true rfl) rfl rfl (Or.inl rfl) w_585 dX11_flush_12 (fun H locs hP hS => ?_)
  refine c_aload_n hx hb dX11_flush_15 rfl (lv_at hl 0 rfl) ?_
  refine lv_iconst (v := (0:Int32)) hx hb dX11_flush_16 (by decide) ?_
  obtain ⟨v4, hv4, h⟩ := ob h
  refine c_pI X hP hS hv4 (Nat.le_of_ble_eq_true rfl) (Nat.le_of_ble_eq_true rfl) rfl rfl (Or.inl rfl) w_586 dX11_flush_17 (fun H locs hP hS => ?_)
  refine c_aload_n hx hb dX11_flush_20 rfl (lv_at hl 0 rfl) ?_
  obtain ⟨v5, hv5, h⟩ := ob h
  refine c_gR X hP hv5 (Nat.le_of_ble_eq_true rfl) (Nat.le_of_ble_eq_true rfl) rfl w_571 dX11_flush_21 ?_
  obtain ⟨v6, hv6, h⟩ := ob h
  refine c_gR X hP hv6 (Nat.le_of_ble_eq_true rfl) (Nat.le_of_ble_eq_true rfl) rfl w_327 dX11_flush_24 ?_
  refine c_astore_n hx hb dX11_flush_27 rfl hl (Nat.le_of_ble_eq_true rfl) (lvKr lvK0) rfl (fun ls (hl : lv_has ls 3 [(1, cv Φ v6), (0, cv Φ (some x0))]) => ?_)
  exact N_X11_flush_28 X hP hS (lv_sub hl [1, 0] rfl) h
theorem ww_X11_flush : Cond.instanceMethod yX11_flush ∈ BG ∧ Cond.selects (yX11_flush).cls yX11_flush yX11_flush ∈ BG ∧ Cond.initialized (yX11_flush).cls ∈ BG ∧ Cond.code yX11_flush cX11_flush 3 none ∈ BG := ⟨w_964, w_25, w_56, w_965⟩
theorem hy_X11_flush : (yX11_flush).cls ≠ "java/lang/invoke/MethodHandle" ∧ (yX11_flush).cls ≠ "java/lang/invoke/VarHandle" ∧ (parseMethodDescriptor (yX11_flush).desc).map (fun d => d.parameters.length) = some 0 := ⟨by decide, by decide, by decide +kernel⟩
def f_X11_tellListeners_87  (x0 : Nat)  (σ : cS) : Option (cS) := some σ
def f_X11_tellListeners_81 (k2 : Int32 → cS → Option (cS)) (x0 : Nat) (x1 : Int32) (σ : cS) : Option (cS) := k2 ((x1 + (1:Int32))) σ
def f_X11_tellListeners_2  (x0 : Nat) : Nat → Int32 → cS → Option (cS)
  | 0, _, _ => none
  | n + 1, x1, σ => (gI σ (some x0) 11 5).bind (fun v1 => if v1 ≤ x1 then (f_X11_tellListeners_87 x0 σ) else (if (6:Int32) ≤ x1 then (f_X11_tellListeners_87 x0 σ) else ((gR σ (some x0) 11 4).bind (fun v2 => (aR σ v2 34 x1).bind (fun v3 => if v3 = none then (f_X11_tellListeners_81 (f_X11_tellListeners_2 x0 n) x0 (x1) σ) else (none))))))
def f_X11_tellListeners (x0 : Nat)  (σ : cS) : Option (cS) := f_X11_tellListeners_2 x0 4000 ((0:Int32)) σ
set_option maxRecDepth 20000 in
set_option maxHeartbeats 4000000 in
theorem N_X11_tellListeners_87 {p : Program} {l : Launch} {e : Env} {s : State} {m : MethodId} {args : Array Value} {below : List Frame} {meth : Method} {c : Code} {D : cD} {Φ : cG} {x0 : Nat}    {σ : cS} {H : Heap} {locs : List Loc} {ls : Array Slot} {q : cS} (X : cX p s m args meth c cX11_tellListeners 3 none RX11 D Φ) (hP : cP D Φ σ H) (hS : va_S (cReg Φ) s.heap H locs)  (hl : lv_has ls 3 []) (h : f_X11_tellListeners_87  x0  σ = some q) : cWw p l e 4 0 0 90 s m args below meth c D Φ q none H locs 0 0 (F0 m 87 ls []) := by
  have hx := X.1
  have hb := X.2.1
  have hown := X.2.2.2.1
  have hts := X.2.2.2.2.1
  have h : (some σ) = some q := h
  obtain rfl := sj h
  exact c_wv X hP hS (Nat.le_of_ble_eq_true rfl) (Nat.le_of_ble_eq_true rfl) dX11_tellListeners_87
set_option maxRecDepth 20000 in
set_option maxHeartbeats 4000000 in
theorem N_X11_tellListeners_81 {p : Program} {l : Launch} {e : Env} {s : State} {m : MethodId} {args : Array Value} {below : List Frame} {meth : Method} {c : Code} {D : cD} {Φ : cG} {x0 : Nat} {k2 : Int32 → cS → Option (cS)}  {x1 : Int32} {σ : cS} {H : Heap} {locs : List Loc} {ls : Array Slot} {q : cS} (X : cX p s m args meth c cX11_tellListeners 3 none RX11 D Φ) (hP : cP D Φ σ H) (hS : va_S (cReg Φ) s.heap H locs) (hk2 : ∀ {x1 : Int32} {σ : cS} {H : Heap} {locs : List Loc} {ls : Array Slot}, cP D Φ σ H → va_S (cReg Φ) s.heap H locs → lv_has ls 3 [(0, cv Φ (some x0)), (1, .int x1)] → k2 x1 σ = some q → cWw p l e 4 0 0 90 s m args below meth c D Φ q none H locs 0 0 (F0 m 2 ls [])) (hl : lv_has ls 3 [(0, cv Φ (some x0)), (1, .int x1)]) (h : f_X11_tellListeners_81 k2 x0 x1 σ = some q) : cWw p l e 4 0 0 90 s m args below meth c D Φ q none H locs 0 0 (F0 m 81 ls []) := by
  have hx := X.1
  have hb := X.2.1
  have hown := X.2.2.2.1
  have hts := X.2.2.2.2.1
  have h : (k2 ((x1 + (1:Int32))) σ) = some q := h
  refine c_iinc (v := (x1 + (1:Int32))) hx hb dX11_tellListeners_81 hl (k := 1) rfl rfl (Nat.le_of_ble_eq_true rfl) (lvKr (lvKa rfl lvK0)) rfl (fun ls (hl : lv_has ls 3 [(1, .int (x1 + (1:Int32))), (0, cv Φ (some x0))]) => ?_)
  refine lv_goto (tgt := 2) hx hb dX11_tellListeners_84 rfl ?_
  exact hk2 hP hS (lv_sub hl [1, 0] rfl) h
set_option maxRecDepth 20000 in
set_option maxHeartbeats 4000000 in
theorem N_X11_tellListeners_2 {p : Program} {l : Launch} {e : Env} {s : State} {m : MethodId} {args : Array Value} {below : List Frame} {meth : Method} {c : Code} {D : cD} {Φ : cG} {x0 : Nat}  {n : Nat} {x1 : Int32} {σ : cS} {H : Heap} {locs : List Loc} {ls : Array Slot} {q : cS} (X : cX p s m args meth c cX11_tellListeners 3 none RX11 D Φ) (hP : cP D Φ σ H) (hS : va_S (cReg Φ) s.heap H locs)  (hl : lv_has ls 3 [(0, cv Φ (some x0)), (1, .int x1)]) (h : f_X11_tellListeners_2  x0 n x1 σ = some q) : cWw p l e 4 0 0 90 s m args below meth c D Φ q none H locs 0 0 (F0 m 2 ls []) := by
  have hx := X.1
  have hb := X.2.1
  have hown := X.2.2.2.1
  have hts := X.2.2.2.2.1
  induction n generalizing x1 σ H locs ls with
  | zero => exact absurd (show none = some q from h) (by simp)
  | succ n ih =>
    have h : ((gI σ (some x0) 11 5).bind (fun v1 => if v1 ≤ x1 then (f_X11_tellListeners_87 x0 σ) else (if (6:Int32) ≤ x1 then (f_X11_tellListeners_87 x0 σ) else ((gR σ (some x0) 11 4).bind (fun v2 => (aR σ v2 34 x1).bind (fun v3 => if v3 = none then (f_X11_tellListeners_81 (f_X11_tellListeners_2 x0 n) x0 (x1) σ) else (none))))))) = some q := h
    refine lv_iload_n hx hb dX11_tellListeners_2 rfl (lv_at hl 1 rfl) ?_
    refine c_aload_n hx hb dX11_tellListeners_3 rfl (lv_at hl 0 rfl) ?_
    obtain ⟨v1, hv1, h⟩ := ob h
    refine c_gI X hP hv1 (Nat.le_of_ble_eq_true rfl) (Nat.le_of_ble_eq_true rfl) rfl w_576 dX11_tellListeners_4 ?_
    refine lv_icmp_ge (tgt := 87) hx hb dX11_tellListeners_7 rfl (fun hc => ?_) (fun hc => ?_)
    · have h := ip hc h
      exact N_X11_tellListeners_87 X hP hS (lv_sub hl [] rfl) h
    · have h := ine hc h
      refine lv_iload_n hx hb dX11_tellListeners_10 rfl (lv_at hl 1 rfl) ?_
      refine lv_bipush (v := (6:Int32)) hx hb dX11_tellListeners_11 (by decide) ?_
      refine lv_icmp_ge (tgt := 87) hx hb dX11_tellListeners_13 rfl (fun hc => ?_) (fun hc => ?_)
      · have h := ip hc h
        exact N_X11_tellListeners_87 X hP hS (lv_sub hl [] rfl) h
      · have h := ine hc h
        refine c_aload_n hx hb dX11_tellListeners_16 rfl (lv_at hl 0 rfl) ?_
        obtain ⟨v2, hv2, h⟩ := ob h
        refine c_gR X hP hv2 (Nat.le_of_ble_eq_true rfl) (Nat.le_of_ble_eq_true rfl) rfl w_575 dX11_tellListeners_17 ?_
        refine lv_iload_n hx hb dX11_tellListeners_20 rfl (lv_at hl 1 rfl) ?_
        obtain ⟨v3, hv3, h⟩ := ob h
        refine c_aldq X hP hv3 (ty := .object "Cascadery$Listener") rfl (by decide) rfl dX11_tellListeners_21 ?_
        refine c_astore_n hx hb dX11_tellListeners_22 rfl hl (Nat.le_of_ble_eq_true rfl) (lvKa rfl (lvKi lvK0)) rfl (fun ls (hl : lv_has ls 3 [(2, cv Φ v3), (0, cv Φ (some x0)), (1, .int x1)]) => ?_)
        refine c_aload_n hx hb dX11_tellListeners_23 rfl (lv_at hl 0 rfl) ?_
        refine c_ifnull (Φ := Φ) (tgt := 81) hx hb dX11_tellListeners_24 rfl (fun hc => ?_) (fun hc => ?_)
        · have h := ip hc h
          exact N_X11_tellListeners_81 X hP hS ih (lv_sub hl [1, 2] rfl) h
        · have h := ine hc h
          refine c_aload_n hx hb dX11_tellListeners_27 rfl (lv_at hl 0 rfl) ?_
          cases h
set_option maxRecDepth 20000 in
set_option maxHeartbeats 4000000 in
theorem K_X11_tellListeners (l : Launch) (D : cD) (Φ : cG) (σ : cS) (x0 : Nat)  {q : cS} (h : f_X11_tellListeners x0  σ = some q) : Met l yX11_tellListeners (Cond.code yX11_tellListeners cX11_tellListeners 3 none :: BG) (rA 4 0 0 90) (cPc D Φ σ [cv Φ (some x0)]) (cQw D Φ q none) 0 0 (cReg Φ) := by
  refine Met.ofW (cc := cX11_tellListeners) (maxL := 3) (ret := none) (by decide) rfl ?_
  intro p e s m args below meth c s₁ B hml hv
  obtain ⟨rfl, hP, hK, hZ⟩ := hv
  have X : cX p s m [cv Φ (some x0)].toArray meth c cX11_tellListeners 3 none RX11 D Φ := cX_of B hml hK hZ
  have hx := X.1
  have hb := X.2.1
  have hown := X.2.2.2.1
  have hts := X.2.2.2.2.1
  have hl := lv_entry [cv Φ (some x0)] (n := 3) (by simp only [lgs_r, lgs_i, lgs_l, lgs_0, List.length]; exact Nat.le_of_ble_eq_true rfl)
  rw [lg_entry_eq]
  generalize (lg_sl [cv Φ (some x0)] ++ List.replicate (3 - (lg_sl [cv Φ (some x0)]).length) Slot.unset).toArray = ls at hl ⊢
  simp only [lv_args_r, lv_args_i, lv_args_l, lv_args_0] at hl
  have hl : lv_has ls 3 [(0, cv Φ (some x0))] := hl
  have hS : va_S (cReg Φ) s.heap s.heap [] := va_S.rf
  show cWw p l e 4 0 0 90 s m [cv Φ (some x0)].toArray below meth c D Φ q none s.heap [] 0 0 (F0 m 0 ls [])
  have h : (f_X11_tellListeners_2 x0 4000 ((0:Int32)) σ) = some q := h
  refine lv_iconst (v := (0:Int32)) hx hb dX11_tellListeners_0 (by decide) ?_
  refine c_istore_n hx hb dX11_tellListeners_1 rfl hl (Nat.le_of_ble_eq_true rfl) (lvKr lvK0) rfl (fun ls (hl : lv_has ls 3 [(1, .int (0:Int32)), (0, cv Φ (some x0))]) => ?_)
  exact N_X11_tellListeners_2 X hP hS (lv_sub hl [1, 0] rfl) h
theorem ww_X11_tellListeners : Cond.instanceMethod yX11_tellListeners ∈ BG ∧ Cond.selects (yX11_tellListeners).cls yX11_tellListeners yX11_tellListeners ∈ BG ∧ Cond.initialized (yX11_tellListeners).cls ∈ BG ∧ Cond.code yX11_tellListeners cX11_tellListeners 3 none ∈ BG := ⟨w_1091, w_45, w_56, w_1092⟩
theorem hy_X11_tellListeners : (yX11_tellListeners).cls ≠ "java/lang/invoke/MethodHandle" ∧ (yX11_tellListeners).cls ≠ "java/lang/invoke/VarHandle" ∧ (parseMethodDescriptor (yX11_tellListeners).desc).map (fun d => d.parameters.length) = some 0 := ⟨by decide, by decide, by decide +kernel⟩
def f_X11_read_81  (x0 : Nat)  (σ : cS) : Option (cS) := some σ
def f_X11_read_74 (k30 : Int32 → Int32 → cS → Option (cS)) (x0 : Nat) (x2 : Int32) (y0 : Int32) (σ : cS) : Option (cS) := k30 (y0) ((x2 + (1:Int32))) σ
def f_X11_read_30  (x0 : Nat) : Nat → Int32 → Int32 → cS → Option (cS)
  | 0, _, _, _ => none
  | n + 1, x1, x2, σ => if (4:Int32) ≤ x2 then (f_X11_read_81 x0 σ) else (if x1 = (0:Int32) then (f_X11_read_81 x0 σ) else ((gR σ (some x0) 11 2).bind (fun v1 => (rc σ v1 1).bind (fun v2 => (f_X1_prepare v2  σ).bind (fun v3 => (rc v3 (some x0) 11).bind (fun v4 => (f_X11_flush v4  v3).bind (fun v5 => (rc v5 (some x0) 11).bind (fun v6 => (f_X11_tellListeners v6  v5).bind (fun v7 => (gI v7 (some x0) 11 10).bind (fun v8 => (gR v7 (some x0) 11 0).bind (fun v9 => (gI v7 v9 10 2).bind (fun v10 => if (v8 &&& v10) = (0:Int32) then (f_X11_read_74 (f_X11_read_30 x0 n) x0 (x2) ((0:Int32)) v7) else (f_X11_read_74 (f_X11_read_30 x0 n) x0 (x2) ((1:Int32)) v7)))))))))))))
def f_X11_read_27  (x0 : Nat) (y0 : Int32) (σ : cS) : Option (cS) := f_X11_read_30 x0 4000 (y0) ((0:Int32)) σ
def f_X11_read_22  (x0 : Nat)  (σ : cS) : Option (cS) := f_X11_read_27 x0 ((1:Int32)) σ
def f_X11_read (x0 : Nat)  (σ : cS) : Option (cS) := (gI σ (some x0) 11 10).bind (fun v1 => (gR σ (some x0) 11 0).bind (fun v2 => (gI σ v2 10 2).bind (fun v3 => if (v1 &&& v3) = (0:Int32) then ((rc σ (some x0) 11).bind (fun v4 => (f_X11_lacksValues v4  σ).bind (fun v5 => if v5 = (0:Int32) then (f_X11_read_27 x0 ((0:Int32)) σ) else (f_X11_read_22 x0 σ)))) else (f_X11_read_22 x0 σ))))
set_option maxRecDepth 20000 in
set_option maxHeartbeats 4000000 in
theorem N_X11_read_81 {p : Program} {l : Launch} {e : Env} {s : State} {m : MethodId} {args : Array Value} {below : List Frame} {meth : Method} {c : Code} {D : cD} {Φ : cG} {x0 : Nat}    {σ : cS} {H : Heap} {locs : List Loc} {ls : Array Slot} {q : cS} (X : cX p s m args meth c cX11_read 3 none RX11 D Φ) (hP : cP D Φ σ H) (hS : va_S (cReg Φ) s.heap H locs)  (hl : lv_has ls 3 []) (h : f_X11_read_81  x0  σ = some q) : cWw p l e 6 0 0 156 s m args below meth c D Φ q none H locs 0 0 (F0 m 81 ls []) := by
  have hx := X.1
  have hb := X.2.1
  have hown := X.2.2.2.1
  have hts := X.2.2.2.2.1
  have h : (some σ) = some q := h
  obtain rfl := sj h
  exact c_wv X hP hS (Nat.le_of_ble_eq_true rfl) (Nat.le_of_ble_eq_true rfl) dX11_read_81
set_option maxRecDepth 20000 in
set_option maxHeartbeats 4000000 in
theorem N_X11_read_74 {p : Program} {l : Launch} {e : Env} {s : State} {m : MethodId} {args : Array Value} {below : List Frame} {meth : Method} {c : Code} {D : cD} {Φ : cG} {x0 : Nat} {k30 : Int32 → Int32 → cS → Option (cS)}  {x2 : Int32} {y0 : Int32} {σ : cS} {H : Heap} {locs : List Loc} {ls : Array Slot} {q : cS} (X : cX p s m args meth c cX11_read 3 none RX11 D Φ) (hP : cP D Φ σ H) (hS : va_S (cReg Φ) s.heap H locs) (hk30 : ∀ {x1 : Int32} {x2 : Int32} {σ : cS} {H : Heap} {locs : List Loc} {ls : Array Slot}, cP D Φ σ H → va_S (cReg Φ) s.heap H locs → lv_has ls 3 [(0, cv Φ (some x0)), (1, .int x1), (2, .int x2)] → k30 x1 x2 σ = some q → cWw p l e 6 0 0 156 s m args below meth c D Φ q none H locs 0 0 (F0 m 30 ls [])) (hl : lv_has ls 3 [(0, cv Φ (some x0)), (2, .int x2)]) (h : f_X11_read_74 k30 x0 x2 y0 σ = some q) : cWw p l e 6 0 0 156 s m args below meth c D Φ q none H locs 0 0 (F0 m 74 ls [.int y0]) := by
  have hx := X.1
  have hb := X.2.1
  have hown := X.2.2.2.1
  have hts := X.2.2.2.2.1
  have h : (k30 (y0) ((x2 + (1:Int32))) σ) = some q := h
  refine c_istore_n hx hb dX11_read_74 rfl hl (Nat.le_of_ble_eq_true rfl) (lvKr (lvKa rfl lvK0)) rfl (fun ls (hl : lv_has ls 3 [(1, .int y0), (0, cv Φ (some x0)), (2, .int x2)]) => ?_)
  refine c_iinc (v := (x2 + (1:Int32))) hx hb dX11_read_75 hl (k := 2) rfl rfl (Nat.le_of_ble_eq_true rfl) (lvKi (lvKa rfl (lvKa rfl lvK0))) rfl (fun ls (hl : lv_has ls 3 [(2, .int (x2 + (1:Int32))), (1, .int y0), (0, cv Φ (some x0))]) => ?_)
  refine lv_goto (tgt := 30) hx hb dX11_read_78 rfl ?_
  exact hk30 hP hS (lv_sub hl [2, 1, 0] rfl) h
set_option maxRecDepth 20000 in
set_option maxHeartbeats 4000000 in
theorem N_X11_read_30 {p : Program} {l : Launch} {e : Env} {s : State} {m : MethodId} {args : Array Value} {below : List Frame} {meth : Method} {c : Code} {D : cD} {Φ : cG} {x0 : Nat}  {n : Nat} {x1 : Int32} {x2 : Int32} {σ : cS} {H : Heap} {locs : List Loc} {ls : Array Slot} {q : cS} (X : cX p s m args meth c cX11_read 3 none RX11 D Φ) (hP : cP D Φ σ H) (hS : va_S (cReg Φ) s.heap H locs)  (hl : lv_has ls 3 [(0, cv Φ (some x0)), (1, .int x1), (2, .int x2)]) (h : f_X11_read_30  x0 n x1 x2 σ = some q) : cWw p l e 6 0 0 156 s m args below meth c D Φ q none H locs 0 0 (F0 m 30 ls []) := by
  have hx := X.1
  have hb := X.2.1
  have hown := X.2.2.2.1
  have hts := X.2.2.2.2.1
  induction n generalizing x1 x2 σ H locs ls with
  | zero => exact absurd (show none = some q from h) (by simp)
  | succ n ih =>
    have h : (if (4:Int32) ≤ x2 then (f_X11_read_81 x0 σ) else (if x1 = (0:Int32) then (f_X11_read_81 x0 σ) else ((gR σ (some x0) 11 2).bind (fun v1 => (rc σ v1 1).bind (fun v2 => (f_X1_prepare v2  σ).bind (fun v3 => (rc v3 (some x0) 11).bind (fun v4 => (f_X11_flush v4  v3).bind (fun v5 => (rc v5 (some x0) 11).bind (fun v6 => (f_X11_tellListeners v6  v5).bind (fun v7 => (gI v7 (some x0) 11 10).bind (fun v8 => (gR v7 (some x0) 11 0).bind (fun v9 => (gI v7 v9 10 2).bind (fun v10 => if (v8 &&& v10) = (0:Int32) then (f_X11_read_74 (f_X11_read_30 x0 n) x0 (x2) ((0:Int32)) v7) else (f_X11_read_74 (f_X11_read_30 x0 n) x0 (x2) ((1:Int32)) v7)))))))))))))) = some q := h
    refine lv_iload_n hx hb dX11_read_30 rfl (lv_at hl 2 rfl) ?_
    refine lv_iconst (v := (4:Int32)) hx hb dX11_read_31 (by decide) ?_
    refine lv_icmp_ge (tgt := 81) hx hb dX11_read_32 rfl (fun hc => ?_) (fun hc => ?_)
    · have h := ip hc h
      exact N_X11_read_81 X hP hS (lv_sub hl [] rfl) h
    · have h := ine hc h
      refine lv_iload_n hx hb dX11_read_35 rfl (lv_at hl 1 rfl) ?_
      refine lv_if_eq (tgt := 81) hx hb dX11_read_36 rfl (fun hc => ?_) (fun hc => ?_)
      · have h := ip hc h
        exact N_X11_read_81 X hP hS (lv_sub hl [] rfl) h
      · have h := ine hc h
        refine c_aload_n hx hb dX11_read_39 rfl (lv_at hl 0 rfl) ?_
        obtain ⟨v1, hv1, h⟩ := ob h
        refine c_gR X hP hv1 (Nat.le_of_ble_eq_true rfl) (Nat.le_of_ble_eq_true rfl) rfl w_573 dX11_read_40 ?_
        obtain ⟨v2, hv2, h⟩ := ob h
        obtain ⟨v3, hv3, h⟩ := ob h
        refine c_cw (c_runV X (K_X1_prepare l D Φ σ v2  hv3) hv2 ⟨Nat.le_of_ble_eq_true rfl, by decide⟩ ⟨w_909, ww_X1_prepare⟩ rfl hy_X1_prepare rfl ⟨(Nat.le_of_ble_eq_true rfl), (Nat.le_of_ble_eq_true rfl)⟩ hP hS hl.1 (Nat.le_of_ble_eq_true rfl) dX11_read_43 rfl ⟨(Nat.le_of_ble_eq_true rfl), (Nat.le_of_ble_eq_true rfl)⟩) hS (fun H locs hP hS => ?_)
        refine W.eq (g2 := F0 m 46 ls []) rfl ?_
        refine c_aload_n hx hb dX11_read_46 rfl (lv_at hl 0 rfl) ?_
        obtain ⟨v4, hv4, h⟩ := ob h
        obtain ⟨v5, hv5, h⟩ := ob h
        refine c_cw (c_runV X (K_X11_flush l D Φ v3 v4  hv5) hv4 ⟨Nat.le_of_ble_eq_true rfl, by decide⟩ ⟨w_962, ww_X11_flush⟩ rfl hy_X11_flush rfl ⟨(Nat.le_of_ble_eq_true rfl), (Nat.le_of_ble_eq_true rfl)⟩ hP hS hl.1 (Nat.le_of_ble_eq_true rfl) dX11_read_47 rfl ⟨(Nat.le_of_ble_eq_true rfl), (Nat.le_of_ble_eq_true rfl)⟩) hS (fun H locs hP hS => ?_)
        refine W.eq (g2 := F0 m 50 ls []) rfl ?_
        refine c_aload_n hx hb dX11_read_50 rfl (lv_at hl 0 rfl) ?_
        obtain ⟨v6, hv6, h⟩ := ob h
        obtain ⟨v7, hv7, h⟩ := ob h
        refine c_cw (c_runV X (K_X11_tellListeners l D Φ v5 v6  hv7) hv6 ⟨Nat.le_of_ble_eq_true rfl, by decide⟩ ⟨w_1089, ww_X11_tellListeners⟩ rfl hy_X11_tellListeners rfl ⟨(Nat.le_of_ble_eq_true rfl), (Nat.le_of_ble_eq_true rfl)⟩ hP hS hl.1 (Nat.le_of_ble_eq_true rfl) dX11_read_51 rfl ⟨(Nat.le_of_ble_eq_true rfl), (Nat.le_of_ble_eq_true rfl)⟩) hS (fun H locs hP hS => ?_)
        refine W.eq (g2 := F0 m 54 ls []) rfl ?_
        refine c_aload_n hx hb dX11_read_54 rfl (lv_at hl 0 rfl) ?_
        obtain ⟨v8, hv8, h⟩ := ob h
        refine c_gI X hP hv8 (Nat.le_of_ble_eq_true rfl) (Nat.le_of_ble_eq_true rfl) rfl w_581 dX11_read_55 ?_
        refine c_aload_n hx hb dX11_read_58 rfl (lv_at hl 0 rfl) ?_
        obtain ⟨v9, hv9, h⟩ := ob h
        refine c_gR X hP hv9 (Nat.le_of_ble_eq_true rfl) (Nat.le_of_ble_eq_true rfl) rfl w_571 dX11_read_59 ?_
        obtain ⟨v10, hv10, h⟩ := ob h
        refine c_gI X hP hv10 (Nat.le_of_ble_eq_true rfl) (Nat.le_of_ble_eq_true rfl) rfl w_332 dX11_read_62 ?_
        refine lv_iand hx hb dX11_read_65 ?_
        refine lv_if_eq (tgt := 73) hx hb dX11_read_66 rfl (fun hc => ?_) (fun hc => ?_)
        · have h := ip hc h
          refine lv_iconst (v := (0:Int32)) hx hb dX11_read_73 (by decide) ?_
          exact N_X11_read_74 X hP hS ih (lv_sub hl [0, 2] rfl) h
        · have h := ine hc h
          refine lv_iconst (v := (1:Int32)) hx hb dX11_read_69 (by decide) ?_
          refine lv_goto (tgt := 74) hx hb dX11_read_70 rfl ?_
          exact N_X11_read_74 X hP hS ih (lv_sub hl [0, 2] rfl) h
set_option maxRecDepth 20000 in
set_option maxHeartbeats 4000000 in
theorem N_X11_read_27 {p : Program} {l : Launch} {e : Env} {s : State} {m : MethodId} {args : Array Value} {below : List Frame} {meth : Method} {c : Code} {D : cD} {Φ : cG} {x0 : Nat}   {y0 : Int32} {σ : cS} {H : Heap} {locs : List Loc} {ls : Array Slot} {q : cS} (X : cX p s m args meth c cX11_read 3 none RX11 D Φ) (hP : cP D Φ σ H) (hS : va_S (cReg Φ) s.heap H locs)  (hl : lv_has ls 3 [(0, cv Φ (some x0))]) (h : f_X11_read_27  x0 y0 σ = some q) : cWw p l e 6 0 0 156 s m args below meth c D Φ q none H locs 0 0 (F0 m 27 ls [.int y0]) := by
  have hx := X.1
  have hb := X.2.1
  have hown := X.2.2.2.1
  have hts := X.2.2.2.2.1
  have h : (f_X11_read_30 x0 4000 (y0) ((0:Int32)) σ) = some q := h
  refine c_istore_n hx hb dX11_read_27 rfl hl (Nat.le_of_ble_eq_true rfl) (lvKr lvK0) rfl (fun ls (hl : lv_has ls 3 [(1, .int y0), (0, cv Φ (some x0))]) => ?_)
  refine lv_iconst (v := (0:Int32)) hx hb dX11_read_28 (by decide) ?_
  refine c_istore_n hx hb dX11_read_29 rfl hl (Nat.le_of_ble_eq_true rfl) (lvKi (lvKa rfl lvK0)) rfl (fun ls (hl : lv_has ls 3 [(2, .int (0:Int32)), (1, .int y0), (0, cv Φ (some x0))]) => ?_)
  exact N_X11_read_30 X hP hS (lv_sub hl [2, 1, 0] rfl) h
set_option maxRecDepth 20000 in
set_option maxHeartbeats 4000000 in
theorem N_X11_read_22 {p : Program} {l : Launch} {e : Env} {s : State} {m : MethodId} {args : Array Value} {below : List Frame} {meth : Method} {c : Code} {D : cD} {Φ : cG} {x0 : Nat}    {σ : cS} {H : Heap} {locs : List Loc} {ls : Array Slot} {q : cS} (X : cX p s m args meth c cX11_read 3 none RX11 D Φ) (hP : cP D Φ σ H) (hS : va_S (cReg Φ) s.heap H locs)  (hl : lv_has ls 3 [(0, cv Φ (some x0))]) (h : f_X11_read_22  x0  σ = some q) : cWw p l e 6 0 0 156 s m args below meth c D Φ q none H locs 0 0 (F0 m 22 ls []) := by
  have hx := X.1
  have hb := X.2.1
  have hown := X.2.2.2.1
  have hts := X.2.2.2.2.1
  have h : (f_X11_read_27 x0 ((1:Int32)) σ) = some q := h
  refine lv_iconst (v := (1:Int32)) hx hb dX11_read_22 (by decide) ?_
  refine lv_goto (tgt := 27) hx hb dX11_read_23 rfl ?_
  exact N_X11_read_27 X hP hS (lv_sub hl [0] rfl) h
set_option maxRecDepth 20000 in
set_option maxHeartbeats 4000000 in
theorem K_X11_read (l : Launch) (D : cD) (Φ : cG) (σ : cS) (x0 : Nat)  {q : cS} (h : f_X11_read x0  σ = some q) : Met l yX11_read (Cond.code yX11_read cX11_read 3 none :: BG) (rA 6 0 0 156) (cPc D Φ σ [cv Φ (some x0)]) (cQw D Φ q none) 0 0 (cReg Φ) := by
  refine Met.ofW (cc := cX11_read) (maxL := 3) (ret := none) (by decide) rfl ?_
  intro p e s m args below meth c s₁ B hml hv
  obtain ⟨rfl, hP, hK, hZ⟩ := hv
  have X : cX p s m [cv Φ (some x0)].toArray meth c cX11_read 3 none RX11 D Φ := cX_of B hml hK hZ
  have hx := X.1
  have hb := X.2.1
  have hown := X.2.2.2.1
  have hts := X.2.2.2.2.1
  have hl := lv_entry [cv Φ (some x0)] (n := 3) (by simp only [lgs_r, lgs_i, lgs_l, lgs_0, List.length]; exact Nat.le_of_ble_eq_true rfl)
  rw [lg_entry_eq]
  generalize (lg_sl [cv Φ (some x0)] ++ List.replicate (3 - (lg_sl [cv Φ (some x0)]).length) Slot.unset).toArray = ls at hl ⊢
  simp only [lv_args_r, lv_args_i, lv_args_l, lv_args_0] at hl
  have hl : lv_has ls 3 [(0, cv Φ (some x0))] := hl
  have hS : va_S (cReg Φ) s.heap s.heap [] := va_S.rf
  show cWw p l e 6 0 0 156 s m [cv Φ (some x0)].toArray below meth c D Φ q none s.heap [] 0 0 (F0 m 0 ls [])
  have h : ((gI σ (some x0) 11 10).bind (fun v1 => (gR σ (some x0) 11 0).bind (fun v2 => (gI σ v2 10 2).bind (fun v3 => if (v1 &&& v3) = (0:Int32) then ((rc σ (some x0) 11).bind (fun v4 => (f_X11_lacksValues v4  σ).bind (fun v5 => if v5 = (0:Int32) then (f_X11_read_27 x0 ((0:Int32)) σ) else (f_X11_read_22 x0 σ)))) else (f_X11_read_22 x0 σ))))) = some q := h
  refine c_aload_n hx hb dX11_read_0 rfl (lv_at hl 0 rfl) ?_
  obtain ⟨v1, hv1, h⟩ := ob h
  refine c_gI X hP hv1 (Nat.le_of_ble_eq_true rfl) (Nat.le_of_ble_eq_true rfl) rfl w_581 dX11_read_1 ?_
  refine c_aload_n hx hb dX11_read_4 rfl (lv_at hl 0 rfl) ?_
  obtain ⟨v2, hv2, h⟩ := ob h
  refine c_gR X hP hv2 (Nat.le_of_ble_eq_true rfl) (Nat.le_of_ble_eq_true rfl) rfl w_571 dX11_read_5 ?_
  obtain ⟨v3, hv3, h⟩ := ob h
  refine c_gI X hP hv3 (Nat.le_of_ble_eq_true rfl) (Nat.le_of_ble_eq_true rfl) rfl w_332 dX11_read_8 ?_
  refine lv_iand hx hb dX11_read_11 ?_
  refine lv_if_ne (tgt := 22) hx hb dX11_read_12 rfl (fun hc => ?_) (fun hc => ?_)
  · have h := ine hc h
    exact N_X11_read_22 X hP hS (lv_sub hl [0] rfl) h
  · have h := ip hc h
    refine c_aload_n hx hb dX11_read_15 rfl (lv_at hl 0 rfl) ?_
    obtain ⟨v4, hv4, h⟩ := ob h
    obtain ⟨v5, hv5, h⟩ := ob h
    refine c_cr (c_runV X (K_X11_lacksValues l D Φ σ v4  hv5) hv4 ⟨Nat.le_of_ble_eq_true rfl, by decide⟩ ⟨w_905, ww_X11_lacksValues⟩ rfl hy_X11_lacksValues rfl ⟨(Nat.le_of_ble_eq_true rfl), (Nat.le_of_ble_eq_true rfl)⟩ hP hS hl.1 (Nat.le_of_ble_eq_true rfl) dX11_read_16 rfl ⟨(Nat.le_of_ble_eq_true rfl), (Nat.le_of_ble_eq_true rfl)⟩) ?_
    refine lv_if_eq (tgt := 26) hx hb dX11_read_19 rfl (fun hc => ?_) (fun hc => ?_)
    · have h := ip hc h
      refine lv_iconst (v := (0:Int32)) hx hb dX11_read_26 (by decide) ?_
      exact N_X11_read_27 X hP hS (lv_sub hl [0] rfl) h
    · have h := ine hc h
      exact N_X11_read_22 X hP hS (lv_sub hl [0] rfl) h
theorem ww_X11_read : Cond.instanceMethod yX11_read ∈ BG ∧ Cond.selects (yX11_read).cls yX11_read yX11_read ∈ BG ∧ Cond.initialized (yX11_read).cls ∈ BG ∧ Cond.code yX11_read cX11_read 3 none ∈ BG := ⟨w_903, w_15, w_56, w_904⟩
theorem hy_X11_read : (yX11_read).cls ≠ "java/lang/invoke/MethodHandle" ∧ (yX11_read).cls ≠ "java/lang/invoke/VarHandle" ∧ (parseMethodDescriptor (yX11_read).desc).map (fun d => d.parameters.length) = some 0 := ⟨by decide, by decide, by decide +kernel⟩
def f_X11_findAnew_90 (k33 : Int32 → Option Nat → cS → Option (cS)) (x0 : Nat) (x2 : Int32) (x3 : Option Nat) (σ : cS) : Option (cS) := (gR σ x3 3 17).bind (fun v1 => k33 (x2) (v1) σ)
def f_X11_findAnew_87 (k33 : Int32 → Option Nat → cS → Option (cS)) (x0 : Nat) (x2 : Int32) (x3 : Option Nat) (y0 : Option Nat) (y1 : Int32) (σ : cS) : Option (cS) := (pI σ y0 9 2 y1).bind (fun v1 => f_X11_findAnew_90 k33 x0 (x2) (x3) v1)
def f_X11_findAnew_33  (x0 : Nat) : Nat → Int32 → Option Nat → cS → Option (cS)
  | 0, _, _, _ => none
  | n + 1, x2, x3, σ => if x3 = none then (some σ) else ((gI σ x3 3 0).bind (fun v1 => (f_X11_isMember (x2) (v1)).bind (fun v2 => if v2 = (0:Int32) then (f_X11_findAnew_90 (f_X11_findAnew_33 x0 n) x0 (x2) (x3) σ) else ((rc σ (some x0) 11).bind (fun v3 => (f_X11_styleOf v3 (x3) ((1:Int32)) σ).bind (fun v4 => (rc σ (some x0) 11).bind (fun v5 => (f_X11_findStyle v5 (v4) (x3) ((1:Int32)) σ).bind (fun v6 => (gR v6 v4 9 0).bind (fun v7 => (aI v6 v7 (6:Int32)).bind (fun v8 => if v8 ≤ (0:Int32) then (f_X11_findAnew_87 (f_X11_findAnew_33 x0 n) x0 (x2) (x3) (v4) ((0:Int32)) v6) else ((rc v6 (some x0) 11).bind (fun v9 => (f_X11_sizeFor v9 (x3) ((1:Int32)) v6).bind (fun v10 => f_X11_findAnew_87 (f_X11_findAnew_33 x0 n) x0 (x2) (x3) (v4) (v10.1) v10.2)))))))))))))
def f_X11_findAnew_4  (x0 : Nat) : Nat → Int32 → Option Nat → cS → Option (cS)
  | 0, _, _, _ => none
  | n + 1, x2, x3, σ => if x3 = none then ((gR σ (some x0) 11 0).bind (fun v1 => (gR σ v1 10 0).bind (fun v2 => f_X11_findAnew_33 x0 4000 (x2) (v2) σ))) else ((gI σ x3 3 0).bind (fun v3 => (gR σ x3 3 16).bind (fun v4 => f_X11_findAnew_4 x0 n ((x2 ||| ((1:Int32) <<< (v3 &&& 31)))) (v4) σ)))
def f_X11_findAnew (x0 : Nat) (x1 : Option Nat) (σ : cS) : Option (cS) := f_X11_findAnew_4 x0 4000 ((0:Int32)) (x1) σ
set_option maxRecDepth 20000 in
set_option maxHeartbeats 4000000 in
theorem N_X11_findAnew_90 {p : Program} {l : Launch} {e : Env} {s : State} {m : MethodId} {args : Array Value} {below : List Frame} {meth : Method} {c : Code} {D : cD} {Φ : cG} {x0 : Nat} {k33 : Int32 → Option Nat → cS → Option (cS)}  {x2 : Int32} {x3 : Option Nat} {σ : cS} {H : Heap} {locs : List Loc} {ls : Array Slot} {q : cS} (X : cX p s m args meth c cX11_findAnew 5 none RX11 D Φ) (hP : cP D Φ σ H) (hS : va_S (cReg Φ) s.heap H locs) (hk33 : ∀ {x2 : Int32} {x3 : Option Nat} {σ : cS} {H : Heap} {locs : List Loc} {ls : Array Slot}, cP D Φ σ H → va_S (cReg Φ) s.heap H locs → lv_has ls 5 [(0, cv Φ (some x0)), (2, .int x2), (3, cv Φ x3)] → k33 x2 x3 σ = some q → cWw p l e 4 0 0 112 s m args below meth c D Φ q none H locs 0 0 (F0 m 33 ls [])) (hl : lv_has ls 5 [(0, cv Φ (some x0)), (2, .int x2), (3, cv Φ x3)]) (h : f_X11_findAnew_90 k33 x0 x2 x3 σ = some q) : cWw p l e 4 0 0 112 s m args below meth c D Φ q none H locs 0 0 (F0 m 90 ls []) := by
  have hx := X.1
  have hb := X.2.1
  have hown := X.2.2.2.1
  have hts := X.2.2.2.2.1
  have h : ((gR σ x3 3 17).bind (fun v1 => k33 (x2) (v1) σ)) = some q := h
  refine c_aload_n hx hb dX11_findAnew_90 rfl (lv_at hl 2 rfl) ?_
  obtain ⟨v1, hv1, h⟩ := ob h
  refine c_gR X hP hv1 (Nat.le_of_ble_eq_true rfl) (Nat.le_of_ble_eq_true rfl) rfl w_276 dX11_findAnew_91 ?_
  refine c_astore_n hx hb dX11_findAnew_94 rfl hl (Nat.le_of_ble_eq_true rfl) (lvKa rfl (lvKi (lvKa rfl lvK0))) rfl (fun ls (hl : lv_has ls 5 [(3, cv Φ v1), (0, cv Φ (some x0)), (2, .int x2)]) => ?_)
  refine lv_goto (tgt := 33) hx hb dX11_findAnew_95 rfl ?_
  exact hk33 hP hS (lv_sub hl [1, 2, 0] rfl) h
set_option maxRecDepth 20000 in
set_option maxHeartbeats 4000000 in
theorem N_X11_findAnew_87 {p : Program} {l : Launch} {e : Env} {s : State} {m : MethodId} {args : Array Value} {below : List Frame} {meth : Method} {c : Code} {D : cD} {Φ : cG} {x0 : Nat} {k33 : Int32 → Option Nat → cS → Option (cS)}  {x2 : Int32} {x3 : Option Nat} {y0 : Option Nat} {y1 : Int32} {σ : cS} {H : Heap} {locs : List Loc} {ls : Array Slot} {q : cS} (X : cX p s m args meth c cX11_findAnew 5 none RX11 D Φ) (hP : cP D Φ σ H) (hS : va_S (cReg Φ) s.heap H locs) (hk33 : ∀ {x2 : Int32} {x3 : Option Nat} {σ : cS} {H : Heap} {locs : List Loc} {ls : Array Slot}, cP D Φ σ H → va_S (cReg Φ) s.heap H locs → lv_has ls 5 [(0, cv Φ (some x0)), (2, .int x2), (3, cv Φ x3)] → k33 x2 x3 σ = some q → cWw p l e 4 0 0 112 s m args below meth c D Φ q none H locs 0 0 (F0 m 33 ls [])) (hl : lv_has ls 5 [(0, cv Φ (some x0)), (2, .int x2), (3, cv Φ x3)]) (h : f_X11_findAnew_87 k33 x0 x2 x3 y0 y1 σ = some q) : cWw p l e 4 0 0 112 s m args below meth c D Φ q none H locs 0 0 (F0 m 87 ls [.int y1, cv Φ y0]) := by
  have hx := X.1
  have hb := X.2.1
  have hown := X.2.2.2.1
  have hts := X.2.2.2.2.1
  have h : ((pI σ y0 9 2 y1).bind (fun v1 => f_X11_findAnew_90 k33 x0 (x2) (x3) v1)) = some q := h
  obtain ⟨v1, hv1, h⟩ := ob h
  refine c_pI X hP hS hv1 (Nat.le_of_ble_eq_true rfl) (Nat.le_of_ble_eq_true rfl) rfl rfl (Or.inl rfl) w_99 dX11_findAnew_87 (fun H locs hP hS => ?_)
  exact N_X11_findAnew_90 X hP hS hk33 (lv_sub hl [0, 1, 2] rfl) h
set_option maxRecDepth 20000 in
set_option maxHeartbeats 4000000 in
theorem N_X11_findAnew_33 {p : Program} {l : Launch} {e : Env} {s : State} {m : MethodId} {args : Array Value} {below : List Frame} {meth : Method} {c : Code} {D : cD} {Φ : cG} {x0 : Nat}  {n : Nat} {x2 : Int32} {x3 : Option Nat} {σ : cS} {H : Heap} {locs : List Loc} {ls : Array Slot} {q : cS} (X : cX p s m args meth c cX11_findAnew 5 none RX11 D Φ) (hP : cP D Φ σ H) (hS : va_S (cReg Φ) s.heap H locs)  (hl : lv_has ls 5 [(0, cv Φ (some x0)), (2, .int x2), (3, cv Φ x3)]) (h : f_X11_findAnew_33  x0 n x2 x3 σ = some q) : cWw p l e 4 0 0 112 s m args below meth c D Φ q none H locs 0 0 (F0 m 33 ls []) := by
  have hx := X.1
  have hb := X.2.1
  have hown := X.2.2.2.1
  have hts := X.2.2.2.2.1
  induction n generalizing x2 x3 σ H locs ls with
  | zero => exact absurd (show none = some q from h) (by simp)
  | succ n ih =>
    have h : (if x3 = none then (some σ) else ((gI σ x3 3 0).bind (fun v1 => (f_X11_isMember (x2) (v1)).bind (fun v2 => if v2 = (0:Int32) then (f_X11_findAnew_90 (f_X11_findAnew_33 x0 n) x0 (x2) (x3) σ) else ((rc σ (some x0) 11).bind (fun v3 => (f_X11_styleOf v3 (x3) ((1:Int32)) σ).bind (fun v4 => (rc σ (some x0) 11).bind (fun v5 => (f_X11_findStyle v5 (v4) (x3) ((1:Int32)) σ).bind (fun v6 => (gR v6 v4 9 0).bind (fun v7 => (aI v6 v7 (6:Int32)).bind (fun v8 => if v8 ≤ (0:Int32) then (f_X11_findAnew_87 (f_X11_findAnew_33 x0 n) x0 (x2) (x3) (v4) ((0:Int32)) v6) else ((rc v6 (some x0) 11).bind (fun v9 => (f_X11_sizeFor v9 (x3) ((1:Int32)) v6).bind (fun v10 => f_X11_findAnew_87 (f_X11_findAnew_33 x0 n) x0 (x2) (x3) (v4) (v10.1) v10.2)))))))))))))) = some q := h
    refine c_aload_n hx hb dX11_findAnew_33 rfl (lv_at hl 2 rfl) ?_
    refine c_ifnull (Φ := Φ) (tgt := 98) hx hb dX11_findAnew_34 rfl (fun hc => ?_) (fun hc => ?_)
    · have h := ip hc h
      obtain rfl := sj h
      exact c_wv X hP hS (Nat.le_of_ble_eq_true rfl) (Nat.le_of_ble_eq_true rfl) dX11_findAnew_98
    · have h := ine hc h
      refine lv_iload_n hx hb dX11_findAnew_37 rfl (lv_at hl 1 rfl) ?_
      refine c_aload_n hx hb dX11_findAnew_38 rfl (lv_at hl 2 rfl) ?_
      obtain ⟨v1, hv1, h⟩ := ob h
      refine c_gI X hP hv1 (Nat.le_of_ble_eq_true rfl) (Nat.le_of_ble_eq_true rfl) rfl w_227 dX11_findAnew_39 ?_
      obtain ⟨v2, hv2, h⟩ := ob h
      refine c_cr (c_runS X (K_X11_isMember l D Φ σ (x2) (v1) hv2) ⟨w_966, ww_X11_isMember⟩ hy_X11_isMember rfl ⟨(Nat.le_of_ble_eq_true rfl), (Nat.le_of_ble_eq_true rfl)⟩ hP hS hl.1 (Nat.le_of_ble_eq_true rfl) dX11_findAnew_42 rfl ⟨(Nat.le_of_ble_eq_true rfl), (Nat.le_of_ble_eq_true rfl)⟩) ?_
      refine lv_if_eq (tgt := 90) hx hb dX11_findAnew_45 rfl (fun hc => ?_) (fun hc => ?_)
      · have h := ip hc h
        exact N_X11_findAnew_90 X hP hS ih (lv_sub hl [0, 1, 2] rfl) h
      · have h := ine hc h
        refine c_aload_n hx hb dX11_findAnew_48 rfl (lv_at hl 0 rfl) ?_
        refine c_aload_n hx hb dX11_findAnew_49 rfl (lv_at hl 2 rfl) ?_
        refine lv_iconst (v := (1:Int32)) hx hb dX11_findAnew_50 (by decide) ?_
        obtain ⟨v3, hv3, h⟩ := ob h
        obtain ⟨v4, hv4, h⟩ := ob h
        refine c_cr (c_runV X (K_X11_styleOf l D Φ σ v3 (x3) ((1:Int32)) hv4) hv3 ⟨Nat.le_of_ble_eq_true rfl, by decide⟩ ⟨w_981, ww_X11_styleOf⟩ rfl hy_X11_styleOf rfl ⟨(Nat.le_of_ble_eq_true rfl), (Nat.le_of_ble_eq_true rfl)⟩ hP hS hl.1 (Nat.le_of_ble_eq_true rfl) dX11_findAnew_51 rfl ⟨(Nat.le_of_ble_eq_true rfl), (Nat.le_of_ble_eq_true rfl)⟩) ?_
        refine c_astore hx hb dX11_findAnew_54 hl (Nat.le_of_ble_eq_true rfl) (lvKa rfl (lvKa rfl (lvKr lvK0))) rfl (fun ls (hl : lv_has ls 5 [(4, cv Φ v4), (0, cv Φ (some x0)), (2, .int x2), (3, cv Φ x3)]) => ?_)
        refine c_aload_n hx hb dX11_findAnew_56 rfl (lv_at hl 1 rfl) ?_
        refine c_aload hx hb dX11_findAnew_57 (lv_at hl 0 rfl) ?_
        refine c_aload_n hx hb dX11_findAnew_59 rfl (lv_at hl 3 rfl) ?_
        refine lv_iconst (v := (1:Int32)) hx hb dX11_findAnew_60 (by decide) ?_
        obtain ⟨v5, hv5, h⟩ := ob h
        obtain ⟨v6, hv6, h⟩ := ob h
        refine c_cw (c_runV X (K_X11_findStyle l D Φ σ v5 (v4) (x3) ((1:Int32)) hv6) hv5 ⟨Nat.le_of_ble_eq_true rfl, by decide⟩ ⟨w_973, ww_X11_findStyle⟩ rfl hy_X11_findStyle rfl ⟨(Nat.le_of_ble_eq_true rfl), (Nat.le_of_ble_eq_true rfl)⟩ hP hS hl.1 (Nat.le_of_ble_eq_true rfl) dX11_findAnew_61 rfl ⟨(Nat.le_of_ble_eq_true rfl), (Nat.le_of_ble_eq_true rfl)⟩) hS (fun H locs hP hS => ?_)
        refine W.eq (g2 := F0 m 64 ls []) rfl ?_
        refine c_aload hx hb dX11_findAnew_64 (lv_at hl 0 rfl) ?_
        refine c_aload hx hb dX11_findAnew_66 (lv_at hl 0 rfl) ?_
        obtain ⟨v7, hv7, h⟩ := ob h
        refine c_gR X hP hv7 (Nat.le_of_ble_eq_true rfl) (Nat.le_of_ble_eq_true rfl) rfl w_94 dX11_findAnew_68 ?_
        refine lv_bipush (v := (6:Int32)) hx hb dX11_findAnew_71 (by decide) ?_
        obtain ⟨v8, hv8, h⟩ := ob h
        refine c_ald X hP hv8 dX11_findAnew_73 ?_
        refine lv_if_le (tgt := 86) hx hb dX11_findAnew_74 rfl (fun hc => ?_) (fun hc => ?_)
        · have h := ip hc h
          refine lv_iconst (v := (0:Int32)) hx hb dX11_findAnew_86 (by decide) ?_
          exact N_X11_findAnew_87 X hP hS ih (lv_sub hl [1, 2, 3] rfl) h
        · have h := ine hc h
          refine c_aload_n hx hb dX11_findAnew_77 rfl (lv_at hl 1 rfl) ?_
          refine c_aload_n hx hb dX11_findAnew_78 rfl (lv_at hl 3 rfl) ?_
          refine lv_iconst (v := (1:Int32)) hx hb dX11_findAnew_79 (by decide) ?_
          obtain ⟨v9, hv9, h⟩ := ob h
          obtain ⟨v10, hv10, h⟩ := ob h
          refine c_cw (c_runV X (K_X11_sizeFor l D Φ v6 v9 (x3) ((1:Int32)) hv10) hv9 ⟨Nat.le_of_ble_eq_true rfl, by decide⟩ ⟨w_1084, ww_X11_sizeFor⟩ rfl hy_X11_sizeFor rfl ⟨(Nat.le_of_ble_eq_true rfl), (Nat.le_of_ble_eq_true rfl)⟩ hP hS hl.1 (Nat.le_of_ble_eq_true rfl) dX11_findAnew_80 rfl ⟨(Nat.le_of_ble_eq_true rfl), (Nat.le_of_ble_eq_true rfl)⟩) hS (fun H locs hP hS => ?_)
          refine W.eq (g2 := F0 m 83 ls [.int v10.1, cv Φ v4]) rfl ?_
          refine lv_goto (tgt := 87) hx hb dX11_findAnew_83 rfl ?_
          exact N_X11_findAnew_87 X hP hS ih (lv_sub hl [1, 2, 3] rfl) h
set_option maxRecDepth 20000 in
set_option maxHeartbeats 4000000 in
theorem N_X11_findAnew_4 {p : Program} {l : Launch} {e : Env} {s : State} {m : MethodId} {args : Array Value} {below : List Frame} {meth : Method} {c : Code} {D : cD} {Φ : cG} {x0 : Nat}  {n : Nat} {x2 : Int32} {x3 : Option Nat} {σ : cS} {H : Heap} {locs : List Loc} {ls : Array Slot} {q : cS} (X : cX p s m args meth c cX11_findAnew 5 none RX11 D Φ) (hP : cP D Φ σ H) (hS : va_S (cReg Φ) s.heap H locs)  (hl : lv_has ls 5 [(0, cv Φ (some x0)), (2, .int x2), (3, cv Φ x3)]) (h : f_X11_findAnew_4  x0 n x2 x3 σ = some q) : cWw p l e 4 0 0 112 s m args below meth c D Φ q none H locs 0 0 (F0 m 4 ls []) := by
  have hx := X.1
  have hb := X.2.1
  have hown := X.2.2.2.1
  have hts := X.2.2.2.2.1
  induction n generalizing x2 x3 σ H locs ls with
  | zero => exact absurd (show none = some q from h) (by simp)
  | succ n ih =>
    have h : (if x3 = none then ((gR σ (some x0) 11 0).bind (fun v1 => (gR σ v1 10 0).bind (fun v2 => f_X11_findAnew_33 x0 4000 (x2) (v2) σ))) else ((gI σ x3 3 0).bind (fun v3 => (gR σ x3 3 16).bind (fun v4 => f_X11_findAnew_4 x0 n ((x2 ||| ((1:Int32) <<< (v3 &&& 31)))) (v4) σ)))) = some q := h
    refine c_aload_n hx hb dX11_findAnew_4 rfl (lv_at hl 2 rfl) ?_
    refine c_ifnull (Φ := Φ) (tgt := 25) hx hb dX11_findAnew_5 rfl (fun hc => ?_) (fun hc => ?_)
    · have h := ip hc h
      refine c_aload_n hx hb dX11_findAnew_25 rfl (lv_at hl 0 rfl) ?_
      obtain ⟨v1, hv1, h⟩ := ob h
      refine c_gR X hP hv1 (Nat.le_of_ble_eq_true rfl) (Nat.le_of_ble_eq_true rfl) rfl w_571 dX11_findAnew_26 ?_
      obtain ⟨v2, hv2, h⟩ := ob h
      refine c_gR X hP hv2 (Nat.le_of_ble_eq_true rfl) (Nat.le_of_ble_eq_true rfl) rfl w_327 dX11_findAnew_29 ?_
      refine c_astore_n hx hb dX11_findAnew_32 rfl hl (Nat.le_of_ble_eq_true rfl) (lvKa rfl (lvKi (lvKa rfl lvK0))) rfl (fun ls (hl : lv_has ls 5 [(3, cv Φ v2), (0, cv Φ (some x0)), (2, .int x2)]) => ?_)
      exact N_X11_findAnew_33 X hP hS (lv_sub hl [1, 2, 0] rfl) h
    · have h := ine hc h
      refine lv_iload_n hx hb dX11_findAnew_8 rfl (lv_at hl 1 rfl) ?_
      refine lv_iconst (v := (1:Int32)) hx hb dX11_findAnew_9 (by decide) ?_
      refine c_aload_n hx hb dX11_findAnew_10 rfl (lv_at hl 2 rfl) ?_
      obtain ⟨v3, hv3, h⟩ := ob h
      refine c_gI X hP hv3 (Nat.le_of_ble_eq_true rfl) (Nat.le_of_ble_eq_true rfl) rfl w_227 dX11_findAnew_11 ?_
      refine lv_ishl hx hb dX11_findAnew_14 ?_
      refine lv_ior hx hb dX11_findAnew_15 ?_
      refine c_istore_n hx hb dX11_findAnew_16 rfl hl (Nat.le_of_ble_eq_true rfl) (lvKa rfl (lvKa rfl (lvKa rfl lvK0))) rfl (fun ls (hl : lv_has ls 5 [(2, .int (x2 ||| ((1:Int32) <<< (v3 &&& 31)))), (0, cv Φ (some x0)), (3, cv Φ x3)]) => ?_)
      refine c_aload_n hx hb dX11_findAnew_17 rfl (lv_at hl 2 rfl) ?_
      obtain ⟨v4, hv4, h⟩ := ob h
      refine c_gR X hP hv4 (Nat.le_of_ble_eq_true rfl) (Nat.le_of_ble_eq_true rfl) rfl w_273 dX11_findAnew_18 ?_
      refine c_astore_n hx hb dX11_findAnew_21 rfl hl (Nat.le_of_ble_eq_true rfl) (lvKi (lvKa rfl (lvKa rfl lvK0))) rfl (fun ls (hl : lv_has ls 5 [(3, cv Φ v4), (2, .int (x2 ||| ((1:Int32) <<< (v3 &&& 31)))), (0, cv Φ (some x0))]) => ?_)
      refine lv_goto (tgt := 4) hx hb dX11_findAnew_22 rfl ?_
      exact ih hP hS (lv_sub hl [2, 1, 0] rfl) h
set_option maxRecDepth 20000 in
set_option maxHeartbeats 4000000 in
theorem K_X11_findAnew (l : Launch) (D : cD) (Φ : cG) (σ : cS) (x0 : Nat) (x1 : Option Nat) {q : cS} (h : f_X11_findAnew x0 x1 σ = some q) : Met l yX11_findAnew (Cond.code yX11_findAnew cX11_findAnew 5 none :: BG) (rA 4 0 0 112) (cPc D Φ σ [cv Φ (some x0), cv Φ x1]) (cQw D Φ q none) 0 0 (cReg Φ) := by
  refine Met.ofW (cc := cX11_findAnew) (maxL := 5) (ret := none) (by decide) rfl ?_
  intro p e s m args below meth c s₁ B hml hv
  obtain ⟨rfl, hP, hK, hZ⟩ := hv
  have X : cX p s m [cv Φ (some x0), cv Φ x1].toArray meth c cX11_findAnew 5 none RX11 D Φ := cX_of B hml hK hZ
  have hx := X.1
  have hb := X.2.1
  have hown := X.2.2.2.1
  have hts := X.2.2.2.2.1
  have hl := lv_entry [cv Φ (some x0), cv Φ x1] (n := 5) (by simp only [lgs_r, lgs_i, lgs_l, lgs_0, List.length]; exact Nat.le_of_ble_eq_true rfl)
  rw [lg_entry_eq]
  generalize (lg_sl [cv Φ (some x0), cv Φ x1] ++ List.replicate (5 - (lg_sl [cv Φ (some x0), cv Φ x1]).length) Slot.unset).toArray = ls at hl ⊢
  simp only [lv_args_r, lv_args_i, lv_args_l, lv_args_0] at hl
  have hl : lv_has ls 5 [(0, cv Φ (some x0)), (1, cv Φ x1)] := hl
  have hS : va_S (cReg Φ) s.heap s.heap [] := va_S.rf
  show cWw p l e 4 0 0 112 s m [cv Φ (some x0), cv Φ x1].toArray below meth c D Φ q none s.heap [] 0 0 (F0 m 0 ls [])
  have h : (f_X11_findAnew_4 x0 4000 ((0:Int32)) (x1) σ) = some q := h
  refine lv_iconst (v := (0:Int32)) hx hb dX11_findAnew_0 (by decide) ?_
  refine c_istore_n hx hb dX11_findAnew_1 rfl hl (Nat.le_of_ble_eq_true rfl) (lvKa rfl (lvKr lvK0)) rfl (fun ls (hl : lv_has ls 5 [(2, .int (0:Int32)), (0, cv Φ (some x0)), (1, cv Φ x1)]) => ?_)
  refine c_aload_n hx hb dX11_findAnew_2 rfl (lv_at hl 2 rfl) ?_
  refine c_astore_n hx hb dX11_findAnew_3 rfl hl (Nat.le_of_ble_eq_true rfl) (lvKi (lvKa rfl (lvKa rfl lvK0))) rfl (fun ls (hl : lv_has ls 5 [(3, cv Φ x1), (2, .int (0:Int32)), (0, cv Φ (some x0)), (1, cv Φ x1)]) => ?_)
  exact N_X11_findAnew_4 X hP hS (lv_sub hl [2, 1, 0] rfl) h
theorem ww_X11_findAnew : Cond.instanceMethod yX11_findAnew ∈ BG ∧ Cond.selects (yX11_findAnew).cls yX11_findAnew yX11_findAnew ∈ BG ∧ Cond.initialized (yX11_findAnew).cls ∈ BG ∧ Cond.code yX11_findAnew cX11_findAnew 5 none ∈ BG := ⟨w_1126, w_48, w_56, w_1127⟩
theorem hy_X11_findAnew : (yX11_findAnew).cls ≠ "java/lang/invoke/MethodHandle" ∧ (yX11_findAnew).cls ≠ "java/lang/invoke/VarHandle" ∧ (parseMethodDescriptor (yX11_findAnew).desc).map (fun d => d.parameters.length) = some 1 := ⟨by decide, by decide, by decide +kernel⟩
def f_X11_marked (x0 : Nat)  (σ : cS) : Option (Int32) := (gI σ (some x0) 11 10).bind (fun v1 => (gR σ (some x0) 11 0).bind (fun v2 => (gI σ v2 10 2).bind (fun v3 => some (v1 &&& v3))))
set_option maxRecDepth 20000 in
set_option maxHeartbeats 4000000 in
theorem K_X11_marked (l : Launch) (D : cD) (Φ : cG) (σ : cS) (x0 : Nat)  {r : Int32} (h : f_X11_marked x0  σ = some r) : Met l yX11_marked (Cond.code yX11_marked cX11_marked 1 (some .int) :: BG) (rA 0 0 0 0) (cPc D Φ σ [cv Φ (some x0)]) (cQr (some (.int r))) 0 0 (fun _ => False) := by
  refine Met.ofW (cc := cX11_marked) (maxL := 1) (ret := (some .int)) (by decide) rfl ?_
  intro p e s m args below meth c s₁ B hml hv
  obtain ⟨rfl, hP, hK, hZ⟩ := hv
  have X : cX p s m [cv Φ (some x0)].toArray meth c cX11_marked 1 (some .int) RX11 D Φ := cX_of B hml hK hZ
  have hx := X.1
  have hb := X.2.1
  have hown := X.2.2.2.1
  have hts := X.2.2.2.2.1
  have hl := lv_entry [cv Φ (some x0)] (n := 1) (by simp only [lgs_r, lgs_i, lgs_l, lgs_0, List.length]; exact Nat.le_of_ble_eq_true rfl)
  rw [lg_entry_eq]
  generalize (lg_sl [cv Φ (some x0)] ++ List.replicate (1 - (lg_sl [cv Φ (some x0)]).length) Slot.unset).toArray = ls at hl ⊢
  simp only [lv_args_r, lv_args_i, lv_args_l, lv_args_0] at hl
  have hl : lv_has ls 1 [(0, cv Φ (some x0))] := hl
  have hS : va_S (cReg Φ) s.heap s.heap [] := va_S.rf
  show cWr p l e 0 0 s m [cv Φ (some x0)].toArray below meth c (some (.int r)) (F0 m 0 ls [])
  have h : ((gI σ (some x0) 11 10).bind (fun v1 => (gR σ (some x0) 11 0).bind (fun v2 => (gI σ v2 10 2).bind (fun v3 => some (v1 &&& v3))))) = some r := h
  refine c_aload_n hx hb dX11_marked_0 rfl (lv_at hl 0 rfl) ?_
  obtain ⟨v1, hv1, h⟩ := ob h
  refine c_gI X hP hv1 (Nat.le_of_ble_eq_true rfl) (Nat.le_of_ble_eq_true rfl) rfl w_581 dX11_marked_1 ?_
  refine c_aload_n hx hb dX11_marked_4 rfl (lv_at hl 0 rfl) ?_
  obtain ⟨v2, hv2, h⟩ := ob h
  refine c_gR X hP hv2 (Nat.le_of_ble_eq_true rfl) (Nat.le_of_ble_eq_true rfl) rfl w_571 dX11_marked_5 ?_
  obtain ⟨v3, hv3, h⟩ := ob h
  refine c_gI X hP hv3 (Nat.le_of_ble_eq_true rfl) (Nat.le_of_ble_eq_true rfl) rfl w_332 dX11_marked_8 ?_
  refine lv_iand hx hb dX11_marked_11 ?_
  obtain rfl := sj h
  exact c_ri X dX11_marked_12
theorem ww_X11_marked : Cond.instanceMethod yX11_marked ∈ BG ∧ Cond.selects (yX11_marked).cls yX11_marked yX11_marked ∈ BG ∧ Cond.initialized (yX11_marked).cls ∈ BG ∧ Cond.code yX11_marked cX11_marked 1 (some .int) ∈ BG := ⟨w_1146, w_1147, w_56, w_1148⟩
theorem hy_X11_marked : (yX11_marked).cls ≠ "java/lang/invoke/MethodHandle" ∧ (yX11_marked).cls ≠ "java/lang/invoke/VarHandle" ∧ (parseMethodDescriptor (yX11_marked).desc).map (fun d => d.parameters.length) = some 0 := ⟨by decide, by decide, by decide +kernel⟩
def f_X11_flushes (x0 : Nat)  (σ : cS) : Option (Int32) := (gI σ (some x0) 11 11).bind (fun v1 => some v1)
set_option maxRecDepth 20000 in
set_option maxHeartbeats 4000000 in
theorem K_X11_flushes (l : Launch) (D : cD) (Φ : cG) (σ : cS) (x0 : Nat)  {r : Int32} (h : f_X11_flushes x0  σ = some r) : Met l yX11_flushes (Cond.code yX11_flushes cX11_flushes 1 (some .int) :: BG) (rA 0 0 0 0) (cPc D Φ σ [cv Φ (some x0)]) (cQr (some (.int r))) 0 0 (fun _ => False) := by
  refine Met.ofW (cc := cX11_flushes) (maxL := 1) (ret := (some .int)) (by decide) rfl ?_
  intro p e s m args below meth c s₁ B hml hv
  obtain ⟨rfl, hP, hK, hZ⟩ := hv
  have X : cX p s m [cv Φ (some x0)].toArray meth c cX11_flushes 1 (some .int) RX11 D Φ := cX_of B hml hK hZ
  have hx := X.1
  have hb := X.2.1
  have hown := X.2.2.2.1
  have hts := X.2.2.2.2.1
  have hl := lv_entry [cv Φ (some x0)] (n := 1) (by simp only [lgs_r, lgs_i, lgs_l, lgs_0, List.length]; exact Nat.le_of_ble_eq_true rfl)
  rw [lg_entry_eq]
  generalize (lg_sl [cv Φ (some x0)] ++ List.replicate (1 - (lg_sl [cv Φ (some x0)]).length) Slot.unset).toArray = ls at hl ⊢
  simp only [lv_args_r, lv_args_i, lv_args_l, lv_args_0] at hl
  have hl : lv_has ls 1 [(0, cv Φ (some x0))] := hl
  have hS : va_S (cReg Φ) s.heap s.heap [] := va_S.rf
  show cWr p l e 0 0 s m [cv Φ (some x0)].toArray below meth c (some (.int r)) (F0 m 0 ls [])
  have h : ((gI σ (some x0) 11 11).bind (fun v1 => some v1)) = some r := h
  refine c_aload_n hx hb dX11_flushes_0 rfl (lv_at hl 0 rfl) ?_
  obtain ⟨v1, hv1, h⟩ := ob h
  refine c_gI X hP hv1 (Nat.le_of_ble_eq_true rfl) (Nat.le_of_ble_eq_true rfl) rfl w_582 dX11_flushes_1 ?_
  obtain rfl := sj h
  exact c_ri X dX11_flushes_4
theorem ww_X11_flushes : Cond.instanceMethod yX11_flushes ∈ BG ∧ Cond.selects (yX11_flushes).cls yX11_flushes yX11_flushes ∈ BG ∧ Cond.initialized (yX11_flushes).cls ∈ BG ∧ Cond.code yX11_flushes cX11_flushes 1 (some .int) ∈ BG := ⟨w_1150, w_1151, w_56, w_1152⟩
theorem hy_X11_flushes : (yX11_flushes).cls ≠ "java/lang/invoke/MethodHandle" ∧ (yX11_flushes).cls ≠ "java/lang/invoke/VarHandle" ∧ (parseMethodDescriptor (yX11_flushes).desc).map (fun d => d.parameters.length) = some 0 := ⟨by decide, by decide, by decide +kernel⟩
def f_X11_restyled (x0 : Nat)  (σ : cS) : Option (Int32) := (gI σ (some x0) 11 12).bind (fun v1 => some v1)
set_option maxRecDepth 20000 in
set_option maxHeartbeats 4000000 in
theorem K_X11_restyled (l : Launch) (D : cD) (Φ : cG) (σ : cS) (x0 : Nat)  {r : Int32} (h : f_X11_restyled x0  σ = some r) : Met l yX11_restyled (Cond.code yX11_restyled cX11_restyled 1 (some .int) :: BG) (rA 0 0 0 0) (cPc D Φ σ [cv Φ (some x0)]) (cQr (some (.int r))) 0 0 (fun _ => False) := by
  refine Met.ofW (cc := cX11_restyled) (maxL := 1) (ret := (some .int)) (by decide) rfl ?_
  intro p e s m args below meth c s₁ B hml hv
  obtain ⟨rfl, hP, hK, hZ⟩ := hv
  have X : cX p s m [cv Φ (some x0)].toArray meth c cX11_restyled 1 (some .int) RX11 D Φ := cX_of B hml hK hZ
  have hx := X.1
  have hb := X.2.1
  have hown := X.2.2.2.1
  have hts := X.2.2.2.2.1
  have hl := lv_entry [cv Φ (some x0)] (n := 1) (by simp only [lgs_r, lgs_i, lgs_l, lgs_0, List.length]; exact Nat.le_of_ble_eq_true rfl)
  rw [lg_entry_eq]
  generalize (lg_sl [cv Φ (some x0)] ++ List.replicate (1 - (lg_sl [cv Φ (some x0)]).length) Slot.unset).toArray = ls at hl ⊢
  simp only [lv_args_r, lv_args_i, lv_args_l, lv_args_0] at hl
  have hl : lv_has ls 1 [(0, cv Φ (some x0))] := hl
  have hS : va_S (cReg Φ) s.heap s.heap [] := va_S.rf
  show cWr p l e 0 0 s m [cv Φ (some x0)].toArray below meth c (some (.int r)) (F0 m 0 ls [])
  have h : ((gI σ (some x0) 11 12).bind (fun v1 => some v1)) = some r := h
  refine c_aload_n hx hb dX11_restyled_0 rfl (lv_at hl 0 rfl) ?_
  obtain ⟨v1, hv1, h⟩ := ob h
  refine c_gI X hP hv1 (Nat.le_of_ble_eq_true rfl) (Nat.le_of_ble_eq_true rfl) rfl w_583 dX11_restyled_1 ?_
  obtain rfl := sj h
  exact c_ri X dX11_restyled_4
theorem ww_X11_restyled : Cond.instanceMethod yX11_restyled ∈ BG ∧ Cond.selects (yX11_restyled).cls yX11_restyled yX11_restyled ∈ BG ∧ Cond.initialized (yX11_restyled).cls ∈ BG ∧ Cond.code yX11_restyled cX11_restyled 1 (some .int) ∈ BG := ⟨w_1154, w_1155, w_56, w_1156⟩
theorem hy_X11_restyled : (yX11_restyled).cls ≠ "java/lang/invoke/MethodHandle" ∧ (yX11_restyled).cls ≠ "java/lang/invoke/VarHandle" ∧ (parseMethodDescriptor (yX11_restyled).desc).map (fun d => d.parameters.length) = some 0 := ⟨by decide, by decide, by decide +kernel⟩
def f_X11_shared (x0 : Nat)  (σ : cS) : Option (Int32) := (gI σ (some x0) 11 13).bind (fun v1 => some v1)
set_option maxRecDepth 20000 in
set_option maxHeartbeats 4000000 in
theorem K_X11_shared (l : Launch) (D : cD) (Φ : cG) (σ : cS) (x0 : Nat)  {r : Int32} (h : f_X11_shared x0  σ = some r) : Met l yX11_shared (Cond.code yX11_shared cX11_shared 1 (some .int) :: BG) (rA 0 0 0 0) (cPc D Φ σ [cv Φ (some x0)]) (cQr (some (.int r))) 0 0 (fun _ => False) := by
  refine Met.ofW (cc := cX11_shared) (maxL := 1) (ret := (some .int)) (by decide) rfl ?_
  intro p e s m args below meth c s₁ B hml hv
  obtain ⟨rfl, hP, hK, hZ⟩ := hv
  have X : cX p s m [cv Φ (some x0)].toArray meth c cX11_shared 1 (some .int) RX11 D Φ := cX_of B hml hK hZ
  have hx := X.1
  have hb := X.2.1
  have hown := X.2.2.2.1
  have hts := X.2.2.2.2.1
  have hl := lv_entry [cv Φ (some x0)] (n := 1) (by simp only [lgs_r, lgs_i, lgs_l, lgs_0, List.length]; exact Nat.le_of_ble_eq_true rfl)
  rw [lg_entry_eq]
  generalize (lg_sl [cv Φ (some x0)] ++ List.replicate (1 - (lg_sl [cv Φ (some x0)]).length) Slot.unset).toArray = ls at hl ⊢
  simp only [lv_args_r, lv_args_i, lv_args_l, lv_args_0] at hl
  have hl : lv_has ls 1 [(0, cv Φ (some x0))] := hl
  have hS : va_S (cReg Φ) s.heap s.heap [] := va_S.rf
  show cWr p l e 0 0 s m [cv Φ (some x0)].toArray below meth c (some (.int r)) (F0 m 0 ls [])
  have h : ((gI σ (some x0) 11 13).bind (fun v1 => some v1)) = some r := h
  refine c_aload_n hx hb dX11_shared_0 rfl (lv_at hl 0 rfl) ?_
  obtain ⟨v1, hv1, h⟩ := ob h
  refine c_gI X hP hv1 (Nat.le_of_ble_eq_true rfl) (Nat.le_of_ble_eq_true rfl) rfl w_584 dX11_shared_1 ?_
  obtain rfl := sj h
  exact c_ri X dX11_shared_4
theorem ww_X11_shared : Cond.instanceMethod yX11_shared ∈ BG ∧ Cond.selects (yX11_shared).cls yX11_shared yX11_shared ∈ BG ∧ Cond.initialized (yX11_shared).cls ∈ BG ∧ Cond.code yX11_shared cX11_shared 1 (some .int) ∈ BG := ⟨w_1158, w_1159, w_56, w_1160⟩
theorem hy_X11_shared : (yX11_shared).cls ≠ "java/lang/invoke/MethodHandle" ∧ (yX11_shared).cls ≠ "java/lang/invoke/VarHandle" ∧ (parseMethodDescriptor (yX11_shared).desc).map (fun d => d.parameters.length) = some 0 := ⟨by decide, by decide, by decide +kernel⟩
