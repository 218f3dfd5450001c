set_option maxRecDepth 100000 in
theorem w_731 : Cond.methodLink "CascaderyLaw" 138 yL_make ∈ BG := bg_in 731 (by decide +kernel) (by decide +kernel)
set_option maxRecDepth 100000 in
theorem w_1842 : Cond.methodLink "CascaderyLaw" 143 yX12_make ∈ BG := bg_in 1842 (by decide +kernel) (by decide +kernel)
set_option maxRecDepth 100000 in
theorem w_1838 : Cond.methodLink "CascaderyLaw" 144 yX12_thrown ∈ BG := bg_in 1838 (by decide +kernel) (by decide +kernel)
set_option maxRecDepth 100000 in
theorem w_831 : Cond.methodLink "CascaderyLaw" 147 yL_shadow ∈ BG := bg_in 831 (by decide +kernel) (by decide +kernel)
set_option maxRecDepth 100000 in
theorem w_1854 : Cond.methodLink "CascaderyLaw" 150 yX12_shadow ∈ BG := bg_in 1854 (by decide +kernel) (by decide +kernel)
set_option maxRecDepth 100000 in
theorem w_911 : Cond.methodLink "CascaderyLaw" 151 yL_put ∈ BG := bg_in 911 (by decide +kernel) (by decide +kernel)
set_option maxRecDepth 100000 in
theorem w_1882 : Cond.methodLink "CascaderyLaw" 154 yX12_put ∈ BG := bg_in 1882 (by decide +kernel) (by decide +kernel)
set_option maxRecDepth 100000 in
theorem w_950 : Cond.methodLink "CascaderyLaw" 155 yL_putTop ∈ BG := bg_in 950 (by decide +kernel) (by decide +kernel)
set_option maxRecDepth 100000 in
theorem w_1946 : Cond.methodLink "CascaderyLaw" 157 yX12_putTop ∈ BG := bg_in 1946 (by decide +kernel) (by decide +kernel)
set_option maxRecDepth 100000 in
theorem w_957 : Cond.methodLink "CascaderyLaw" 158 yL_take ∈ BG := bg_in 957 (by decide +kernel) (by decide +kernel)
set_option maxRecDepth 100000 in
theorem w_1950 : Cond.methodLink "CascaderyLaw" 160 yX12_take ∈ BG := bg_in 1950 (by decide +kernel) (by decide +kernel)
set_option maxRecDepth 100000 in
theorem w_968 : Cond.methodLink "CascaderyLaw" 161 yL_setClass ∈ BG := bg_in 968 (by decide +kernel) (by decide +kernel)
set_option maxRecDepth 100000 in
theorem w_1958 : Cond.methodLink "CascaderyLaw" 164 yX12_setClass ∈ BG := bg_in 1958 (by decide +kernel) (by decide +kernel)
set_option maxRecDepth 100000 in
theorem w_997 : Cond.methodLink "CascaderyLaw" 165 yL_setState ∈ BG := bg_in 997 (by decide +kernel) (by decide +kernel)
set_option maxRecDepth 100000 in
theorem w_1966 : Cond.methodLink "CascaderyLaw" 167 yX12_setState ∈ BG := bg_in 1966 (by decide +kernel) (by decide +kernel)
set_option maxRecDepth 100000 in
theorem w_1004 : Cond.methodLink "CascaderyLaw" 168 yL_setAttribute ∈ BG := bg_in 1004 (by decide +kernel) (by decide +kernel)
set_option maxRecDepth 100000 in
theorem w_1970 : Cond.methodLink "CascaderyLaw" 171 yX12_setAttribute ∈ BG := bg_in 1970 (by decide +kernel) (by decide +kernel)
set_option maxRecDepth 100000 in
theorem w_1011 : Cond.methodLink "CascaderyLaw" 172 yL_setPart ∈ BG := bg_in 1011 (by decide +kernel) (by decide +kernel)
set_option maxRecDepth 100000 in
theorem w_1974 : Cond.methodLink "CascaderyLaw" 175 yX12_setPart ∈ BG := bg_in 1974 (by decide +kernel) (by decide +kernel)
set_option maxRecDepth 100000 in
theorem w_1018 : Cond.methodLink "CascaderyLaw" 176 yL_shownParent ∈ BG := bg_in 1018 (by decide +kernel) (by decide +kernel)
set_option maxRecDepth 100000 in
theorem w_1978 : Cond.methodLink "CascaderyLaw" 178 yX12_shownParent ∈ BG := bg_in 1978 (by decide +kernel) (by decide +kernel)
set_option maxRecDepth 100000 in
theorem w_1025 : Cond.methodLink "CascaderyLaw" 179 yL_isIn ∈ BG := bg_in 1025 (by decide +kernel) (by decide +kernel)
set_option maxRecDepth 100000 in
theorem w_1982 : Cond.methodLink "CascaderyLaw" 181 yX12_isIn ∈ BG := bg_in 1982 (by decide +kernel) (by decide +kernel)
set_option maxRecDepth 100000 in
theorem w_1033 : Cond.methodLink "CascaderyLaw" 182 yL_test ∈ BG := bg_in 1033 (by decide +kernel) (by decide +kernel)
set_option maxRecDepth 100000 in
theorem w_1986 : Cond.methodLink "CascaderyLaw" 184 yX12_test ∈ BG := bg_in 1986 (by decide +kernel) (by decide +kernel)
set_option maxRecDepth 100000 in
theorem w_1060 : Cond.methodLink "CascaderyLaw" 185 yL_join ∈ BG := bg_in 1060 (by decide +kernel) (by decide +kernel)
set_option maxRecDepth 100000 in
theorem w_1990 : Cond.methodLink "CascaderyLaw" 187 yX12_join ∈ BG := bg_in 1990 (by decide +kernel) (by decide +kernel)
set_option maxRecDepth 100000 in
theorem w_1071 : Cond.methodLink "CascaderyLaw" 188 yL_select ∈ BG := bg_in 1071 (by decide +kernel) (by decide +kernel)
set_option maxRecDepth 100000 in
theorem w_1994 : Cond.methodLink "CascaderyLaw" 191 yX12_select ∈ BG := bg_in 1994 (by decide +kernel) (by decide +kernel)
set_option maxRecDepth 100000 in
theorem w_1087 : Cond.methodLink "CascaderyLaw" 192 yL_weight ∈ BG := bg_in 1087 (by decide +kernel) (by decide +kernel)
set_option maxRecDepth 100000 in
theorem w_2011 : Cond.methodLink "CascaderyLaw" 194 yX12_weight ∈ BG := bg_in 2011 (by decide +kernel) (by decide +kernel)
set_option maxRecDepth 100000 in
theorem w_1098 : Cond.methodLink "CascaderyLaw" 195 yL_matches ∈ BG := bg_in 1098 (by decide +kernel) (by decide +kernel)
set_option maxRecDepth 100000 in
theorem w_2019 : Cond.methodLink "CascaderyLaw" 197 yX12_matches ∈ BG := bg_in 2019 (by decide +kernel) (by decide +kernel)
set_option maxRecDepth 100000 in
theorem w_1152 : Cond.methodLink "CascaderyLaw" 198 yL_allThat ∈ BG := bg_in 1152 (by decide +kernel) (by decide +kernel)
set_option maxRecDepth 100000 in
theorem w_2067 : Cond.methodLink "CascaderyLaw" 200 yX12_allThat ∈ BG := bg_in 2067 (by decide +kernel) (by decide +kernel)
set_option maxRecDepth 100000 in
theorem w_1159 : Cond.methodLink "CascaderyLaw" 201 yL_sheet ∈ BG := bg_in 1159 (by decide +kernel) (by decide +kernel)
set_option maxRecDepth 100000 in
theorem w_2071 : Cond.methodLink "CascaderyLaw" 203 yX12_sheet ∈ BG := bg_in 2071 (by decide +kernel) (by decide +kernel)
set_option maxRecDepth 100000 in
theorem w_1197 : Cond.methodLink "CascaderyLaw" 204 yL_turn ∈ BG := bg_in 1197 (by decide +kernel) (by decide +kernel)
set_option maxRecDepth 100000 in
theorem w_2075 : Cond.methodLink "CascaderyLaw" 207 yX12_turn ∈ BG := bg_in 2075 (by decide +kernel) (by decide +kernel)
set_option maxRecDepth 100000 in
theorem w_1212 : Cond.methodLink "CascaderyLaw" 208 yL_rule ∈ BG := bg_in 1212 (by decide +kernel) (by decide +kernel)
set_option maxRecDepth 100000 in
theorem w_2079 : Cond.methodLink "CascaderyLaw" 210 yX12_rule ∈ BG := bg_in 2079 (by decide +kernel) (by decide +kernel)
set_option maxRecDepth 100000 in
theorem w_1224 : Cond.methodLink "CascaderyLaw" 211 yL_when ∈ BG := bg_in 1224 (by decide +kernel) (by decide +kernel)
set_option maxRecDepth 100000 in
theorem w_2083 : Cond.methodLink "CascaderyLaw" 213 yX12_when ∈ BG := bg_in 2083 (by decide +kernel) (by decide +kernel)
set_option maxRecDepth 100000 in
theorem w_1242 : Cond.methodLink "CascaderyLaw" 214 yL_declare ∈ BG := bg_in 1242 (by decide +kernel) (by decide +kernel)
set_option maxRecDepth 100000 in
theorem w_2091 : Cond.methodLink "CascaderyLaw" 217 yX12_declare ∈ BG := bg_in 2091 (by decide +kernel) (by decide +kernel)
set_option maxRecDepth 100000 in
theorem w_1281 : Cond.methodLink "CascaderyLaw" 218 yL_declareVar ∈ BG := bg_in 1281 (by decide +kernel) (by decide +kernel)
set_option maxRecDepth 100000 in
theorem w_2115 : Cond.methodLink "CascaderyLaw" 221 yX12_declareVar ∈ BG := bg_in 2115 (by decide +kernel) (by decide +kernel)
set_option maxRecDepth 100000 in
theorem w_1292 : Cond.methodLink "CascaderyLaw" 222 yL_undeclare ∈ BG := bg_in 1292 (by decide +kernel) (by decide +kernel)
set_option maxRecDepth 100000 in
theorem w_2119 : Cond.methodLink "CascaderyLaw" 224 yX12_undeclare ∈ BG := bg_in 2119 (by decide +kernel) (by decide +kernel)
set_option maxRecDepth 100000 in
theorem w_1299 : Cond.methodLink "CascaderyLaw" 225 yL_setWidth ∈ BG := bg_in 1299 (by decide +kernel) (by decide +kernel)
set_option maxRecDepth 100000 in
theorem w_2123 : Cond.methodLink "CascaderyLaw" 227 yX12_setWidth ∈ BG := bg_in 2123 (by decide +kernel) (by decide +kernel)
set_option maxRecDepth 100000 in
theorem w_1306 : Cond.methodLink "CascaderyLaw" 228 yL_value ∈ BG := bg_in 1306 (by decide +kernel) (by decide +kernel)
set_option maxRecDepth 100000 in
theorem w_2127 : Cond.methodLink "CascaderyLaw" 230 yX12_value ∈ BG := bg_in 2127 (by decide +kernel) (by decide +kernel)
set_option maxRecDepth 100000 in
theorem w_1457 : Cond.methodLink "CascaderyLaw" 231 yL_size ∈ BG := bg_in 1457 (by decide +kernel) (by decide +kernel)
set_option maxRecDepth 100000 in
theorem w_2298 : Cond.methodLink "CascaderyLaw" 233 yX12_size ∈ BG := bg_in 2298 (by decide +kernel) (by decide +kernel)
set_option maxRecDepth 100000 in
theorem w_1464 : Cond.methodLink "CascaderyLaw" 234 yL_seen ∈ BG := bg_in 1464 (by decide +kernel) (by decide +kernel)
set_option maxRecDepth 100000 in
theorem w_2302 : Cond.methodLink "CascaderyLaw" 236 yX12_seen ∈ BG := bg_in 2302 (by decide +kernel) (by decide +kernel)
set_option maxRecDepth 100000 in
theorem w_1472 : Cond.methodLink "CascaderyLaw" 237 yL_made ∈ BG := bg_in 1472 (by decide +kernel) (by decide +kernel)
set_option maxRecDepth 100000 in
theorem w_2306 : Cond.methodLink "CascaderyLaw" 239 yX12_made ∈ BG := bg_in 2306 (by decide +kernel) (by decide +kernel)
set_option maxRecDepth 100000 in
theorem w_1483 : Cond.methodLink "CascaderyLaw" 240 yL_why ∈ BG := bg_in 1483 (by decide +kernel) (by decide +kernel)
set_option maxRecDepth 100000 in
theorem w_2310 : Cond.methodLink "CascaderyLaw" 242 yX12_why ∈ BG := bg_in 2310 (by decide +kernel) (by decide +kernel)
set_option maxRecDepth 100000 in
theorem w_1498 : Cond.methodLink "CascaderyLaw" 243 yL_valueAnew ∈ BG := bg_in 1498 (by decide +kernel) (by decide +kernel)
set_option maxRecDepth 100000 in
theorem w_2314 : Cond.methodLink "CascaderyLaw" 245 yX12_valueAnew ∈ BG := bg_in 2314 (by decide +kernel) (by decide +kernel)
set_option maxRecDepth 100000 in
theorem w_715 : Cond.methodLink "CascaderyLaw" 246 yX11_marked ∈ BG := bg_in 715 (by decide +kernel) (by decide +kernel)
set_option maxRecDepth 100000 in
theorem w_2318 : Cond.methodLink "CascaderyLaw" 249 yX12_marked ∈ BG := bg_in 2318 (by decide +kernel) (by decide +kernel)
set_option maxRecDepth 100000 in
theorem w_719 : Cond.methodLink "CascaderyLaw" 250 yX11_flushes ∈ BG := bg_in 719 (by decide +kernel) (by decide +kernel)
set_option maxRecDepth 100000 in
theorem w_2322 : Cond.methodLink "CascaderyLaw" 253 yX12_flushes ∈ BG := bg_in 2322 (by decide +kernel) (by decide +kernel)
set_option maxRecDepth 100000 in
theorem w_723 : Cond.methodLink "CascaderyLaw" 254 yX11_restyled ∈ BG := bg_in 723 (by decide +kernel) (by decide +kernel)
set_option maxRecDepth 100000 in
theorem w_2326 : Cond.methodLink "CascaderyLaw" 257 yX12_restyled ∈ BG := bg_in 2326 (by decide +kernel) (by decide +kernel)
set_option maxRecDepth 100000 in
theorem w_727 : Cond.methodLink "CascaderyLaw" 258 yX11_shared ∈ BG := bg_in 727 (by decide +kernel) (by decide +kernel)
set_option maxRecDepth 100000 in
theorem w_2330 : Cond.methodLink "CascaderyLaw" 261 yX12_shared ∈ BG := bg_in 2330 (by decide +kernel) (by decide +kernel)
set_option maxRecDepth 100000 in
theorem w_1509 : Cond.methodLink "CascaderyLaw" 262 yL_tick ∈ BG := bg_in 1509 (by decide +kernel) (by decide +kernel)
set_option maxRecDepth 100000 in
theorem w_2334 : Cond.methodLink "CascaderyLaw" 264 yX12_tick ∈ BG := bg_in 2334 (by decide +kernel) (by decide +kernel)
set_option maxRecDepth 100000 in
theorem w_1516 : Cond.methodLink "CascaderyLaw" 265 yL_animation ∈ BG := bg_in 1516 (by decide +kernel) (by decide +kernel)
set_option maxRecDepth 100000 in
theorem w_2338 : Cond.methodLink "CascaderyLaw" 268 yX12_animation ∈ BG := bg_in 2338 (by decide +kernel) (by decide +kernel)
set_option maxRecDepth 100000 in
theorem w_1523 : Cond.methodLink "CascaderyLaw" 269 yL_frame ∈ BG := bg_in 1523 (by decide +kernel) (by decide +kernel)
set_option maxRecDepth 100000 in
theorem w_2342 : Cond.methodLink "CascaderyLaw" 272 yX12_frame ∈ BG := bg_in 2342 (by decide +kernel) (by decide +kernel)
set_option maxRecDepth 100000 in
theorem w_1540 : Cond.methodLink "CascaderyLaw" 273 yL_listen ∈ BG := bg_in 1540 (by decide +kernel) (by decide +kernel)
set_option maxRecDepth 100000 in
theorem w_2346 : Cond.methodLink "CascaderyLaw" 275 yX12_listen ∈ BG := bg_in 2346 (by decide +kernel) (by decide +kernel)
theorem dL_law_0 : decode cL_law 0 = .ok (.new 8, 3) := by decide +kernel
theorem dL_law_3 : decode cL_law 3 = .ok (.dup, 1) := by decide +kernel
theorem dL_law_4 : decode cL_law 4 = .ok (.invokespecial 134, 3) := by decide +kernel
theorem dL_law_7 : decode cL_law 7 = .ok (.astore_n 1, 1) := by decide +kernel
theorem dL_law_8 : decode cL_law 8 = .ok (.new 135, 3) := by decide +kernel
theorem dL_law_11 : decode cL_law 11 = .ok (.dup, 1) := by decide +kernel
theorem dL_law_12 : decode cL_law 12 = .ok (.invokespecial 137, 3) := by decide +kernel
theorem dL_law_15 : decode cL_law 15 = .ok (.astore_n 2, 1) := by decide +kernel
theorem dL_law_16 : decode cL_law 16 = .ok (.iconst 1, 1) := by decide +kernel
theorem dL_law_17 : decode cL_law 17 = .ok (.newarray .long, 2) := by decide +kernel
theorem dL_law_19 : decode cL_law 19 = .ok (.astore_n 3, 1) := by decide +kernel
theorem dL_law_20 : decode cL_law 20 = .ok (.iconst 0, 1) := by decide +kernel
theorem dL_law_21 : decode cL_law 21 = .ok (.istore 4, 2) := by decide +kernel
theorem dL_law_23 : decode cL_law 23 = .ok (.iload 4, 2) := by decide +kernel
theorem dL_law_25 : decode cL_law 25 = .ok (.aload_n 0, 1) := by decide +kernel
theorem dL_law_26 : decode cL_law 26 = .ok (.arraylength, 1) := by decide +kernel
theorem dL_law_27 : decode cL_law 27 = .ok (.bipush 7, 2) := by decide +kernel
theorem dL_law_29 : decode cL_law 29 = .ok (.isub, 1) := by decide +kernel
theorem dL_law_30 : decode cL_law 30 = .ok (.if_icmp .gt 2773, 3) := by decide +kernel
theorem dL_law_33 : decode cL_law 33 = .ok (.aload_n 0, 1) := by decide +kernel
theorem dL_law_34 : decode cL_law 34 = .ok (.iload 4, 2) := by decide +kernel
theorem dL_law_36 : decode cL_law 36 = .ok (.iaload, 1) := by decide +kernel
theorem dL_law_37 : decode cL_law 37 = .ok (.bipush 63, 2) := by decide +kernel
theorem dL_law_39 : decode cL_law 39 = .ok (.iand, 1) := by decide +kernel
theorem dL_law_40 : decode cL_law 40 = .ok (.tableswitch 2757 0 38 #[172, 228, 264, 324, 384, 440, 543, 646, 726, 794, 850, 913, 993, 1049, 1093, 1149, 1236, 1304, 1384, 1475, 1543, 1603, 1723, 1857, 1925, 1981, 2049, 2105, 2173, 2229, 2309, 2377, 2390, 2403, 2416, 2429, 2485, 2573, 2665], 172) := by decide +kernel
theorem dL_law_212 : decode cL_law 212 = .ok (.aload_n 1, 1) := by decide +kernel
theorem dL_law_213 : decode cL_law 213 = .ok (.aload_n 0, 1) := by decide +kernel
theorem dL_law_214 : decode cL_law 214 = .ok (.iload 4, 2) := by decide +kernel
theorem dL_law_216 : decode cL_law 216 = .ok (.iconst 1, 1) := by decide +kernel
theorem dL_law_217 : decode cL_law 217 = .ok (.iadd, 1) := by decide +kernel
theorem dL_law_218 : decode cL_law 218 = .ok (.iaload, 1) := by decide +kernel
theorem dL_law_219 : decode cL_law 219 = .ok (.aload_n 3, 1) := by decide +kernel
theorem dL_law_220 : decode cL_law 220 = .ok (.invokestatic 138, 3) := by decide +kernel
theorem dL_law_223 : decode cL_law 223 = .ok (.istore 5, 2) := by decide +kernel
theorem dL_law_225 : decode cL_law 225 = .ok (.aload_n 2, 1) := by decide +kernel
theorem dL_law_226 : decode cL_law 226 = .ok (.aload_n 0, 1) := by decide +kernel
theorem dL_law_227 : decode cL_law 227 = .ok (.iload 4, 2) := by decide +kernel
theorem dL_law_229 : decode cL_law 229 = .ok (.iconst 1, 1) := by decide +kernel
theorem dL_law_230 : decode cL_law 230 = .ok (.iadd, 1) := by decide +kernel
theorem dL_law_231 : decode cL_law 231 = .ok (.iaload, 1) := by decide +kernel
theorem dL_law_232 : decode cL_law 232 = .ok (.invokevirtual 143, 3) := by decide +kernel
theorem dL_law_235 : decode cL_law 235 = .ok (.istore 6, 2) := by decide +kernel
theorem dL_law_237 : decode cL_law 237 = .ok (.aload_n 2, 1) := by decide +kernel
theorem dL_law_238 : decode cL_law 238 = .ok (.invokevirtual 144, 3) := by decide +kernel
theorem dL_law_241 : decode cL_law 241 = .ok (.iload 5, 2) := by decide +kernel
theorem dL_law_243 : decode cL_law 243 = .ok (.if_icmp .eq 5, 3) := by decide +kernel
theorem dL_law_246 : decode cL_law 246 = .ok (.iconst 0, 1) := by decide +kernel
theorem dL_law_247 : decode cL_law 247 = .ok (.ireturn, 1) := by decide +kernel
theorem dL_law_248 : decode cL_law 248 = .ok (.iload 5, 2) := by decide +kernel
theorem dL_law_250 : decode cL_law 250 = .ok (.ifCond .ne 15, 3) := by decide +kernel
theorem dL_law_253 : decode cL_law 253 = .ok (.aload_n 3, 1) := by decide +kernel
theorem dL_law_254 : decode cL_law 254 = .ok (.iconst 0, 1) := by decide +kernel
theorem dL_law_255 : decode cL_law 255 = .ok (.laload, 1) := by decide +kernel
theorem dL_law_256 : decode cL_law 256 = .ok (.iload 6, 2) := by decide +kernel
theorem dL_law_258 : decode cL_law 258 = .ok (.i2l, 1) := by decide +kernel
theorem dL_law_259 : decode cL_law 259 = .ok (.lcmp, 1) := by decide +kernel
theorem dL_law_260 : decode cL_law 260 = .ok (.ifCond .eq 5, 3) := by decide +kernel
theorem dL_law_263 : decode cL_law 263 = .ok (.iconst 0, 1) := by decide +kernel
theorem dL_law_264 : decode cL_law 264 = .ok (.ireturn, 1) := by decide +kernel
theorem dL_law_265 : decode cL_law 265 = .ok (.goto 2532, 3) := by decide +kernel
theorem dL_law_268 : decode cL_law 268 = .ok (.aload_n 1, 1) := by decide +kernel
theorem dL_law_269 : decode cL_law 269 = .ok (.aload_n 0, 1) := by decide +kernel
theorem dL_law_270 : decode cL_law 270 = .ok (.iload 4, 2) := by decide +kernel
theorem dL_law_272 : decode cL_law 272 = .ok (.iconst 1, 1) := by decide +kernel
theorem dL_law_273 : decode cL_law 273 = .ok (.iadd, 1) := by decide +kernel
theorem dL_law_274 : decode cL_law 274 = .ok (.iaload, 1) := by decide +kernel
theorem dL_law_275 : decode cL_law 275 = .ok (.invokestatic 147, 3) := by decide +kernel
theorem dL_law_278 : decode cL_law 278 = .ok (.istore 5, 2) := by decide +kernel
theorem dL_law_280 : decode cL_law 280 = .ok (.aload_n 2, 1) := by decide +kernel
theorem dL_law_281 : decode cL_law 281 = .ok (.aload_n 0, 1) := by decide +kernel
theorem dL_law_282 : decode cL_law 282 = .ok (.iload 4, 2) := by decide +kernel
theorem dL_law_284 : decode cL_law 284 = .ok (.iconst 1, 1) := by decide +kernel
theorem dL_law_285 : decode cL_law 285 = .ok (.iadd, 1) := by decide +kernel
theorem dL_law_286 : decode cL_law 286 = .ok (.iaload, 1) := by decide +kernel
theorem dL_law_287 : decode cL_law 287 = .ok (.invokevirtual 150, 3) := by decide +kernel
theorem dL_law_290 : decode cL_law 290 = .ok (.aload_n 2, 1) := by decide +kernel
theorem dL_law_291 : decode cL_law 291 = .ok (.invokevirtual 144, 3) := by decide +kernel
theorem dL_law_294 : decode cL_law 294 = .ok (.iload 5, 2) := by decide +kernel
theorem dL_law_296 : decode cL_law 296 = .ok (.if_icmp .eq 5, 3) := by decide +kernel
theorem dL_law_299 : decode cL_law 299 = .ok (.iconst 0, 1) := by decide +kernel
theorem dL_law_300 : decode cL_law 300 = .ok (.ireturn, 1) := by decide +kernel
theorem dL_law_301 : decode cL_law 301 = .ok (.goto 2496, 3) := by decide +kernel
theorem dL_law_304 : decode cL_law 304 = .ok (.aload_n 1, 1) := by decide +kernel
theorem dL_law_305 : decode cL_law 305 = .ok (.aload_n 0, 1) := by decide +kernel
theorem dL_law_306 : decode cL_law 306 = .ok (.iload 4, 2) := by decide +kernel
theorem dL_law_308 : decode cL_law 308 = .ok (.iconst 1, 1) := by decide +kernel
theorem dL_law_309 : decode cL_law 309 = .ok (.iadd, 1) := by decide +kernel
theorem dL_law_310 : decode cL_law 310 = .ok (.iaload, 1) := by decide +kernel
theorem dL_law_311 : decode cL_law 311 = .ok (.aload_n 0, 1) := by decide +kernel
theorem dL_law_312 : decode cL_law 312 = .ok (.iload 4, 2) := by decide +kernel
theorem dL_law_314 : decode cL_law 314 = .ok (.iconst 2, 1) := by decide +kernel
theorem dL_law_315 : decode cL_law 315 = .ok (.iadd, 1) := by decide +kernel
theorem dL_law_316 : decode cL_law 316 = .ok (.iaload, 1) := by decide +kernel
theorem dL_law_317 : decode cL_law 317 = .ok (.aload_n 0, 1) := by decide +kernel
theorem dL_law_318 : decode cL_law 318 = .ok (.iload 4, 2) := by decide +kernel
theorem dL_law_320 : decode cL_law 320 = .ok (.iconst 3, 1) := by decide +kernel
theorem dL_law_321 : decode cL_law 321 = .ok (.iadd, 1) := by decide +kernel
theorem dL_law_322 : decode cL_law 322 = .ok (.iaload, 1) := by decide +kernel
theorem dL_law_323 : decode cL_law 323 = .ok (.invokestatic 151, 3) := by decide +kernel
theorem dL_law_326 : decode cL_law 326 = .ok (.istore 5, 2) := by decide +kernel
theorem dL_law_328 : decode cL_law 328 = .ok (.aload_n 2, 1) := by decide +kernel
theorem dL_law_329 : decode cL_law 329 = .ok (.aload_n 0, 1) := by decide +kernel
theorem dL_law_330 : decode cL_law 330 = .ok (.iload 4, 2) := by decide +kernel
theorem dL_law_332 : decode cL_law 332 = .ok (.iconst 1, 1) := by decide +kernel
theorem dL_law_333 : decode cL_law 333 = .ok (.iadd, 1) := by decide +kernel
theorem dL_law_334 : decode cL_law 334 = .ok (.iaload, 1) := by decide +kernel
theorem dL_law_335 : decode cL_law 335 = .ok (.aload_n 0, 1) := by decide +kernel
theorem dL_law_336 : decode cL_law 336 = .ok (.iload 4, 2) := by decide +kernel
theorem dL_law_338 : decode cL_law 338 = .ok (.iconst 2, 1) := by decide +kernel
theorem dL_law_339 : decode cL_law 339 = .ok (.iadd, 1) := by decide +kernel
theorem dL_law_340 : decode cL_law 340 = .ok (.iaload, 1) := by decide +kernel
theorem dL_law_341 : decode cL_law 341 = .ok (.aload_n 0, 1) := by decide +kernel
theorem dL_law_342 : decode cL_law 342 = .ok (.iload 4, 2) := by decide +kernel
theorem dL_law_344 : decode cL_law 344 = .ok (.iconst 3, 1) := by decide +kernel
theorem dL_law_345 : decode cL_law 345 = .ok (.iadd, 1) := by decide +kernel
theorem dL_law_346 : decode cL_law 346 = .ok (.iaload, 1) := by decide +kernel
theorem dL_law_347 : decode cL_law 347 = .ok (.invokevirtual 154, 3) := by decide +kernel
theorem dL_law_350 : decode cL_law 350 = .ok (.aload_n 2, 1) := by decide +kernel
theorem dL_law_351 : decode cL_law 351 = .ok (.invokevirtual 144, 3) := by decide +kernel
theorem dL_law_354 : decode cL_law 354 = .ok (.iload 5, 2) := by decide +kernel
theorem dL_law_356 : decode cL_law 356 = .ok (.if_icmp .eq 5, 3) := by decide +kernel
theorem dL_law_359 : decode cL_law 359 = .ok (.iconst 0, 1) := by decide +kernel
theorem dL_law_360 : decode cL_law 360 = .ok (.ireturn, 1) := by decide +kernel
theorem dL_law_361 : decode cL_law 361 = .ok (.goto 2436, 3) := by decide +kernel
theorem dL_law_364 : decode cL_law 364 = .ok (.aload_n 1, 1) := by decide +kernel
theorem dL_law_365 : decode cL_law 365 = .ok (.aload_n 0, 1) := by decide +kernel
theorem dL_law_366 : decode cL_law 366 = .ok (.iload 4, 2) := by decide +kernel
theorem dL_law_368 : decode cL_law 368 = .ok (.iconst 1, 1) := by decide +kernel
theorem dL_law_369 : decode cL_law 369 = .ok (.iadd, 1) := by decide +kernel
theorem dL_law_370 : decode cL_law 370 = .ok (.iaload, 1) := by decide +kernel
theorem dL_law_371 : decode cL_law 371 = .ok (.aload_n 0, 1) := by decide +kernel
theorem dL_law_372 : decode cL_law 372 = .ok (.iload 4, 2) := by decide +kernel
theorem dL_law_374 : decode cL_law 374 = .ok (.iconst 2, 1) := by decide +kernel
theorem dL_law_375 : decode cL_law 375 = .ok (.iadd, 1) := by decide +kernel
theorem dL_law_376 : decode cL_law 376 = .ok (.iaload, 1) := by decide +kernel
theorem dL_law_377 : decode cL_law 377 = .ok (.aload_n 0, 1) := by decide +kernel
theorem dL_law_378 : decode cL_law 378 = .ok (.iload 4, 2) := by decide +kernel
theorem dL_law_380 : decode cL_law 380 = .ok (.iconst 3, 1) := by decide +kernel
theorem dL_law_381 : decode cL_law 381 = .ok (.iadd, 1) := by decide +kernel
theorem dL_law_382 : decode cL_law 382 = .ok (.iaload, 1) := by decide +kernel
theorem dL_law_383 : decode cL_law 383 = .ok (.invokestatic 155, 3) := by decide +kernel
theorem dL_law_386 : decode cL_law 386 = .ok (.istore 5, 2) := by decide +kernel
theorem dL_law_388 : decode cL_law 388 = .ok (.aload_n 2, 1) := by decide +kernel
theorem dL_law_389 : decode cL_law 389 = .ok (.aload_n 0, 1) := by decide +kernel
theorem dL_law_390 : decode cL_law 390 = .ok (.iload 4, 2) := by decide +kernel
theorem dL_law_392 : decode cL_law 392 = .ok (.iconst 1, 1) := by decide +kernel
theorem dL_law_393 : decode cL_law 393 = .ok (.iadd, 1) := by decide +kernel
theorem dL_law_394 : decode cL_law 394 = .ok (.iaload, 1) := by decide +kernel
theorem dL_law_395 : decode cL_law 395 = .ok (.aload_n 0, 1) := by decide +kernel
theorem dL_law_396 : decode cL_law 396 = .ok (.iload 4, 2) := by decide +kernel
theorem dL_law_398 : decode cL_law 398 = .ok (.iconst 2, 1) := by decide +kernel
theorem dL_law_399 : decode cL_law 399 = .ok (.iadd, 1) := by decide +kernel
theorem dL_law_400 : decode cL_law 400 = .ok (.iaload, 1) := by decide +kernel
theorem dL_law_401 : decode cL_law 401 = .ok (.aload_n 0, 1) := by decide +kernel
theorem dL_law_402 : decode cL_law 402 = .ok (.iload 4, 2) := by decide +kernel
theorem dL_law_404 : decode cL_law 404 = .ok (.iconst 3, 1) := by decide +kernel
theorem dL_law_405 : decode cL_law 405 = .ok (.iadd, 1) := by decide +kernel
theorem dL_law_406 : decode cL_law 406 = .ok (.iaload, 1) := by decide +kernel
theorem dL_law_407 : decode cL_law 407 = .ok (.invokevirtual 157, 3) := by decide +kernel
theorem dL_law_410 : decode cL_law 410 = .ok (.aload_n 2, 1) := by decide +kernel
theorem dL_law_411 : decode cL_law 411 = .ok (.invokevirtual 144, 3) := by decide +kernel
theorem dL_law_414 : decode cL_law 414 = .ok (.iload 5, 2) := by decide +kernel
theorem dL_law_416 : decode cL_law 416 = .ok (.if_icmp .eq 5, 3) := by decide +kernel
theorem dL_law_419 : decode cL_law 419 = .ok (.iconst 0, 1) := by decide +kernel
theorem dL_law_420 : decode cL_law 420 = .ok (.ireturn, 1) := by decide +kernel
theorem dL_law_421 : decode cL_law 421 = .ok (.goto 2376, 3) := by decide +kernel
theorem dL_law_424 : decode cL_law 424 = .ok (.aload_n 1, 1) := by decide +kernel
theorem dL_law_425 : decode cL_law 425 = .ok (.aload_n 0, 1) := by decide +kernel
theorem dL_law_426 : decode cL_law 426 = .ok (.iload 4, 2) := by decide +kernel
theorem dL_law_428 : decode cL_law 428 = .ok (.iconst 1, 1) := by decide +kernel
theorem dL_law_429 : decode cL_law 429 = .ok (.iadd, 1) := by decide +kernel
theorem dL_law_430 : decode cL_law 430 = .ok (.iaload, 1) := by decide +kernel
theorem dL_law_431 : decode cL_law 431 = .ok (.aload_n 3, 1) := by decide +kernel
theorem dL_law_432 : decode cL_law 432 = .ok (.invokestatic 158, 3) := by decide +kernel
theorem dL_law_435 : decode cL_law 435 = .ok (.istore 5, 2) := by decide +kernel
theorem dL_law_437 : decode cL_law 437 = .ok (.aload_n 2, 1) := by decide +kernel
theorem dL_law_438 : decode cL_law 438 = .ok (.aload_n 0, 1) := by decide +kernel
theorem dL_law_439 : decode cL_law 439 = .ok (.iload 4, 2) := by decide +kernel
theorem dL_law_441 : decode cL_law 441 = .ok (.iconst 1, 1) := by decide +kernel
theorem dL_law_442 : decode cL_law 442 = .ok (.iadd, 1) := by decide +kernel
theorem dL_law_443 : decode cL_law 443 = .ok (.iaload, 1) := by decide +kernel
theorem dL_law_444 : decode cL_law 444 = .ok (.invokevirtual 160, 3) := by decide +kernel
theorem dL_law_447 : decode cL_law 447 = .ok (.istore 6, 2) := by decide +kernel
theorem dL_law_449 : decode cL_law 449 = .ok (.aload_n 2, 1) := by decide +kernel
theorem dL_law_450 : decode cL_law 450 = .ok (.invokevirtual 144, 3) := by decide +kernel
theorem dL_law_453 : decode cL_law 453 = .ok (.iload 5, 2) := by decide +kernel
theorem dL_law_455 : decode cL_law 455 = .ok (.if_icmp .eq 5, 3) := by decide +kernel
theorem dL_law_458 : decode cL_law 458 = .ok (.iconst 0, 1) := by decide +kernel
theorem dL_law_459 : decode cL_law 459 = .ok (.ireturn, 1) := by decide +kernel
theorem dL_law_460 : decode cL_law 460 = .ok (.iload 5, 2) := by decide +kernel
theorem dL_law_462 : decode cL_law 462 = .ok (.ifCond .ne 15, 3) := by decide +kernel
theorem dL_law_465 : decode cL_law 465 = .ok (.aload_n 3, 1) := by decide +kernel
theorem dL_law_466 : decode cL_law 466 = .ok (.iconst 0, 1) := by decide +kernel
theorem dL_law_467 : decode cL_law 467 = .ok (.laload, 1) := by decide +kernel
theorem dL_law_468 : decode cL_law 468 = .ok (.iload 6, 2) := by decide +kernel
theorem dL_law_470 : decode cL_law 470 = .ok (.i2l, 1) := by decide +kernel
theorem dL_law_471 : decode cL_law 471 = .ok (.lcmp, 1) := by decide +kernel
theorem dL_law_472 : decode cL_law 472 = .ok (.ifCond .eq 5, 3) := by decide +kernel
theorem dL_law_475 : decode cL_law 475 = .ok (.iconst 0, 1) := by decide +kernel
theorem dL_law_476 : decode cL_law 476 = .ok (.ireturn, 1) := by decide +kernel
theorem dL_law_477 : decode cL_law 477 = .ok (.goto 2320, 3) := by decide +kernel
theorem dL_law_480 : decode cL_law 480 = .ok (.aload_n 1, 1) := by decide +kernel
theorem dL_law_481 : decode cL_law 481 = .ok (.aload_n 0, 1) := by decide +kernel
theorem dL_law_482 : decode cL_law 482 = .ok (.iload 4, 2) := by decide +kernel
theorem dL_law_484 : decode cL_law 484 = .ok (.iconst 1, 1) := by decide +kernel
theorem dL_law_485 : decode cL_law 485 = .ok (.iadd, 1) := by decide +kernel
theorem dL_law_486 : decode cL_law 486 = .ok (.iaload, 1) := by decide +kernel
theorem dL_law_487 : decode cL_law 487 = .ok (.aload_n 0, 1) := by decide +kernel
theorem dL_law_488 : decode cL_law 488 = .ok (.iload 4, 2) := by decide +kernel
theorem dL_law_490 : decode cL_law 490 = .ok (.iconst 2, 1) := by decide +kernel
theorem dL_law_491 : decode cL_law 491 = .ok (.iadd, 1) := by decide +kernel
theorem dL_law_492 : decode cL_law 492 = .ok (.iaload, 1) := by decide +kernel
theorem dL_law_493 : decode cL_law 493 = .ok (.aload_n 0, 1) := by decide +kernel
theorem dL_law_494 : decode cL_law 494 = .ok (.iload 4, 2) := by decide +kernel
theorem dL_law_496 : decode cL_law 496 = .ok (.iconst 3, 1) := by decide +kernel
theorem dL_law_497 : decode cL_law 497 = .ok (.iadd, 1) := by decide +kernel
theorem dL_law_498 : decode cL_law 498 = .ok (.iaload, 1) := by decide +kernel
theorem dL_law_499 : decode cL_law 499 = .ok (.ifCond .eq 7, 3) := by decide +kernel
theorem dL_law_502 : decode cL_law 502 = .ok (.iconst 1, 1) := by decide +kernel
theorem dL_law_503 : decode cL_law 503 = .ok (.goto 4, 3) := by decide +kernel
theorem dL_law_506 : decode cL_law 506 = .ok (.iconst 0, 1) := by decide +kernel
theorem dL_law_507 : decode cL_law 507 = .ok (.aload_n 3, 1) := by decide +kernel
theorem dL_law_508 : decode cL_law 508 = .ok (.invokestatic 161, 3) := by decide +kernel
theorem dL_law_511 : decode cL_law 511 = .ok (.istore 5, 2) := by decide +kernel
theorem dL_law_513 : decode cL_law 513 = .ok (.aload_n 2, 1) := by decide +kernel
theorem dL_law_514 : decode cL_law 514 = .ok (.aload_n 0, 1) := by decide +kernel
theorem dL_law_515 : decode cL_law 515 = .ok (.iload 4, 2) := by decide +kernel
theorem dL_law_517 : decode cL_law 517 = .ok (.iconst 1, 1) := by decide +kernel
theorem dL_law_518 : decode cL_law 518 = .ok (.iadd, 1) := by decide +kernel
theorem dL_law_519 : decode cL_law 519 = .ok (.iaload, 1) := by decide +kernel
theorem dL_law_520 : decode cL_law 520 = .ok (.aload_n 0, 1) := by decide +kernel
theorem dL_law_521 : decode cL_law 521 = .ok (.iload 4, 2) := by decide +kernel
theorem dL_law_523 : decode cL_law 523 = .ok (.iconst 2, 1) := by decide +kernel
theorem dL_law_524 : decode cL_law 524 = .ok (.iadd, 1) := by decide +kernel
theorem dL_law_525 : decode cL_law 525 = .ok (.iaload, 1) := by decide +kernel
theorem dL_law_526 : decode cL_law 526 = .ok (.aload_n 0, 1) := by decide +kernel
theorem dL_law_527 : decode cL_law 527 = .ok (.iload 4, 2) := by decide +kernel
theorem dL_law_529 : decode cL_law 529 = .ok (.iconst 3, 1) := by decide +kernel
theorem dL_law_530 : decode cL_law 530 = .ok (.iadd, 1) := by decide +kernel
theorem dL_law_531 : decode cL_law 531 = .ok (.iaload, 1) := by decide +kernel
theorem dL_law_532 : decode cL_law 532 = .ok (.ifCond .eq 7, 3) := by decide +kernel
theorem dL_law_535 : decode cL_law 535 = .ok (.iconst 1, 1) := by decide +kernel
theorem dL_law_536 : decode cL_law 536 = .ok (.goto 4, 3) := by decide +kernel
theorem dL_law_539 : decode cL_law 539 = .ok (.iconst 0, 1) := by decide +kernel
theorem dL_law_540 : decode cL_law 540 = .ok (.invokevirtual 164, 3) := by decide +kernel
theorem dL_law_543 : decode cL_law 543 = .ok (.istore 6, 2) := by decide +kernel
theorem dL_law_545 : decode cL_law 545 = .ok (.aload_n 2, 1) := by decide +kernel
theorem dL_law_546 : decode cL_law 546 = .ok (.invokevirtual 144, 3) := by decide +kernel
theorem dL_law_549 : decode cL_law 549 = .ok (.iload 5, 2) := by decide +kernel
theorem dL_law_551 : decode cL_law 551 = .ok (.if_icmp .eq 5, 3) := by decide +kernel
theorem dL_law_554 : decode cL_law 554 = .ok (.iconst 0, 1) := by decide +kernel
theorem dL_law_555 : decode cL_law 555 = .ok (.ireturn, 1) := by decide +kernel
theorem dL_law_556 : decode cL_law 556 = .ok (.iload 5, 2) := by decide +kernel
theorem dL_law_558 : decode cL_law 558 = .ok (.ifCond .ne 22, 3) := by decide +kernel
theorem dL_law_561 : decode cL_law 561 = .ok (.aload_n 3, 1) := by decide +kernel
theorem dL_law_562 : decode cL_law 562 = .ok (.iconst 0, 1) := by decide +kernel
theorem dL_law_563 : decode cL_law 563 = .ok (.laload, 1) := by decide +kernel
theorem dL_law_564 : decode cL_law 564 = .ok (.iload 6, 2) := by decide +kernel
theorem dL_law_566 : decode cL_law 566 = .ok (.ifCond .eq 7, 3) := by decide +kernel
theorem dL_law_569 : decode cL_law 569 = .ok (.lconst 1, 1) := by decide +kernel
theorem dL_law_570 : decode cL_law 570 = .ok (.goto 4, 3) := by decide +kernel
theorem dL_law_573 : decode cL_law 573 = .ok (.lconst 0, 1) := by decide +kernel
theorem dL_law_574 : decode cL_law 574 = .ok (.lcmp, 1) := by decide +kernel
theorem dL_law_575 : decode cL_law 575 = .ok (.ifCond .eq 5, 3) := by decide +kernel
theorem dL_law_578 : decode cL_law 578 = .ok (.iconst 0, 1) := by decide +kernel
theorem dL_law_579 : decode cL_law 579 = .ok (.ireturn, 1) := by decide +kernel
theorem dL_law_580 : decode cL_law 580 = .ok (.goto 2217, 3) := by decide +kernel
theorem dL_law_583 : decode cL_law 583 = .ok (.aload_n 1, 1) := by decide +kernel
theorem dL_law_584 : decode cL_law 584 = .ok (.aload_n 0, 1) := by decide +kernel
theorem dL_law_585 : decode cL_law 585 = .ok (.iload 4, 2) := by decide +kernel
theorem dL_law_587 : decode cL_law 587 = .ok (.iconst 1, 1) := by decide +kernel
theorem dL_law_588 : decode cL_law 588 = .ok (.iadd, 1) := by decide +kernel
theorem dL_law_589 : decode cL_law 589 = .ok (.iaload, 1) := by decide +kernel
theorem dL_law_590 : decode cL_law 590 = .ok (.aload_n 0, 1) := by decide +kernel
theorem dL_law_591 : decode cL_law 591 = .ok (.iload 4, 2) := by decide +kernel
theorem dL_law_593 : decode cL_law 593 = .ok (.iconst 2, 1) := by decide +kernel
theorem dL_law_594 : decode cL_law 594 = .ok (.iadd, 1) := by decide +kernel
theorem dL_law_595 : decode cL_law 595 = .ok (.iaload, 1) := by decide +kernel
theorem dL_law_596 : decode cL_law 596 = .ok (.aload_n 0, 1) := by decide +kernel
theorem dL_law_597 : decode cL_law 597 = .ok (.iload 4, 2) := by decide +kernel
theorem dL_law_599 : decode cL_law 599 = .ok (.iconst 3, 1) := by decide +kernel
theorem dL_law_600 : decode cL_law 600 = .ok (.iadd, 1) := by decide +kernel
theorem dL_law_601 : decode cL_law 601 = .ok (.iaload, 1) := by decide +kernel
theorem dL_law_602 : decode cL_law 602 = .ok (.ifCond .eq 7, 3) := by decide +kernel
theorem dL_law_605 : decode cL_law 605 = .ok (.iconst 1, 1) := by decide +kernel
theorem dL_law_606 : decode cL_law 606 = .ok (.goto 4, 3) := by decide +kernel
theorem dL_law_609 : decode cL_law 609 = .ok (.iconst 0, 1) := by decide +kernel
theorem dL_law_610 : decode cL_law 610 = .ok (.aload_n 3, 1) := by decide +kernel
theorem dL_law_611 : decode cL_law 611 = .ok (.invokestatic 165, 3) := by decide +kernel
theorem dL_law_614 : decode cL_law 614 = .ok (.istore 5, 2) := by decide +kernel
theorem dL_law_616 : decode cL_law 616 = .ok (.aload_n 2, 1) := by decide +kernel
theorem dL_law_617 : decode cL_law 617 = .ok (.aload_n 0, 1) := by decide +kernel
theorem dL_law_618 : decode cL_law 618 = .ok (.iload 4, 2) := by decide +kernel
theorem dL_law_620 : decode cL_law 620 = .ok (.iconst 1, 1) := by decide +kernel
theorem dL_law_621 : decode cL_law 621 = .ok (.iadd, 1) := by decide +kernel
theorem dL_law_622 : decode cL_law 622 = .ok (.iaload, 1) := by decide +kernel
theorem dL_law_623 : decode cL_law 623 = .ok (.aload_n 0, 1) := by decide +kernel
theorem dL_law_624 : decode cL_law 624 = .ok (.iload 4, 2) := by decide +kernel
theorem dL_law_626 : decode cL_law 626 = .ok (.iconst 2, 1) := by decide +kernel
theorem dL_law_627 : decode cL_law 627 = .ok (.iadd, 1) := by decide +kernel
theorem dL_law_628 : decode cL_law 628 = .ok (.iaload, 1) := by decide +kernel
theorem dL_law_629 : decode cL_law 629 = .ok (.aload_n 0, 1) := by decide +kernel
theorem dL_law_630 : decode cL_law 630 = .ok (.iload 4, 2) := by decide +kernel
theorem dL_law_632 : decode cL_law 632 = .ok (.iconst 3, 1) := by decide +kernel
theorem dL_law_633 : decode cL_law 633 = .ok (.iadd, 1) := by decide +kernel
theorem dL_law_634 : decode cL_law 634 = .ok (.iaload, 1) := by decide +kernel
theorem dL_law_635 : decode cL_law 635 = .ok (.ifCond .eq 7, 3) := by decide +kernel
theorem dL_law_638 : decode cL_law 638 = .ok (.iconst 1, 1) := by decide +kernel
theorem dL_law_639 : decode cL_law 639 = .ok (.goto 4, 3) := by decide +kernel
theorem dL_law_642 : decode cL_law 642 = .ok (.iconst 0, 1) := by decide +kernel
theorem dL_law_643 : decode cL_law 643 = .ok (.invokevirtual 167, 3) := by decide +kernel
theorem dL_law_646 : decode cL_law 646 = .ok (.istore 6, 2) := by decide +kernel
theorem dL_law_648 : decode cL_law 648 = .ok (.aload_n 2, 1) := by decide +kernel
theorem dL_law_649 : decode cL_law 649 = .ok (.invokevirtual 144, 3) := by decide +kernel
theorem dL_law_652 : decode cL_law 652 = .ok (.iload 5, 2) := by decide +kernel
theorem dL_law_654 : decode cL_law 654 = .ok (.if_icmp .eq 5, 3) := by decide +kernel
theorem dL_law_657 : decode cL_law 657 = .ok (.iconst 0, 1) := by decide +kernel
theorem dL_law_658 : decode cL_law 658 = .ok (.ireturn, 1) := by decide +kernel
theorem dL_law_659 : decode cL_law 659 = .ok (.iload 5, 2) := by decide +kernel
theorem dL_law_661 : decode cL_law 661 = .ok (.ifCond .ne 22, 3) := by decide +kernel
theorem dL_law_664 : decode cL_law 664 = .ok (.aload_n 3, 1) := by decide +kernel
theorem dL_law_665 : decode cL_law 665 = .ok (.iconst 0, 1) := by decide +kernel
theorem dL_law_666 : decode cL_law 666 = .ok (.laload, 1) := by decide +kernel
theorem dL_law_667 : decode cL_law 667 = .ok (.iload 6, 2) := by decide +kernel
theorem dL_law_669 : decode cL_law 669 = .ok (.ifCond .eq 7, 3) := by decide +kernel
theorem dL_law_672 : decode cL_law 672 = .ok (.lconst 1, 1) := by decide +kernel
theorem dL_law_673 : decode cL_law 673 = .ok (.goto 4, 3) := by decide +kernel
theorem dL_law_676 : decode cL_law 676 = .ok (.lconst 0, 1) := by decide +kernel
theorem dL_law_677 : decode cL_law 677 = .ok (.lcmp, 1) := by decide +kernel
theorem dL_law_678 : decode cL_law 678 = .ok (.ifCond .eq 5, 3) := by decide +kernel
theorem dL_law_681 : decode cL_law 681 = .ok (.iconst 0, 1) := by decide +kernel
theorem dL_law_682 : decode cL_law 682 = .ok (.ireturn, 1) := by decide +kernel
theorem dL_law_683 : decode cL_law 683 = .ok (.goto 2114, 3) := by decide +kernel
theorem dL_law_686 : decode cL_law 686 = .ok (.aload_n 1, 1) := by decide +kernel
theorem dL_law_687 : decode cL_law 687 = .ok (.aload_n 0, 1) := by decide +kernel
theorem dL_law_688 : decode cL_law 688 = .ok (.iload 4, 2) := by decide +kernel
theorem dL_law_690 : decode cL_law 690 = .ok (.iconst 1, 1) := by decide +kernel
theorem dL_law_691 : decode cL_law 691 = .ok (.iadd, 1) := by decide +kernel
theorem dL_law_692 : decode cL_law 692 = .ok (.iaload, 1) := by decide +kernel
theorem dL_law_693 : decode cL_law 693 = .ok (.aload_n 0, 1) := by decide +kernel
theorem dL_law_694 : decode cL_law 694 = .ok (.iload 4, 2) := by decide +kernel
theorem dL_law_696 : decode cL_law 696 = .ok (.iconst 2, 1) := by decide +kernel
theorem dL_law_697 : decode cL_law 697 = .ok (.iadd, 1) := by decide +kernel
theorem dL_law_698 : decode cL_law 698 = .ok (.iaload, 1) := by decide +kernel
theorem dL_law_699 : decode cL_law 699 = .ok (.aload_n 0, 1) := by decide +kernel
theorem dL_law_700 : decode cL_law 700 = .ok (.iload 4, 2) := by decide +kernel
theorem dL_law_702 : decode cL_law 702 = .ok (.iconst 3, 1) := by decide +kernel
theorem dL_law_703 : decode cL_law 703 = .ok (.iadd, 1) := by decide +kernel
theorem dL_law_704 : decode cL_law 704 = .ok (.iaload, 1) := by decide +kernel
theorem dL_law_705 : decode cL_law 705 = .ok (.aload_n 3, 1) := by decide +kernel
theorem dL_law_706 : decode cL_law 706 = .ok (.invokestatic 168, 3) := by decide +kernel
theorem dL_law_709 : decode cL_law 709 = .ok (.istore 5, 2) := by decide +kernel
theorem dL_law_711 : decode cL_law 711 = .ok (.aload_n 2, 1) := by decide +kernel
theorem dL_law_712 : decode cL_law 712 = .ok (.aload_n 0, 1) := by decide +kernel
theorem dL_law_713 : decode cL_law 713 = .ok (.iload 4, 2) := by decide +kernel
theorem dL_law_715 : decode cL_law 715 = .ok (.iconst 1, 1) := by decide +kernel
theorem dL_law_716 : decode cL_law 716 = .ok (.iadd, 1) := by decide +kernel
theorem dL_law_717 : decode cL_law 717 = .ok (.iaload, 1) := by decide +kernel
theorem dL_law_718 : decode cL_law 718 = .ok (.aload_n 0, 1) := by decide +kernel
theorem dL_law_719 : decode cL_law 719 = .ok (.iload 4, 2) := by decide +kernel
theorem dL_law_721 : decode cL_law 721 = .ok (.iconst 2, 1) := by decide +kernel
theorem dL_law_722 : decode cL_law 722 = .ok (.iadd, 1) := by decide +kernel
theorem dL_law_723 : decode cL_law 723 = .ok (.iaload, 1) := by decide +kernel
theorem dL_law_724 : decode cL_law 724 = .ok (.aload_n 0, 1) := by decide +kernel
theorem dL_law_725 : decode cL_law 725 = .ok (.iload 4, 2) := by decide +kernel
theorem dL_law_727 : decode cL_law 727 = .ok (.iconst 3, 1) := by decide +kernel
theorem dL_law_728 : decode cL_law 728 = .ok (.iadd, 1) := by decide +kernel
theorem dL_law_729 : decode cL_law 729 = .ok (.iaload, 1) := by decide +kernel
theorem dL_law_730 : decode cL_law 730 = .ok (.invokevirtual 171, 3) := by decide +kernel
theorem dL_law_733 : decode cL_law 733 = .ok (.istore 6, 2) := by decide +kernel
theorem dL_law_735 : decode cL_law 735 = .ok (.aload_n 2, 1) := by decide +kernel
theorem dL_law_736 : decode cL_law 736 = .ok (.invokevirtual 144, 3) := by decide +kernel
theorem dL_law_739 : decode cL_law 739 = .ok (.iload 5, 2) := by decide +kernel
theorem dL_law_741 : decode cL_law 741 = .ok (.if_icmp .eq 5, 3) := by decide +kernel
theorem dL_law_744 : decode cL_law 744 = .ok (.iconst 0, 1) := by decide +kernel
theorem dL_law_745 : decode cL_law 745 = .ok (.ireturn, 1) := by decide +kernel
theorem dL_law_746 : decode cL_law 746 = .ok (.iload 5, 2) := by decide +kernel
theorem dL_law_748 : decode cL_law 748 = .ok (.ifCond .ne 15, 3) := by decide +kernel
theorem dL_law_751 : decode cL_law 751 = .ok (.aload_n 3, 1) := by decide +kernel
theorem dL_law_752 : decode cL_law 752 = .ok (.iconst 0, 1) := by decide +kernel
theorem dL_law_753 : decode cL_law 753 = .ok (.laload, 1) := by decide +kernel
theorem dL_law_754 : decode cL_law 754 = .ok (.iload 6, 2) := by decide +kernel
theorem dL_law_756 : decode cL_law 756 = .ok (.i2l, 1) := by decide +kernel
theorem dL_law_757 : decode cL_law 757 = .ok (.lcmp, 1) := by decide +kernel
theorem dL_law_758 : decode cL_law 758 = .ok (.ifCond .eq 5, 3) := by decide +kernel
theorem dL_law_761 : decode cL_law 761 = .ok (.iconst 0, 1) := by decide +kernel
theorem dL_law_762 : decode cL_law 762 = .ok (.ireturn, 1) := by decide +kernel
theorem dL_law_763 : decode cL_law 763 = .ok (.goto 2034, 3) := by decide +kernel
theorem dL_law_766 : decode cL_law 766 = .ok (.aload_n 1, 1) := by decide +kernel
theorem dL_law_767 : decode cL_law 767 = .ok (.aload_n 0, 1) := by decide +kernel
theorem dL_law_768 : decode cL_law 768 = .ok (.iload 4, 2) := by decide +kernel
theorem dL_law_770 : decode cL_law 770 = .ok (.iconst 1, 1) := by decide +kernel
theorem dL_law_771 : decode cL_law 771 = .ok (.iadd, 1) := by decide +kernel
theorem dL_law_772 : decode cL_law 772 = .ok (.iaload, 1) := by decide +kernel
theorem dL_law_773 : decode cL_law 773 = .ok (.aload_n 0, 1) := by decide +kernel
theorem dL_law_774 : decode cL_law 774 = .ok (.iload 4, 2) := by decide +kernel
theorem dL_law_776 : decode cL_law 776 = .ok (.iconst 2, 1) := by decide +kernel
theorem dL_law_777 : decode cL_law 777 = .ok (.iadd, 1) := by decide +kernel
theorem dL_law_778 : decode cL_law 778 = .ok (.iaload, 1) := by decide +kernel
theorem dL_law_779 : decode cL_law 779 = .ok (.aload_n 3, 1) := by decide +kernel
theorem dL_law_780 : decode cL_law 780 = .ok (.invokestatic 172, 3) := by decide +kernel
theorem dL_law_783 : decode cL_law 783 = .ok (.istore 5, 2) := by decide +kernel
theorem dL_law_785 : decode cL_law 785 = .ok (.aload_n 2, 1) := by decide +kernel
theorem dL_law_786 : decode cL_law 786 = .ok (.aload_n 0, 1) := by decide +kernel
theorem dL_law_787 : decode cL_law 787 = .ok (.iload 4, 2) := by decide +kernel
theorem dL_law_789 : decode cL_law 789 = .ok (.iconst 1, 1) := by decide +kernel
theorem dL_law_790 : decode cL_law 790 = .ok (.iadd, 1) := by decide +kernel
theorem dL_law_791 : decode cL_law 791 = .ok (.iaload, 1) := by decide +kernel
theorem dL_law_792 : decode cL_law 792 = .ok (.aload_n 0, 1) := by decide +kernel
theorem dL_law_793 : decode cL_law 793 = .ok (.iload 4, 2) := by decide +kernel
theorem dL_law_795 : decode cL_law 795 = .ok (.iconst 2, 1) := by decide +kernel
theorem dL_law_796 : decode cL_law 796 = .ok (.iadd, 1) := by decide +kernel
theorem dL_law_797 : decode cL_law 797 = .ok (.iaload, 1) := by decide +kernel
theorem dL_law_798 : decode cL_law 798 = .ok (.invokevirtual 175, 3) := by decide +kernel
theorem dL_law_801 : decode cL_law 801 = .ok (.istore 6, 2) := by decide +kernel
theorem dL_law_803 : decode cL_law 803 = .ok (.aload_n 2, 1) := by decide +kernel
theorem dL_law_804 : decode cL_law 804 = .ok (.invokevirtual 144, 3) := by decide +kernel
theorem dL_law_807 : decode cL_law 807 = .ok (.iload 5, 2) := by decide +kernel
theorem dL_law_809 : decode cL_law 809 = .ok (.if_icmp .eq 5, 3) := by decide +kernel
theorem dL_law_812 : decode cL_law 812 = .ok (.iconst 0, 1) := by decide +kernel
theorem dL_law_813 : decode cL_law 813 = .ok (.ireturn, 1) := by decide +kernel
theorem dL_law_814 : decode cL_law 814 = .ok (.iload 5, 2) := by decide +kernel
theorem dL_law_816 : decode cL_law 816 = .ok (.ifCond .ne 15, 3) := by decide +kernel
theorem dL_law_819 : decode cL_law 819 = .ok (.aload_n 3, 1) := by decide +kernel
theorem dL_law_820 : decode cL_law 820 = .ok (.iconst 0, 1) := by decide +kernel
theorem dL_law_821 : decode cL_law 821 = .ok (.laload, 1) := by decide +kernel
theorem dL_law_822 : decode cL_law 822 = .ok (.iload 6, 2) := by decide +kernel
theorem dL_law_824 : decode cL_law 824 = .ok (.i2l, 1) := by decide +kernel
theorem dL_law_825 : decode cL_law 825 = .ok (.lcmp, 1) := by decide +kernel
theorem dL_law_826 : decode cL_law 826 = .ok (.ifCond .eq 5, 3) := by decide +kernel
theorem dL_law_829 : decode cL_law 829 = .ok (.iconst 0, 1) := by decide +kernel
theorem dL_law_830 : decode cL_law 830 = .ok (.ireturn, 1) := by decide +kernel
theorem dL_law_831 : decode cL_law 831 = .ok (.goto 1966, 3) := by decide +kernel
theorem dL_law_834 : decode cL_law 834 = .ok (.aload_n 1, 1) := by decide +kernel
theorem dL_law_835 : decode cL_law 835 = .ok (.aload_n 0, 1) := by decide +kernel
theorem dL_law_836 : decode cL_law 836 = .ok (.iload 4, 2) := by decide +kernel
theorem dL_law_838 : decode cL_law 838 = .ok (.iconst 1, 1) := by decide +kernel
theorem dL_law_839 : decode cL_law 839 = .ok (.iadd, 1) := by decide +kernel
theorem dL_law_840 : decode cL_law 840 = .ok (.iaload, 1) := by decide +kernel
theorem dL_law_841 : decode cL_law 841 = .ok (.aload_n 3, 1) := by decide +kernel
theorem dL_law_842 : decode cL_law 842 = .ok (.invokestatic 176, 3) := by decide +kernel
theorem dL_law_845 : decode cL_law 845 = .ok (.istore 5, 2) := by decide +kernel
theorem dL_law_847 : decode cL_law 847 = .ok (.aload_n 2, 1) := by decide +kernel
theorem dL_law_848 : decode cL_law 848 = .ok (.aload_n 0, 1) := by decide +kernel
theorem dL_law_849 : decode cL_law 849 = .ok (.iload 4, 2) := by decide +kernel
theorem dL_law_851 : decode cL_law 851 = .ok (.iconst 1, 1) := by decide +kernel
theorem dL_law_852 : decode cL_law 852 = .ok (.iadd, 1) := by decide +kernel
theorem dL_law_853 : decode cL_law 853 = .ok (.iaload, 1) := by decide +kernel
theorem dL_law_854 : decode cL_law 854 = .ok (.invokevirtual 178, 3) := by decide +kernel
theorem dL_law_857 : decode cL_law 857 = .ok (.istore 6, 2) := by decide +kernel
theorem dL_law_859 : decode cL_law 859 = .ok (.aload_n 2, 1) := by decide +kernel
theorem dL_law_860 : decode cL_law 860 = .ok (.invokevirtual 144, 3) := by decide +kernel
theorem dL_law_863 : decode cL_law 863 = .ok (.iload 5, 2) := by decide +kernel
theorem dL_law_865 : decode cL_law 865 = .ok (.if_icmp .eq 5, 3) := by decide +kernel
theorem dL_law_868 : decode cL_law 868 = .ok (.iconst 0, 1) := by decide +kernel
theorem dL_law_869 : decode cL_law 869 = .ok (.ireturn, 1) := by decide +kernel
theorem dL_law_870 : decode cL_law 870 = .ok (.iload 5, 2) := by decide +kernel
theorem dL_law_872 : decode cL_law 872 = .ok (.ifCond .ne 15, 3) := by decide +kernel
theorem dL_law_875 : decode cL_law 875 = .ok (.aload_n 3, 1) := by decide +kernel
theorem dL_law_876 : decode cL_law 876 = .ok (.iconst 0, 1) := by decide +kernel
theorem dL_law_877 : decode cL_law 877 = .ok (.laload, 1) := by decide +kernel
theorem dL_law_878 : decode cL_law 878 = .ok (.iload 6, 2) := by decide +kernel
theorem dL_law_880 : decode cL_law 880 = .ok (.i2l, 1) := by decide +kernel
theorem dL_law_881 : decode cL_law 881 = .ok (.lcmp, 1) := by decide +kernel
theorem dL_law_882 : decode cL_law 882 = .ok (.ifCond .eq 5, 3) := by decide +kernel
theorem dL_law_885 : decode cL_law 885 = .ok (.iconst 0, 1) := by decide +kernel
theorem dL_law_886 : decode cL_law 886 = .ok (.ireturn, 1) := by decide +kernel
theorem dL_law_887 : decode cL_law 887 = .ok (.goto 1910, 3) := by decide +kernel
theorem dL_law_890 : decode cL_law 890 = .ok (.aload_n 1, 1) := by decide +kernel
theorem dL_law_891 : decode cL_law 891 = .ok (.aload_n 0, 1) := by decide +kernel
theorem dL_law_892 : decode cL_law 892 = .ok (.iload 4, 2) := by decide +kernel
theorem dL_law_894 : decode cL_law 894 = .ok (.iconst 1, 1) := by decide +kernel
theorem dL_law_895 : decode cL_law 895 = .ok (.iadd, 1) := by decide +kernel
theorem dL_law_896 : decode cL_law 896 = .ok (.iaload, 1) := by decide +kernel
theorem dL_law_897 : decode cL_law 897 = .ok (.aload_n 3, 1) := by decide +kernel
theorem dL_law_898 : decode cL_law 898 = .ok (.invokestatic 179, 3) := by decide +kernel
theorem dL_law_901 : decode cL_law 901 = .ok (.istore 5, 2) := by decide +kernel
theorem dL_law_903 : decode cL_law 903 = .ok (.aload_n 2, 1) := by decide +kernel
theorem dL_law_904 : decode cL_law 904 = .ok (.aload_n 0, 1) := by decide +kernel
theorem dL_law_905 : decode cL_law 905 = .ok (.iload 4, 2) := by decide +kernel
theorem dL_law_907 : decode cL_law 907 = .ok (.iconst 1, 1) := by decide +kernel
theorem dL_law_908 : decode cL_law 908 = .ok (.iadd, 1) := by decide +kernel
theorem dL_law_909 : decode cL_law 909 = .ok (.iaload, 1) := by decide +kernel
theorem dL_law_910 : decode cL_law 910 = .ok (.invokevirtual 181, 3) := by decide +kernel
theorem dL_law_913 : decode cL_law 913 = .ok (.istore 6, 2) := by decide +kernel
theorem dL_law_915 : decode cL_law 915 = .ok (.aload_n 2, 1) := by decide +kernel
theorem dL_law_916 : decode cL_law 916 = .ok (.invokevirtual 144, 3) := by decide +kernel
theorem dL_law_919 : decode cL_law 919 = .ok (.iload 5, 2) := by decide +kernel
theorem dL_law_921 : decode cL_law 921 = .ok (.if_icmp .eq 5, 3) := by decide +kernel
theorem dL_law_924 : decode cL_law 924 = .ok (.iconst 0, 1) := by decide +kernel
theorem dL_law_925 : decode cL_law 925 = .ok (.ireturn, 1) := by decide +kernel
theorem dL_law_926 : decode cL_law 926 = .ok (.iload 5, 2) := by decide +kernel
theorem dL_law_928 : decode cL_law 928 = .ok (.ifCond .ne 22, 3) := by decide +kernel
theorem dL_law_931 : decode cL_law 931 = .ok (.aload_n 3, 1) := by decide +kernel
theorem dL_law_932 : decode cL_law 932 = .ok (.iconst 0, 1) := by decide +kernel
theorem dL_law_933 : decode cL_law 933 = .ok (.laload, 1) := by decide +kernel
theorem dL_law_934 : decode cL_law 934 = .ok (.iload 6, 2) := by decide +kernel
theorem dL_law_936 : decode cL_law 936 = .ok (.ifCond .eq 7, 3) := by decide +kernel
theorem dL_law_939 : decode cL_law 939 = .ok (.lconst 1, 1) := by decide +kernel
theorem dL_law_940 : decode cL_law 940 = .ok (.goto 4, 3) := by decide +kernel
theorem dL_law_943 : decode cL_law 943 = .ok (.lconst 0, 1) := by decide +kernel
theorem dL_law_944 : decode cL_law 944 = .ok (.lcmp, 1) := by decide +kernel
theorem dL_law_945 : decode cL_law 945 = .ok (.ifCond .eq 5, 3) := by decide +kernel
theorem dL_law_948 : decode cL_law 948 = .ok (.iconst 0, 1) := by decide +kernel
theorem dL_law_949 : decode cL_law 949 = .ok (.ireturn, 1) := by decide +kernel
theorem dL_law_950 : decode cL_law 950 = .ok (.goto 1847, 3) := by decide +kernel
theorem dL_law_953 : decode cL_law 953 = .ok (.aload_n 1, 1) := by decide +kernel
theorem dL_law_954 : decode cL_law 954 = .ok (.aload_n 0, 1) := by decide +kernel
theorem dL_law_955 : decode cL_law 955 = .ok (.iload 4, 2) := by decide +kernel
theorem dL_law_957 : decode cL_law 957 = .ok (.iconst 1, 1) := by decide +kernel
theorem dL_law_958 : decode cL_law 958 = .ok (.iadd, 1) := by decide +kernel
theorem dL_law_959 : decode cL_law 959 = .ok (.iaload, 1) := by decide +kernel
theorem dL_law_960 : decode cL_law 960 = .ok (.aload_n 0, 1) := by decide +kernel
theorem dL_law_961 : decode cL_law 961 = .ok (.iload 4, 2) := by decide +kernel
theorem dL_law_963 : decode cL_law 963 = .ok (.iconst 2, 1) := by decide +kernel
theorem dL_law_964 : decode cL_law 964 = .ok (.iadd, 1) := by decide +kernel
theorem dL_law_965 : decode cL_law 965 = .ok (.iaload, 1) := by decide +kernel
theorem dL_law_966 : decode cL_law 966 = .ok (.aload_n 0, 1) := by decide +kernel
theorem dL_law_967 : decode cL_law 967 = .ok (.iload 4, 2) := by decide +kernel
theorem dL_law_969 : decode cL_law 969 = .ok (.iconst 3, 1) := by decide +kernel
theorem dL_law_970 : decode cL_law 970 = .ok (.iadd, 1) := by decide +kernel
theorem dL_law_971 : decode cL_law 971 = .ok (.iaload, 1) := by decide +kernel
theorem dL_law_972 : decode cL_law 972 = .ok (.aload_n 3, 1) := by decide +kernel
theorem dL_law_973 : decode cL_law 973 = .ok (.invokestatic 182, 3) := by decide +kernel
theorem dL_law_976 : decode cL_law 976 = .ok (.istore 5, 2) := by decide +kernel
theorem dL_law_978 : decode cL_law 978 = .ok (.aload_n 2, 1) := by decide +kernel
theorem dL_law_979 : decode cL_law 979 = .ok (.aload_n 0, 1) := by decide +kernel
theorem dL_law_980 : decode cL_law 980 = .ok (.iload 4, 2) := by decide +kernel
theorem dL_law_982 : decode cL_law 982 = .ok (.iconst 1, 1) := by decide +kernel
theorem dL_law_983 : decode cL_law 983 = .ok (.iadd, 1) := by decide +kernel
theorem dL_law_984 : decode cL_law 984 = .ok (.iaload, 1) := by decide +kernel
theorem dL_law_985 : decode cL_law 985 = .ok (.aload_n 0, 1) := by decide +kernel
theorem dL_law_986 : decode cL_law 986 = .ok (.iload 4, 2) := by decide +kernel
theorem dL_law_988 : decode cL_law 988 = .ok (.iconst 2, 1) := by decide +kernel
theorem dL_law_989 : decode cL_law 989 = .ok (.iadd, 1) := by decide +kernel
theorem dL_law_990 : decode cL_law 990 = .ok (.iaload, 1) := by decide +kernel
theorem dL_law_991 : decode cL_law 991 = .ok (.aload_n 0, 1) := by decide +kernel
theorem dL_law_992 : decode cL_law 992 = .ok (.iload 4, 2) := by decide +kernel
theorem dL_law_994 : decode cL_law 994 = .ok (.iconst 3, 1) := by decide +kernel
theorem dL_law_995 : decode cL_law 995 = .ok (.iadd, 1) := by decide +kernel
theorem dL_law_996 : decode cL_law 996 = .ok (.iaload, 1) := by decide +kernel
theorem dL_law_997 : decode cL_law 997 = .ok (.invokevirtual 184, 3) := by decide +kernel
theorem dL_law_1000 : decode cL_law 1000 = .ok (.istore 6, 2) := by decide +kernel
theorem dL_law_1002 : decode cL_law 1002 = .ok (.aload_n 2, 1) := by decide +kernel
theorem dL_law_1003 : decode cL_law 1003 = .ok (.invokevirtual 144, 3) := by decide +kernel
theorem dL_law_1006 : decode cL_law 1006 = .ok (.iload 5, 2) := by decide +kernel
theorem dL_law_1008 : decode cL_law 1008 = .ok (.if_icmp .eq 5, 3) := by decide +kernel
theorem dL_law_1011 : decode cL_law 1011 = .ok (.iconst 0, 1) := by decide +kernel
theorem dL_law_1012 : decode cL_law 1012 = .ok (.ireturn, 1) := by decide +kernel
theorem dL_law_1013 : decode cL_law 1013 = .ok (.iload 5, 2) := by decide +kernel
theorem dL_law_1015 : decode cL_law 1015 = .ok (.ifCond .ne 15, 3) := by decide +kernel
theorem dL_law_1018 : decode cL_law 1018 = .ok (.aload_n 3, 1) := by decide +kernel
theorem dL_law_1019 : decode cL_law 1019 = .ok (.iconst 0, 1) := by decide +kernel
theorem dL_law_1020 : decode cL_law 1020 = .ok (.laload, 1) := by decide +kernel
theorem dL_law_1021 : decode cL_law 1021 = .ok (.iload 6, 2) := by decide +kernel
theorem dL_law_1023 : decode cL_law 1023 = .ok (.i2l, 1) := by decide +kernel
theorem dL_law_1024 : decode cL_law 1024 = .ok (.lcmp, 1) := by decide +kernel
theorem dL_law_1025 : decode cL_law 1025 = .ok (.ifCond .eq 5, 3) := by decide +kernel
theorem dL_law_1028 : decode cL_law 1028 = .ok (.iconst 0, 1) := by decide +kernel
theorem dL_law_1029 : decode cL_law 1029 = .ok (.ireturn, 1) := by decide +kernel
theorem dL_law_1030 : decode cL_law 1030 = .ok (.goto 1767, 3) := by decide +kernel
theorem dL_law_1033 : decode cL_law 1033 = .ok (.aload_n 1, 1) := by decide +kernel
theorem dL_law_1034 : decode cL_law 1034 = .ok (.aload_n 0, 1) := by decide +kernel
theorem dL_law_1035 : decode cL_law 1035 = .ok (.iload 4, 2) := by decide +kernel
theorem dL_law_1037 : decode cL_law 1037 = .ok (.iconst 1, 1) := by decide +kernel
theorem dL_law_1038 : decode cL_law 1038 = .ok (.iadd, 1) := by decide +kernel
theorem dL_law_1039 : decode cL_law 1039 = .ok (.iaload, 1) := by decide +kernel
theorem dL_law_1040 : decode cL_law 1040 = .ok (.aload_n 3, 1) := by decide +kernel
theorem dL_law_1041 : decode cL_law 1041 = .ok (.invokestatic 185, 3) := by decide +kernel
theorem dL_law_1044 : decode cL_law 1044 = .ok (.istore 5, 2) := by decide +kernel
theorem dL_law_1046 : decode cL_law 1046 = .ok (.aload_n 2, 1) := by decide +kernel
theorem dL_law_1047 : decode cL_law 1047 = .ok (.aload_n 0, 1) := by decide +kernel
theorem dL_law_1048 : decode cL_law 1048 = .ok (.iload 4, 2) := by decide +kernel
theorem dL_law_1050 : decode cL_law 1050 = .ok (.iconst 1, 1) := by decide +kernel
theorem dL_law_1051 : decode cL_law 1051 = .ok (.iadd, 1) := by decide +kernel
theorem dL_law_1052 : decode cL_law 1052 = .ok (.iaload, 1) := by decide +kernel
theorem dL_law_1053 : decode cL_law 1053 = .ok (.invokevirtual 187, 3) := by decide +kernel
theorem dL_law_1056 : decode cL_law 1056 = .ok (.istore 6, 2) := by decide +kernel
theorem dL_law_1058 : decode cL_law 1058 = .ok (.aload_n 2, 1) := by decide +kernel
theorem dL_law_1059 : decode cL_law 1059 = .ok (.invokevirtual 144, 3) := by decide +kernel
theorem dL_law_1062 : decode cL_law 1062 = .ok (.iload 5, 2) := by decide +kernel
theorem dL_law_1064 : decode cL_law 1064 = .ok (.if_icmp .eq 5, 3) := by decide +kernel
theorem dL_law_1067 : decode cL_law 1067 = .ok (.iconst 0, 1) := by decide +kernel
theorem dL_law_1068 : decode cL_law 1068 = .ok (.ireturn, 1) := by decide +kernel
theorem dL_law_1069 : decode cL_law 1069 = .ok (.iload 5, 2) := by decide +kernel
theorem dL_law_1071 : decode cL_law 1071 = .ok (.ifCond .ne 15, 3) := by decide +kernel
theorem dL_law_1074 : decode cL_law 1074 = .ok (.aload_n 3, 1) := by decide +kernel
theorem dL_law_1075 : decode cL_law 1075 = .ok (.iconst 0, 1) := by decide +kernel
theorem dL_law_1076 : decode cL_law 1076 = .ok (.laload, 1) := by decide +kernel
theorem dL_law_1077 : decode cL_law 1077 = .ok (.iload 6, 2) := by decide +kernel
theorem dL_law_1079 : decode cL_law 1079 = .ok (.i2l, 1) := by decide +kernel
theorem dL_law_1080 : decode cL_law 1080 = .ok (.lcmp, 1) := by decide +kernel
theorem dL_law_1081 : decode cL_law 1081 = .ok (.ifCond .eq 5, 3) := by decide +kernel
theorem dL_law_1084 : decode cL_law 1084 = .ok (.iconst 0, 1) := by decide +kernel
theorem dL_law_1085 : decode cL_law 1085 = .ok (.ireturn, 1) := by decide +kernel
theorem dL_law_1086 : decode cL_law 1086 = .ok (.goto 1711, 3) := by decide +kernel
theorem dL_law_1089 : decode cL_law 1089 = .ok (.aload_n 1, 1) := by decide +kernel
theorem dL_law_1090 : decode cL_law 1090 = .ok (.aload_n 3, 1) := by decide +kernel
theorem dL_law_1091 : decode cL_law 1091 = .ok (.invokestatic 188, 3) := by decide +kernel
theorem dL_law_1094 : decode cL_law 1094 = .ok (.istore 5, 2) := by decide +kernel
theorem dL_law_1096 : decode cL_law 1096 = .ok (.aload_n 2, 1) := by decide +kernel
theorem dL_law_1097 : decode cL_law 1097 = .ok (.invokevirtual 191, 3) := by decide +kernel
theorem dL_law_1100 : decode cL_law 1100 = .ok (.istore 6, 2) := by decide +kernel
theorem dL_law_1102 : decode cL_law 1102 = .ok (.aload_n 2, 1) := by decide +kernel
theorem dL_law_1103 : decode cL_law 1103 = .ok (.invokevirtual 144, 3) := by decide +kernel
theorem dL_law_1106 : decode cL_law 1106 = .ok (.iload 5, 2) := by decide +kernel
theorem dL_law_1108 : decode cL_law 1108 = .ok (.if_icmp .eq 5, 3) := by decide +kernel
theorem dL_law_1111 : decode cL_law 1111 = .ok (.iconst 0, 1) := by decide +kernel
theorem dL_law_1112 : decode cL_law 1112 = .ok (.ireturn, 1) := by decide +kernel
theorem dL_law_1113 : decode cL_law 1113 = .ok (.iload 5, 2) := by decide +kernel
theorem dL_law_1115 : decode cL_law 1115 = .ok (.ifCond .ne 15, 3) := by decide +kernel
theorem dL_law_1118 : decode cL_law 1118 = .ok (.aload_n 3, 1) := by decide +kernel
theorem dL_law_1119 : decode cL_law 1119 = .ok (.iconst 0, 1) := by decide +kernel
theorem dL_law_1120 : decode cL_law 1120 = .ok (.laload, 1) := by decide +kernel
theorem dL_law_1121 : decode cL_law 1121 = .ok (.iload 6, 2) := by decide +kernel
theorem dL_law_1123 : decode cL_law 1123 = .ok (.i2l, 1) := by decide +kernel
theorem dL_law_1124 : decode cL_law 1124 = .ok (.lcmp, 1) := by decide +kernel
theorem dL_law_1125 : decode cL_law 1125 = .ok (.ifCond .eq 5, 3) := by decide +kernel
theorem dL_law_1128 : decode cL_law 1128 = .ok (.iconst 0, 1) := by decide +kernel
theorem dL_law_1129 : decode cL_law 1129 = .ok (.ireturn, 1) := by decide +kernel
theorem dL_law_1130 : decode cL_law 1130 = .ok (.goto 1667, 3) := by decide +kernel
theorem dL_law_1133 : decode cL_law 1133 = .ok (.aload_n 1, 1) := by decide +kernel
theorem dL_law_1134 : decode cL_law 1134 = .ok (.aload_n 0, 1) := by decide +kernel
theorem dL_law_1135 : decode cL_law 1135 = .ok (.iload 4, 2) := by decide +kernel
theorem dL_law_1137 : decode cL_law 1137 = .ok (.iconst 1, 1) := by decide +kernel
theorem dL_law_1138 : decode cL_law 1138 = .ok (.iadd, 1) := by decide +kernel
theorem dL_law_1139 : decode cL_law 1139 = .ok (.iaload, 1) := by decide +kernel
theorem dL_law_1140 : decode cL_law 1140 = .ok (.aload_n 3, 1) := by decide +kernel
theorem dL_law_1141 : decode cL_law 1141 = .ok (.invokestatic 192, 3) := by decide +kernel
theorem dL_law_1144 : decode cL_law 1144 = .ok (.istore 5, 2) := by decide +kernel
theorem dL_law_1146 : decode cL_law 1146 = .ok (.aload_n 2, 1) := by decide +kernel
theorem dL_law_1147 : decode cL_law 1147 = .ok (.aload_n 0, 1) := by decide +kernel
theorem dL_law_1148 : decode cL_law 1148 = .ok (.iload 4, 2) := by decide +kernel
theorem dL_law_1150 : decode cL_law 1150 = .ok (.iconst 1, 1) := by decide +kernel
theorem dL_law_1151 : decode cL_law 1151 = .ok (.iadd, 1) := by decide +kernel
theorem dL_law_1152 : decode cL_law 1152 = .ok (.iaload, 1) := by decide +kernel
theorem dL_law_1153 : decode cL_law 1153 = .ok (.invokevirtual 194, 3) := by decide +kernel
theorem dL_law_1156 : decode cL_law 1156 = .ok (.istore 6, 2) := by decide +kernel
theorem dL_law_1158 : decode cL_law 1158 = .ok (.aload_n 2, 1) := by decide +kernel
theorem dL_law_1159 : decode cL_law 1159 = .ok (.invokevirtual 144, 3) := by decide +kernel
theorem dL_law_1162 : decode cL_law 1162 = .ok (.iload 5, 2) := by decide +kernel
theorem dL_law_1164 : decode cL_law 1164 = .ok (.if_icmp .eq 5, 3) := by decide +kernel
theorem dL_law_1167 : decode cL_law 1167 = .ok (.iconst 0, 1) := by decide +kernel
theorem dL_law_1168 : decode cL_law 1168 = .ok (.ireturn, 1) := by decide +kernel
theorem dL_law_1169 : decode cL_law 1169 = .ok (.iload 5, 2) := by decide +kernel
theorem dL_law_1171 : decode cL_law 1171 = .ok (.ifCond .ne 15, 3) := by decide +kernel
theorem dL_law_1174 : decode cL_law 1174 = .ok (.aload_n 3, 1) := by decide +kernel
theorem dL_law_1175 : decode cL_law 1175 = .ok (.iconst 0, 1) := by decide +kernel
theorem dL_law_1176 : decode cL_law 1176 = .ok (.laload, 1) := by decide +kernel
theorem dL_law_1177 : decode cL_law 1177 = .ok (.iload 6, 2) := by decide +kernel
theorem dL_law_1179 : decode cL_law 1179 = .ok (.i2l, 1) := by decide +kernel
theorem dL_law_1180 : decode cL_law 1180 = .ok (.lcmp, 1) := by decide +kernel
theorem dL_law_1181 : decode cL_law 1181 = .ok (.ifCond .eq 5, 3) := by decide +kernel
theorem dL_law_1184 : decode cL_law 1184 = .ok (.iconst 0, 1) := by decide +kernel
theorem dL_law_1185 : decode cL_law 1185 = .ok (.ireturn, 1) := by decide +kernel
theorem dL_law_1186 : decode cL_law 1186 = .ok (.goto 1611, 3) := by decide +kernel
theorem dL_law_1189 : decode cL_law 1189 = .ok (.aload_n 1, 1) := by decide +kernel
theorem dL_law_1190 : decode cL_law 1190 = .ok (.aload_n 0, 1) := by decide +kernel
theorem dL_law_1191 : decode cL_law 1191 = .ok (.iload 4, 2) := by decide +kernel
theorem dL_law_1193 : decode cL_law 1193 = .ok (.iconst 1, 1) := by decide +kernel
theorem dL_law_1194 : decode cL_law 1194 = .ok (.iadd, 1) := by decide +kernel
theorem dL_law_1195 : decode cL_law 1195 = .ok (.iaload, 1) := by decide +kernel
theorem dL_law_1196 : decode cL_law 1196 = .ok (.aload_n 0, 1) := by decide +kernel
theorem dL_law_1197 : decode cL_law 1197 = .ok (.iload 4, 2) := by decide +kernel
theorem dL_law_1199 : decode cL_law 1199 = .ok (.iconst 2, 1) := by decide +kernel
theorem dL_law_1200 : decode cL_law 1200 = .ok (.iadd, 1) := by decide +kernel
theorem dL_law_1201 : decode cL_law 1201 = .ok (.iaload, 1) := by decide +kernel
theorem dL_law_1202 : decode cL_law 1202 = .ok (.aload_n 0, 1) := by decide +kernel
theorem dL_law_1203 : decode cL_law 1203 = .ok (.iload 4, 2) := by decide +kernel
theorem dL_law_1205 : decode cL_law 1205 = .ok (.iconst 3, 1) := by decide +kernel
theorem dL_law_1206 : decode cL_law 1206 = .ok (.iadd, 1) := by decide +kernel
theorem dL_law_1207 : decode cL_law 1207 = .ok (.iaload, 1) := by decide +kernel
theorem dL_law_1208 : decode cL_law 1208 = .ok (.aload_n 3, 1) := by decide +kernel
theorem dL_law_1209 : decode cL_law 1209 = .ok (.invokestatic 195, 3) := by decide +kernel
theorem dL_law_1212 : decode cL_law 1212 = .ok (.istore 5, 2) := by decide +kernel
theorem dL_law_1214 : decode cL_law 1214 = .ok (.aload_n 2, 1) := by decide +kernel
theorem dL_law_1215 : decode cL_law 1215 = .ok (.aload_n 0, 1) := by decide +kernel
theorem dL_law_1216 : decode cL_law 1216 = .ok (.iload 4, 2) := by decide +kernel
theorem dL_law_1218 : decode cL_law 1218 = .ok (.iconst 1, 1) := by decide +kernel
theorem dL_law_1219 : decode cL_law 1219 = .ok (.iadd, 1) := by decide +kernel
theorem dL_law_1220 : decode cL_law 1220 = .ok (.iaload, 1) := by decide +kernel
theorem dL_law_1221 : decode cL_law 1221 = .ok (.aload_n 0, 1) := by decide +kernel
theorem dL_law_1222 : decode cL_law 1222 = .ok (.iload 4, 2) := by decide +kernel
theorem dL_law_1224 : decode cL_law 1224 = .ok (.iconst 2, 1) := by decide +kernel
theorem dL_law_1225 : decode cL_law 1225 = .ok (.iadd, 1) := by decide +kernel
theorem dL_law_1226 : decode cL_law 1226 = .ok (.iaload, 1) := by decide +kernel
theorem dL_law_1227 : decode cL_law 1227 = .ok (.aload_n 0, 1) := by decide +kernel
theorem dL_law_1228 : decode cL_law 1228 = .ok (.iload 4, 2) := by decide +kernel
theorem dL_law_1230 : decode cL_law 1230 = .ok (.iconst 3, 1) := by decide +kernel
theorem dL_law_1231 : decode cL_law 1231 = .ok (.iadd, 1) := by decide +kernel
theorem dL_law_1232 : decode cL_law 1232 = .ok (.iaload, 1) := by decide +kernel
theorem dL_law_1233 : decode cL_law 1233 = .ok (.invokevirtual 197, 3) := by decide +kernel
theorem dL_law_1236 : decode cL_law 1236 = .ok (.istore 6, 2) := by decide +kernel
theorem dL_law_1238 : decode cL_law 1238 = .ok (.aload_n 2, 1) := by decide +kernel
theorem dL_law_1239 : decode cL_law 1239 = .ok (.invokevirtual 144, 3) := by decide +kernel
theorem dL_law_1242 : decode cL_law 1242 = .ok (.iload 5, 2) := by decide +kernel
theorem dL_law_1244 : decode cL_law 1244 = .ok (.if_icmp .eq 5, 3) := by decide +kernel
theorem dL_law_1247 : decode cL_law 1247 = .ok (.iconst 0, 1) := by decide +kernel
theorem dL_law_1248 : decode cL_law 1248 = .ok (.ireturn, 1) := by decide +kernel
theorem dL_law_1249 : decode cL_law 1249 = .ok (.iload 5, 2) := by decide +kernel
theorem dL_law_1251 : decode cL_law 1251 = .ok (.ifCond .ne 22, 3) := by decide +kernel
theorem dL_law_1254 : decode cL_law 1254 = .ok (.aload_n 3, 1) := by decide +kernel
theorem dL_law_1255 : decode cL_law 1255 = .ok (.iconst 0, 1) := by decide +kernel
theorem dL_law_1256 : decode cL_law 1256 = .ok (.laload, 1) := by decide +kernel
theorem dL_law_1257 : decode cL_law 1257 = .ok (.iload 6, 2) := by decide +kernel
theorem dL_law_1259 : decode cL_law 1259 = .ok (.ifCond .eq 7, 3) := by decide +kernel
theorem dL_law_1262 : decode cL_law 1262 = .ok (.lconst 1, 1) := by decide +kernel
theorem dL_law_1263 : decode cL_law 1263 = .ok (.goto 4, 3) := by decide +kernel
theorem dL_law_1266 : decode cL_law 1266 = .ok (.lconst 0, 1) := by decide +kernel
theorem dL_law_1267 : decode cL_law 1267 = .ok (.lcmp, 1) := by decide +kernel
theorem dL_law_1268 : decode cL_law 1268 = .ok (.ifCond .eq 5, 3) := by decide +kernel
theorem dL_law_1271 : decode cL_law 1271 = .ok (.iconst 0, 1) := by decide +kernel
theorem dL_law_1272 : decode cL_law 1272 = .ok (.ireturn, 1) := by decide +kernel
theorem dL_law_1273 : decode cL_law 1273 = .ok (.goto 1524, 3) := by decide +kernel
theorem dL_law_1276 : decode cL_law 1276 = .ok (.aload_n 1, 1) := by decide +kernel
theorem dL_law_1277 : decode cL_law 1277 = .ok (.aload_n 0, 1) := by decide +kernel
theorem dL_law_1278 : decode cL_law 1278 = .ok (.iload 4, 2) := by decide +kernel
theorem dL_law_1280 : decode cL_law 1280 = .ok (.iconst 1, 1) := by decide +kernel
theorem dL_law_1281 : decode cL_law 1281 = .ok (.iadd, 1) := by decide +kernel
theorem dL_law_1282 : decode cL_law 1282 = .ok (.iaload, 1) := by decide +kernel
theorem dL_law_1283 : decode cL_law 1283 = .ok (.aload_n 0, 1) := by decide +kernel
theorem dL_law_1284 : decode cL_law 1284 = .ok (.iload 4, 2) := by decide +kernel
theorem dL_law_1286 : decode cL_law 1286 = .ok (.iconst 2, 1) := by decide +kernel
theorem dL_law_1287 : decode cL_law 1287 = .ok (.iadd, 1) := by decide +kernel
theorem dL_law_1288 : decode cL_law 1288 = .ok (.iaload, 1) := by decide +kernel
theorem dL_law_1289 : decode cL_law 1289 = .ok (.aload_n 3, 1) := by decide +kernel
theorem dL_law_1290 : decode cL_law 1290 = .ok (.invokestatic 198, 3) := by decide +kernel
theorem dL_law_1293 : decode cL_law 1293 = .ok (.istore 5, 2) := by decide +kernel
theorem dL_law_1295 : decode cL_law 1295 = .ok (.aload_n 2, 1) := by decide +kernel
theorem dL_law_1296 : decode cL_law 1296 = .ok (.aload_n 0, 1) := by decide +kernel
theorem dL_law_1297 : decode cL_law 1297 = .ok (.iload 4, 2) := by decide +kernel
theorem dL_law_1299 : decode cL_law 1299 = .ok (.iconst 1, 1) := by decide +kernel
theorem dL_law_1300 : decode cL_law 1300 = .ok (.iadd, 1) := by decide +kernel
theorem dL_law_1301 : decode cL_law 1301 = .ok (.iaload, 1) := by decide +kernel
theorem dL_law_1302 : decode cL_law 1302 = .ok (.aload_n 0, 1) := by decide +kernel
theorem dL_law_1303 : decode cL_law 1303 = .ok (.iload 4, 2) := by decide +kernel
theorem dL_law_1305 : decode cL_law 1305 = .ok (.iconst 2, 1) := by decide +kernel
theorem dL_law_1306 : decode cL_law 1306 = .ok (.iadd, 1) := by decide +kernel
theorem dL_law_1307 : decode cL_law 1307 = .ok (.iaload, 1) := by decide +kernel
theorem dL_law_1308 : decode cL_law 1308 = .ok (.invokevirtual 200, 3) := by decide +kernel
theorem dL_law_1311 : decode cL_law 1311 = .ok (.istore 6, 2) := by decide +kernel
theorem dL_law_1313 : decode cL_law 1313 = .ok (.aload_n 2, 1) := by decide +kernel
theorem dL_law_1314 : decode cL_law 1314 = .ok (.invokevirtual 144, 3) := by decide +kernel
theorem dL_law_1317 : decode cL_law 1317 = .ok (.iload 5, 2) := by decide +kernel
theorem dL_law_1319 : decode cL_law 1319 = .ok (.if_icmp .eq 5, 3) := by decide +kernel
theorem dL_law_1322 : decode cL_law 1322 = .ok (.iconst 0, 1) := by decide +kernel
theorem dL_law_1323 : decode cL_law 1323 = .ok (.ireturn, 1) := by decide +kernel
theorem dL_law_1324 : decode cL_law 1324 = .ok (.iload 5, 2) := by decide +kernel
theorem dL_law_1326 : decode cL_law 1326 = .ok (.ifCond .ne 15, 3) := by decide +kernel
theorem dL_law_1329 : decode cL_law 1329 = .ok (.aload_n 3, 1) := by decide +kernel
theorem dL_law_1330 : decode cL_law 1330 = .ok (.iconst 0, 1) := by decide +kernel
theorem dL_law_1331 : decode cL_law 1331 = .ok (.laload, 1) := by decide +kernel
theorem dL_law_1332 : decode cL_law 1332 = .ok (.iload 6, 2) := by decide +kernel
theorem dL_law_1334 : decode cL_law 1334 = .ok (.i2l, 1) := by decide +kernel
theorem dL_law_1335 : decode cL_law 1335 = .ok (.lcmp, 1) := by decide +kernel
theorem dL_law_1336 : decode cL_law 1336 = .ok (.ifCond .eq 5, 3) := by decide +kernel
theorem dL_law_1339 : decode cL_law 1339 = .ok (.iconst 0, 1) := by decide +kernel
theorem dL_law_1340 : decode cL_law 1340 = .ok (.ireturn, 1) := by decide +kernel
theorem dL_law_1341 : decode cL_law 1341 = .ok (.goto 1456, 3) := by decide +kernel
theorem dL_law_1344 : decode cL_law 1344 = .ok (.aload_n 1, 1) := by decide +kernel
theorem dL_law_1345 : decode cL_law 1345 = .ok (.aload_n 0, 1) := by decide +kernel
theorem dL_law_1346 : decode cL_law 1346 = .ok (.iload 4, 2) := by decide +kernel
theorem dL_law_1348 : decode cL_law 1348 = .ok (.iconst 1, 1) := by decide +kernel
theorem dL_law_1349 : decode cL_law 1349 = .ok (.iadd, 1) := by decide +kernel
theorem dL_law_1350 : decode cL_law 1350 = .ok (.iaload, 1) := by decide +kernel
theorem dL_law_1351 : decode cL_law 1351 = .ok (.aload_n 0, 1) := by decide +kernel
theorem dL_law_1352 : decode cL_law 1352 = .ok (.iload 4, 2) := by decide +kernel
theorem dL_law_1354 : decode cL_law 1354 = .ok (.iconst 2, 1) := by decide +kernel
theorem dL_law_1355 : decode cL_law 1355 = .ok (.iadd, 1) := by decide +kernel
theorem dL_law_1356 : decode cL_law 1356 = .ok (.iaload, 1) := by decide +kernel
theorem dL_law_1357 : decode cL_law 1357 = .ok (.aload_n 0, 1) := by decide +kernel
theorem dL_law_1358 : decode cL_law 1358 = .ok (.iload 4, 2) := by decide +kernel
theorem dL_law_1360 : decode cL_law 1360 = .ok (.iconst 3, 1) := by decide +kernel
theorem dL_law_1361 : decode cL_law 1361 = .ok (.iadd, 1) := by decide +kernel
theorem dL_law_1362 : decode cL_law 1362 = .ok (.iaload, 1) := by decide +kernel
theorem dL_law_1363 : decode cL_law 1363 = .ok (.aload_n 3, 1) := by decide +kernel
theorem dL_law_1364 : decode cL_law 1364 = .ok (.invokestatic 201, 3) := by decide +kernel
theorem dL_law_1367 : decode cL_law 1367 = .ok (.istore 5, 2) := by decide +kernel
theorem dL_law_1369 : decode cL_law 1369 = .ok (.aload_n 2, 1) := by decide +kernel
theorem dL_law_1370 : decode cL_law 1370 = .ok (.aload_n 0, 1) := by decide +kernel
theorem dL_law_1371 : decode cL_law 1371 = .ok (.iload 4, 2) := by decide +kernel
theorem dL_law_1373 : decode cL_law 1373 = .ok (.iconst 1, 1) := by decide +kernel
theorem dL_law_1374 : decode cL_law 1374 = .ok (.iadd, 1) := by decide +kernel
theorem dL_law_1375 : decode cL_law 1375 = .ok (.iaload, 1) := by decide +kernel
theorem dL_law_1376 : decode cL_law 1376 = .ok (.aload_n 0, 1) := by decide +kernel
theorem dL_law_1377 : decode cL_law 1377 = .ok (.iload 4, 2) := by decide +kernel
theorem dL_law_1379 : decode cL_law 1379 = .ok (.iconst 2, 1) := by decide +kernel
theorem dL_law_1380 : decode cL_law 1380 = .ok (.iadd, 1) := by decide +kernel
theorem dL_law_1381 : decode cL_law 1381 = .ok (.iaload, 1) := by decide +kernel
theorem dL_law_1382 : decode cL_law 1382 = .ok (.aload_n 0, 1) := by decide +kernel
theorem dL_law_1383 : decode cL_law 1383 = .ok (.iload 4, 2) := by decide +kernel
theorem dL_law_1385 : decode cL_law 1385 = .ok (.iconst 3, 1) := by decide +kernel
theorem dL_law_1386 : decode cL_law 1386 = .ok (.iadd, 1) := by decide +kernel
theorem dL_law_1387 : decode cL_law 1387 = .ok (.iaload, 1) := by decide +kernel
theorem dL_law_1388 : decode cL_law 1388 = .ok (.invokevirtual 203, 3) := by decide +kernel
theorem dL_law_1391 : decode cL_law 1391 = .ok (.istore 6, 2) := by decide +kernel
theorem dL_law_1393 : decode cL_law 1393 = .ok (.aload_n 2, 1) := by decide +kernel
theorem dL_law_1394 : decode cL_law 1394 = .ok (.invokevirtual 144, 3) := by decide +kernel
theorem dL_law_1397 : decode cL_law 1397 = .ok (.iload 5, 2) := by decide +kernel
theorem dL_law_1399 : decode cL_law 1399 = .ok (.if_icmp .eq 5, 3) := by decide +kernel
theorem dL_law_1402 : decode cL_law 1402 = .ok (.iconst 0, 1) := by decide +kernel
theorem dL_law_1403 : decode cL_law 1403 = .ok (.ireturn, 1) := by decide +kernel
theorem dL_law_1404 : decode cL_law 1404 = .ok (.iload 5, 2) := by decide +kernel
theorem dL_law_1406 : decode cL_law 1406 = .ok (.ifCond .ne 15, 3) := by decide +kernel
theorem dL_law_1409 : decode cL_law 1409 = .ok (.aload_n 3, 1) := by decide +kernel
theorem dL_law_1410 : decode cL_law 1410 = .ok (.iconst 0, 1) := by decide +kernel
theorem dL_law_1411 : decode cL_law 1411 = .ok (.laload, 1) := by decide +kernel
theorem dL_law_1412 : decode cL_law 1412 = .ok (.iload 6, 2) := by decide +kernel
theorem dL_law_1414 : decode cL_law 1414 = .ok (.i2l, 1) := by decide +kernel
theorem dL_law_1415 : decode cL_law 1415 = .ok (.lcmp, 1) := by decide +kernel
theorem dL_law_1416 : decode cL_law 1416 = .ok (.ifCond .eq 5, 3) := by decide +kernel
theorem dL_law_1419 : decode cL_law 1419 = .ok (.iconst 0, 1) := by decide +kernel
theorem dL_law_1420 : decode cL_law 1420 = .ok (.ireturn, 1) := by decide +kernel
theorem dL_law_1421 : decode cL_law 1421 = .ok (.goto 1376, 3) := by decide +kernel
theorem dL_law_1424 : decode cL_law 1424 = .ok (.aload_n 1, 1) := by decide +kernel
theorem dL_law_1425 : decode cL_law 1425 = .ok (.aload_n 0, 1) := by decide +kernel
theorem dL_law_1426 : decode cL_law 1426 = .ok (.iload 4, 2) := by decide +kernel
theorem dL_law_1428 : decode cL_law 1428 = .ok (.iconst 1, 1) := by decide +kernel
theorem dL_law_1429 : decode cL_law 1429 = .ok (.iadd, 1) := by decide +kernel
theorem dL_law_1430 : decode cL_law 1430 = .ok (.iaload, 1) := by decide +kernel
theorem dL_law_1431 : decode cL_law 1431 = .ok (.aload_n 0, 1) := by decide +kernel
theorem dL_law_1432 : decode cL_law 1432 = .ok (.iload 4, 2) := by decide +kernel
theorem dL_law_1434 : decode cL_law 1434 = .ok (.iconst 2, 1) := by decide +kernel
theorem dL_law_1435 : decode cL_law 1435 = .ok (.iadd, 1) := by decide +kernel
theorem dL_law_1436 : decode cL_law 1436 = .ok (.iaload, 1) := by decide +kernel
theorem dL_law_1437 : decode cL_law 1437 = .ok (.ifCond .eq 7, 3) := by decide +kernel
theorem dL_law_1440 : decode cL_law 1440 = .ok (.iconst 1, 1) := by decide +kernel
theorem dL_law_1441 : decode cL_law 1441 = .ok (.goto 4, 3) := by decide +kernel
theorem dL_law_1444 : decode cL_law 1444 = .ok (.iconst 0, 1) := by decide +kernel
theorem dL_law_1445 : decode cL_law 1445 = .ok (.aload_n 3, 1) := by decide +kernel
theorem dL_law_1446 : decode cL_law 1446 = .ok (.invokestatic 204, 3) := by decide +kernel
theorem dL_law_1449 : decode cL_law 1449 = .ok (.istore 5, 2) := by decide +kernel
theorem dL_law_1451 : decode cL_law 1451 = .ok (.aload_n 2, 1) := by decide +kernel
theorem dL_law_1452 : decode cL_law 1452 = .ok (.aload_n 0, 1) := by decide +kernel
theorem dL_law_1453 : decode cL_law 1453 = .ok (.iload 4, 2) := by decide +kernel
theorem dL_law_1455 : decode cL_law 1455 = .ok (.iconst 1, 1) := by decide +kernel
theorem dL_law_1456 : decode cL_law 1456 = .ok (.iadd, 1) := by decide +kernel
theorem dL_law_1457 : decode cL_law 1457 = .ok (.iaload, 1) := by decide +kernel
theorem dL_law_1458 : decode cL_law 1458 = .ok (.aload_n 0, 1) := by decide +kernel
theorem dL_law_1459 : decode cL_law 1459 = .ok (.iload 4, 2) := by decide +kernel
theorem dL_law_1461 : decode cL_law 1461 = .ok (.iconst 2, 1) := by decide +kernel
theorem dL_law_1462 : decode cL_law 1462 = .ok (.iadd, 1) := by decide +kernel
theorem dL_law_1463 : decode cL_law 1463 = .ok (.iaload, 1) := by decide +kernel
theorem dL_law_1464 : decode cL_law 1464 = .ok (.ifCond .eq 7, 3) := by decide +kernel
theorem dL_law_1467 : decode cL_law 1467 = .ok (.iconst 1, 1) := by decide +kernel
theorem dL_law_1468 : decode cL_law 1468 = .ok (.goto 4, 3) := by decide +kernel
theorem dL_law_1471 : decode cL_law 1471 = .ok (.iconst 0, 1) := by decide +kernel
theorem dL_law_1472 : decode cL_law 1472 = .ok (.invokevirtual 207, 3) := by decide +kernel
theorem dL_law_1475 : decode cL_law 1475 = .ok (.istore 6, 2) := by decide +kernel
theorem dL_law_1477 : decode cL_law 1477 = .ok (.aload_n 2, 1) := by decide +kernel
theorem dL_law_1478 : decode cL_law 1478 = .ok (.invokevirtual 144, 3) := by decide +kernel
theorem dL_law_1481 : decode cL_law 1481 = .ok (.iload 5, 2) := by decide +kernel
theorem dL_law_1483 : decode cL_law 1483 = .ok (.if_icmp .eq 5, 3) := by decide +kernel
theorem dL_law_1486 : decode cL_law 1486 = .ok (.iconst 0, 1) := by decide +kernel
theorem dL_law_1487 : decode cL_law 1487 = .ok (.ireturn, 1) := by decide +kernel
theorem dL_law_1488 : decode cL_law 1488 = .ok (.iload 5, 2) := by decide +kernel
theorem dL_law_1490 : decode cL_law 1490 = .ok (.ifCond .ne 22, 3) := by decide +kernel
theorem dL_law_1493 : decode cL_law 1493 = .ok (.aload_n 3, 1) := by decide +kernel
theorem dL_law_1494 : decode cL_law 1494 = .ok (.iconst 0, 1) := by decide +kernel
theorem dL_law_1495 : decode cL_law 1495 = .ok (.laload, 1) := by decide +kernel
theorem dL_law_1496 : decode cL_law 1496 = .ok (.iload 6, 2) := by decide +kernel
theorem dL_law_1498 : decode cL_law 1498 = .ok (.ifCond .eq 7, 3) := by decide +kernel
theorem dL_law_1501 : decode cL_law 1501 = .ok (.lconst 1, 1) := by decide +kernel
theorem dL_law_1502 : decode cL_law 1502 = .ok (.goto 4, 3) := by decide +kernel
theorem dL_law_1505 : decode cL_law 1505 = .ok (.lconst 0, 1) := by decide +kernel
theorem dL_law_1506 : decode cL_law 1506 = .ok (.lcmp, 1) := by decide +kernel
theorem dL_law_1507 : decode cL_law 1507 = .ok (.ifCond .eq 5, 3) := by decide +kernel
theorem dL_law_1510 : decode cL_law 1510 = .ok (.iconst 0, 1) := by decide +kernel
theorem dL_law_1511 : decode cL_law 1511 = .ok (.ireturn, 1) := by decide +kernel
theorem dL_law_1512 : decode cL_law 1512 = .ok (.goto 1285, 3) := by decide +kernel
theorem dL_law_1515 : decode cL_law 1515 = .ok (.aload_n 1, 1) := by decide +kernel
theorem dL_law_1516 : decode cL_law 1516 = .ok (.aload_n 0, 1) := by decide +kernel
theorem dL_law_1517 : decode cL_law 1517 = .ok (.iload 4, 2) := by decide +kernel
theorem dL_law_1519 : decode cL_law 1519 = .ok (.iconst 1, 1) := by decide +kernel
theorem dL_law_1520 : decode cL_law 1520 = .ok (.iadd, 1) := by decide +kernel
theorem dL_law_1521 : decode cL_law 1521 = .ok (.iaload, 1) := by decide +kernel
theorem dL_law_1522 : decode cL_law 1522 = .ok (.aload_n 0, 1) := by decide +kernel
theorem dL_law_1523 : decode cL_law 1523 = .ok (.iload 4, 2) := by decide +kernel
theorem dL_law_1525 : decode cL_law 1525 = .ok (.iconst 2, 1) := by decide +kernel
theorem dL_law_1526 : decode cL_law 1526 = .ok (.iadd, 1) := by decide +kernel
theorem dL_law_1527 : decode cL_law 1527 = .ok (.iaload, 1) := by decide +kernel
theorem dL_law_1528 : decode cL_law 1528 = .ok (.aload_n 3, 1) := by decide +kernel
theorem dL_law_1529 : decode cL_law 1529 = .ok (.invokestatic 208, 3) := by decide +kernel
theorem dL_law_1532 : decode cL_law 1532 = .ok (.istore 5, 2) := by decide +kernel
theorem dL_law_1534 : decode cL_law 1534 = .ok (.aload_n 2, 1) := by decide +kernel
theorem dL_law_1535 : decode cL_law 1535 = .ok (.aload_n 0, 1) := by decide +kernel
theorem dL_law_1536 : decode cL_law 1536 = .ok (.iload 4, 2) := by decide +kernel
theorem dL_law_1538 : decode cL_law 1538 = .ok (.iconst 1, 1) := by decide +kernel
theorem dL_law_1539 : decode cL_law 1539 = .ok (.iadd, 1) := by decide +kernel
theorem dL_law_1540 : decode cL_law 1540 = .ok (.iaload, 1) := by decide +kernel
theorem dL_law_1541 : decode cL_law 1541 = .ok (.aload_n 0, 1) := by decide +kernel
theorem dL_law_1542 : decode cL_law 1542 = .ok (.iload 4, 2) := by decide +kernel
theorem dL_law_1544 : decode cL_law 1544 = .ok (.iconst 2, 1) := by decide +kernel
theorem dL_law_1545 : decode cL_law 1545 = .ok (.iadd, 1) := by decide +kernel
theorem dL_law_1546 : decode cL_law 1546 = .ok (.iaload, 1) := by decide +kernel
theorem dL_law_1547 : decode cL_law 1547 = .ok (.invokevirtual 210, 3) := by decide +kernel
theorem dL_law_1550 : decode cL_law 1550 = .ok (.istore 6, 2) := by decide +kernel
theorem dL_law_1552 : decode cL_law 1552 = .ok (.aload_n 2, 1) := by decide +kernel
theorem dL_law_1553 : decode cL_law 1553 = .ok (.invokevirtual 144, 3) := by decide +kernel
theorem dL_law_1556 : decode cL_law 1556 = .ok (.iload 5, 2) := by decide +kernel
theorem dL_law_1558 : decode cL_law 1558 = .ok (.if_icmp .eq 5, 3) := by decide +kernel
theorem dL_law_1561 : decode cL_law 1561 = .ok (.iconst 0, 1) := by decide +kernel
theorem dL_law_1562 : decode cL_law 1562 = .ok (.ireturn, 1) := by decide +kernel
theorem dL_law_1563 : decode cL_law 1563 = .ok (.iload 5, 2) := by decide +kernel
theorem dL_law_1565 : decode cL_law 1565 = .ok (.ifCond .ne 15, 3) := by decide +kernel
theorem dL_law_1568 : decode cL_law 1568 = .ok (.aload_n 3, 1) := by decide +kernel
theorem dL_law_1569 : decode cL_law 1569 = .ok (.iconst 0, 1) := by decide +kernel
theorem dL_law_1570 : decode cL_law 1570 = .ok (.laload, 1) := by decide +kernel
theorem dL_law_1571 : decode cL_law 1571 = .ok (.iload 6, 2) := by decide +kernel
theorem dL_law_1573 : decode cL_law 1573 = .ok (.i2l, 1) := by decide +kernel
theorem dL_law_1574 : decode cL_law 1574 = .ok (.lcmp, 1) := by decide +kernel
theorem dL_law_1575 : decode cL_law 1575 = .ok (.ifCond .eq 5, 3) := by decide +kernel
theorem dL_law_1578 : decode cL_law 1578 = .ok (.iconst 0, 1) := by decide +kernel
theorem dL_law_1579 : decode cL_law 1579 = .ok (.ireturn, 1) := by decide +kernel
theorem dL_law_1580 : decode cL_law 1580 = .ok (.goto 1217, 3) := by decide +kernel
theorem dL_law_1583 : decode cL_law 1583 = .ok (.aload_n 1, 1) := by decide +kernel
theorem dL_law_1584 : decode cL_law 1584 = .ok (.aload_n 0, 1) := by decide +kernel
theorem dL_law_1585 : decode cL_law 1585 = .ok (.iload 4, 2) := by decide +kernel
theorem dL_law_1587 : decode cL_law 1587 = .ok (.iconst 1, 1) := by decide +kernel
theorem dL_law_1588 : decode cL_law 1588 = .ok (.iadd, 1) := by decide +kernel
theorem dL_law_1589 : decode cL_law 1589 = .ok (.iaload, 1) := by decide +kernel
theorem dL_law_1590 : decode cL_law 1590 = .ok (.aload_n 0, 1) := by decide +kernel
theorem dL_law_1591 : decode cL_law 1591 = .ok (.iload 4, 2) := by decide +kernel
theorem dL_law_1593 : decode cL_law 1593 = .ok (.iconst 2, 1) := by decide +kernel
theorem dL_law_1594 : decode cL_law 1594 = .ok (.iadd, 1) := by decide +kernel
theorem dL_law_1595 : decode cL_law 1595 = .ok (.iaload, 1) := by decide +kernel
theorem dL_law_1596 : decode cL_law 1596 = .ok (.aload_n 0, 1) := by decide +kernel
theorem dL_law_1597 : decode cL_law 1597 = .ok (.iload 4, 2) := by decide +kernel
theorem dL_law_1599 : decode cL_law 1599 = .ok (.iconst 3, 1) := by decide +kernel
theorem dL_law_1600 : decode cL_law 1600 = .ok (.iadd, 1) := by decide +kernel
theorem dL_law_1601 : decode cL_law 1601 = .ok (.iaload, 1) := by decide +kernel
theorem dL_law_1602 : decode cL_law 1602 = .ok (.invokestatic 211, 3) := by decide +kernel
theorem dL_law_1605 : decode cL_law 1605 = .ok (.istore 5, 2) := by decide +kernel
theorem dL_law_1607 : decode cL_law 1607 = .ok (.aload_n 2, 1) := by decide +kernel
theorem dL_law_1608 : decode cL_law 1608 = .ok (.aload_n 0, 1) := by decide +kernel
theorem dL_law_1609 : decode cL_law 1609 = .ok (.iload 4, 2) := by decide +kernel
theorem dL_law_1611 : decode cL_law 1611 = .ok (.iconst 1, 1) := by decide +kernel
theorem dL_law_1612 : decode cL_law 1612 = .ok (.iadd, 1) := by decide +kernel
theorem dL_law_1613 : decode cL_law 1613 = .ok (.iaload, 1) := by decide +kernel
theorem dL_law_1614 : decode cL_law 1614 = .ok (.aload_n 0, 1) := by decide +kernel
theorem dL_law_1615 : decode cL_law 1615 = .ok (.iload 4, 2) := by decide +kernel
theorem dL_law_1617 : decode cL_law 1617 = .ok (.iconst 2, 1) := by decide +kernel
theorem dL_law_1618 : decode cL_law 1618 = .ok (.iadd, 1) := by decide +kernel
theorem dL_law_1619 : decode cL_law 1619 = .ok (.iaload, 1) := by decide +kernel
theorem dL_law_1620 : decode cL_law 1620 = .ok (.aload_n 0, 1) := by decide +kernel
theorem dL_law_1621 : decode cL_law 1621 = .ok (.iload 4, 2) := by decide +kernel
theorem dL_law_1623 : decode cL_law 1623 = .ok (.iconst 3, 1) := by decide +kernel
theorem dL_law_1624 : decode cL_law 1624 = .ok (.iadd, 1) := by decide +kernel
theorem dL_law_1625 : decode cL_law 1625 = .ok (.iaload, 1) := by decide +kernel
theorem dL_law_1626 : decode cL_law 1626 = .ok (.invokevirtual 213, 3) := by decide +kernel
theorem dL_law_1629 : decode cL_law 1629 = .ok (.aload_n 2, 1) := by decide +kernel
theorem dL_law_1630 : decode cL_law 1630 = .ok (.invokevirtual 144, 3) := by decide +kernel
theorem dL_law_1633 : decode cL_law 1633 = .ok (.iload 5, 2) := by decide +kernel
theorem dL_law_1635 : decode cL_law 1635 = .ok (.if_icmp .eq 5, 3) := by decide +kernel
theorem dL_law_1638 : decode cL_law 1638 = .ok (.iconst 0, 1) := by decide +kernel
theorem dL_law_1639 : decode cL_law 1639 = .ok (.ireturn, 1) := by decide +kernel
theorem dL_law_1640 : decode cL_law 1640 = .ok (.goto 1157, 3) := by decide +kernel
theorem dL_law_1643 : decode cL_law 1643 = .ok (.aload_n 1, 1) := by decide +kernel
theorem dL_law_1644 : decode cL_law 1644 = .ok (.aload_n 0, 1) := by decide +kernel
theorem dL_law_1645 : decode cL_law 1645 = .ok (.iload 4, 2) := by decide +kernel
theorem dL_law_1647 : decode cL_law 1647 = .ok (.iconst 1, 1) := by decide +kernel
theorem dL_law_1648 : decode cL_law 1648 = .ok (.iadd, 1) := by decide +kernel
theorem dL_law_1649 : decode cL_law 1649 = .ok (.iaload, 1) := by decide +kernel
theorem dL_law_1650 : decode cL_law 1650 = .ok (.aload_n 0, 1) := by decide +kernel
theorem dL_law_1651 : decode cL_law 1651 = .ok (.iload 4, 2) := by decide +kernel
theorem dL_law_1653 : decode cL_law 1653 = .ok (.iconst 2, 1) := by decide +kernel
theorem dL_law_1654 : decode cL_law 1654 = .ok (.iadd, 1) := by decide +kernel
theorem dL_law_1655 : decode cL_law 1655 = .ok (.iaload, 1) := by decide +kernel
theorem dL_law_1656 : decode cL_law 1656 = .ok (.aload_n 0, 1) := by decide +kernel
theorem dL_law_1657 : decode cL_law 1657 = .ok (.iload 4, 2) := by decide +kernel
theorem dL_law_1659 : decode cL_law 1659 = .ok (.iconst 3, 1) := by decide +kernel
theorem dL_law_1660 : decode cL_law 1660 = .ok (.iadd, 1) := by decide +kernel
theorem dL_law_1661 : decode cL_law 1661 = .ok (.iaload, 1) := by decide +kernel
theorem dL_law_1662 : decode cL_law 1662 = .ok (.aload_n 0, 1) := by decide +kernel
theorem dL_law_1663 : decode cL_law 1663 = .ok (.iload 4, 2) := by decide +kernel
theorem dL_law_1665 : decode cL_law 1665 = .ok (.iconst 4, 1) := by decide +kernel
theorem dL_law_1666 : decode cL_law 1666 = .ok (.iadd, 1) := by decide +kernel
theorem dL_law_1667 : decode cL_law 1667 = .ok (.iaload, 1) := by decide +kernel
theorem dL_law_1668 : decode cL_law 1668 = .ok (.aload_n 0, 1) := by decide +kernel
theorem dL_law_1669 : decode cL_law 1669 = .ok (.iload 4, 2) := by decide +kernel
theorem dL_law_1671 : decode cL_law 1671 = .ok (.iconst 5, 1) := by decide +kernel
theorem dL_law_1672 : decode cL_law 1672 = .ok (.iadd, 1) := by decide +kernel
theorem dL_law_1673 : decode cL_law 1673 = .ok (.iaload, 1) := by decide +kernel
theorem dL_law_1674 : decode cL_law 1674 = .ok (.ifCond .eq 7, 3) := by decide +kernel
theorem dL_law_1677 : decode cL_law 1677 = .ok (.iconst 1, 1) := by decide +kernel
theorem dL_law_1678 : decode cL_law 1678 = .ok (.goto 4, 3) := by decide +kernel
theorem dL_law_1681 : decode cL_law 1681 = .ok (.iconst 0, 1) := by decide +kernel
theorem dL_law_1682 : decode cL_law 1682 = .ok (.aload_n 3, 1) := by decide +kernel
theorem dL_law_1683 : decode cL_law 1683 = .ok (.invokestatic 214, 3) := by decide +kernel
theorem dL_law_1686 : decode cL_law 1686 = .ok (.istore 5, 2) := by decide +kernel
theorem dL_law_1688 : decode cL_law 1688 = .ok (.aload_n 2, 1) := by decide +kernel
theorem dL_law_1689 : decode cL_law 1689 = .ok (.aload_n 0, 1) := by decide +kernel
theorem dL_law_1690 : decode cL_law 1690 = .ok (.iload 4, 2) := by decide +kernel
theorem dL_law_1692 : decode cL_law 1692 = .ok (.iconst 1, 1) := by decide +kernel
theorem dL_law_1693 : decode cL_law 1693 = .ok (.iadd, 1) := by decide +kernel
theorem dL_law_1694 : decode cL_law 1694 = .ok (.iaload, 1) := by decide +kernel
theorem dL_law_1695 : decode cL_law 1695 = .ok (.aload_n 0, 1) := by decide +kernel
theorem dL_law_1696 : decode cL_law 1696 = .ok (.iload 4, 2) := by decide +kernel
theorem dL_law_1698 : decode cL_law 1698 = .ok (.iconst 2, 1) := by decide +kernel
theorem dL_law_1699 : decode cL_law 1699 = .ok (.iadd, 1) := by decide +kernel
theorem dL_law_1700 : decode cL_law 1700 = .ok (.iaload, 1) := by decide +kernel
theorem dL_law_1701 : decode cL_law 1701 = .ok (.aload_n 0, 1) := by decide +kernel
theorem dL_law_1702 : decode cL_law 1702 = .ok (.iload 4, 2) := by decide +kernel
theorem dL_law_1704 : decode cL_law 1704 = .ok (.iconst 3, 1) := by decide +kernel
theorem dL_law_1705 : decode cL_law 1705 = .ok (.iadd, 1) := by decide +kernel
theorem dL_law_1706 : decode cL_law 1706 = .ok (.iaload, 1) := by decide +kernel
theorem dL_law_1707 : decode cL_law 1707 = .ok (.aload_n 0, 1) := by decide +kernel
theorem dL_law_1708 : decode cL_law 1708 = .ok (.iload 4, 2) := by decide +kernel
theorem dL_law_1710 : decode cL_law 1710 = .ok (.iconst 4, 1) := by decide +kernel
theorem dL_law_1711 : decode cL_law 1711 = .ok (.iadd, 1) := by decide +kernel
theorem dL_law_1712 : decode cL_law 1712 = .ok (.iaload, 1) := by decide +kernel
theorem dL_law_1713 : decode cL_law 1713 = .ok (.aload_n 0, 1) := by decide +kernel
theorem dL_law_1714 : decode cL_law 1714 = .ok (.iload 4, 2) := by decide +kernel
theorem dL_law_1716 : decode cL_law 1716 = .ok (.iconst 5, 1) := by decide +kernel
theorem dL_law_1717 : decode cL_law 1717 = .ok (.iadd, 1) := by decide +kernel
theorem dL_law_1718 : decode cL_law 1718 = .ok (.iaload, 1) := by decide +kernel
theorem dL_law_1719 : decode cL_law 1719 = .ok (.ifCond .eq 7, 3) := by decide +kernel
theorem dL_law_1722 : decode cL_law 1722 = .ok (.iconst 1, 1) := by decide +kernel
theorem dL_law_1723 : decode cL_law 1723 = .ok (.goto 4, 3) := by decide +kernel
theorem dL_law_1726 : decode cL_law 1726 = .ok (.iconst 0, 1) := by decide +kernel
theorem dL_law_1727 : decode cL_law 1727 = .ok (.invokevirtual 217, 3) := by decide +kernel
theorem dL_law_1730 : decode cL_law 1730 = .ok (.istore 6, 2) := by decide +kernel
theorem dL_law_1732 : decode cL_law 1732 = .ok (.aload_n 2, 1) := by decide +kernel
theorem dL_law_1733 : decode cL_law 1733 = .ok (.invokevirtual 144, 3) := by decide +kernel
theorem dL_law_1736 : decode cL_law 1736 = .ok (.iload 5, 2) := by decide +kernel
theorem dL_law_1738 : decode cL_law 1738 = .ok (.if_icmp .eq 5, 3) := by decide +kernel
theorem dL_law_1741 : decode cL_law 1741 = .ok (.iconst 0, 1) := by decide +kernel
theorem dL_law_1742 : decode cL_law 1742 = .ok (.ireturn, 1) := by decide +kernel
theorem dL_law_1743 : decode cL_law 1743 = .ok (.iload 5, 2) := by decide +kernel
theorem dL_law_1745 : decode cL_law 1745 = .ok (.ifCond .ne 15, 3) := by decide +kernel
theorem dL_law_1748 : decode cL_law 1748 = .ok (.aload_n 3, 1) := by decide +kernel
theorem dL_law_1749 : decode cL_law 1749 = .ok (.iconst 0, 1) := by decide +kernel
theorem dL_law_1750 : decode cL_law 1750 = .ok (.laload, 1) := by decide +kernel
theorem dL_law_1751 : decode cL_law 1751 = .ok (.iload 6, 2) := by decide +kernel
theorem dL_law_1753 : decode cL_law 1753 = .ok (.i2l, 1) := by decide +kernel
theorem dL_law_1754 : decode cL_law 1754 = .ok (.lcmp, 1) := by decide +kernel
theorem dL_law_1755 : decode cL_law 1755 = .ok (.ifCond .eq 5, 3) := by decide +kernel
theorem dL_law_1758 : decode cL_law 1758 = .ok (.iconst 0, 1) := by decide +kernel
theorem dL_law_1759 : decode cL_law 1759 = .ok (.ireturn, 1) := by decide +kernel
theorem dL_law_1760 : decode cL_law 1760 = .ok (.goto 1037, 3) := by decide +kernel
theorem dL_law_1763 : decode cL_law 1763 = .ok (.aload_n 1, 1) := by decide +kernel
theorem dL_law_1764 : decode cL_law 1764 = .ok (.aload_n 0, 1) := by decide +kernel
theorem dL_law_1765 : decode cL_law 1765 = .ok (.iload 4, 2) := by decide +kernel
theorem dL_law_1767 : decode cL_law 1767 = .ok (.iconst 1, 1) := by decide +kernel
theorem dL_law_1768 : decode cL_law 1768 = .ok (.iadd, 1) := by decide +kernel
theorem dL_law_1769 : decode cL_law 1769 = .ok (.iaload, 1) := by decide +kernel
theorem dL_law_1770 : decode cL_law 1770 = .ok (.aload_n 0, 1) := by decide +kernel
theorem dL_law_1771 : decode cL_law 1771 = .ok (.iload 4, 2) := by decide +kernel
theorem dL_law_1773 : decode cL_law 1773 = .ok (.iconst 2, 1) := by decide +kernel
theorem dL_law_1774 : decode cL_law 1774 = .ok (.iadd, 1) := by decide +kernel
theorem dL_law_1775 : decode cL_law 1775 = .ok (.iaload, 1) := by decide +kernel
theorem dL_law_1776 : decode cL_law 1776 = .ok (.aload_n 0, 1) := by decide +kernel
theorem dL_law_1777 : decode cL_law 1777 = .ok (.iload 4, 2) := by decide +kernel
theorem dL_law_1779 : decode cL_law 1779 = .ok (.iconst 3, 1) := by decide +kernel
theorem dL_law_1780 : decode cL_law 1780 = .ok (.iadd, 1) := by decide +kernel
theorem dL_law_1781 : decode cL_law 1781 = .ok (.iaload, 1) := by decide +kernel
theorem dL_law_1782 : decode cL_law 1782 = .ok (.aload_n 0, 1) := by decide +kernel
theorem dL_law_1783 : decode cL_law 1783 = .ok (.iload 4, 2) := by decide +kernel
theorem dL_law_1785 : decode cL_law 1785 = .ok (.iconst 4, 1) := by decide +kernel
theorem dL_law_1786 : decode cL_law 1786 = .ok (.iadd, 1) := by decide +kernel
theorem dL_law_1787 : decode cL_law 1787 = .ok (.iaload, 1) := by decide +kernel
theorem dL_law_1788 : decode cL_law 1788 = .ok (.aload_n 0, 1) := by decide +kernel
theorem dL_law_1789 : decode cL_law 1789 = .ok (.iload 4, 2) := by decide +kernel
theorem dL_law_1791 : decode cL_law 1791 = .ok (.iconst 5, 1) := by decide +kernel
theorem dL_law_1792 : decode cL_law 1792 = .ok (.iadd, 1) := by decide +kernel
theorem dL_law_1793 : decode cL_law 1793 = .ok (.iaload, 1) := by decide +kernel
theorem dL_law_1794 : decode cL_law 1794 = .ok (.aload_n 0, 1) := by decide +kernel
theorem dL_law_1795 : decode cL_law 1795 = .ok (.iload 4, 2) := by decide +kernel
theorem dL_law_1797 : decode cL_law 1797 = .ok (.bipush 6, 2) := by decide +kernel
theorem dL_law_1799 : decode cL_law 1799 = .ok (.iadd, 1) := by decide +kernel
theorem dL_law_1800 : decode cL_law 1800 = .ok (.iaload, 1) := by decide +kernel
theorem dL_law_1801 : decode cL_law 1801 = .ok (.ifCond .eq 7, 3) := by decide +kernel
theorem dL_law_1804 : decode cL_law 1804 = .ok (.iconst 1, 1) := by decide +kernel
theorem dL_law_1805 : decode cL_law 1805 = .ok (.goto 4, 3) := by decide +kernel
theorem dL_law_1808 : decode cL_law 1808 = .ok (.iconst 0, 1) := by decide +kernel
theorem dL_law_1809 : decode cL_law 1809 = .ok (.aload_n 3, 1) := by decide +kernel
theorem dL_law_1810 : decode cL_law 1810 = .ok (.invokestatic 218, 3) := by decide +kernel
theorem dL_law_1813 : decode cL_law 1813 = .ok (.istore 5, 2) := by decide +kernel
theorem dL_law_1815 : decode cL_law 1815 = .ok (.aload_n 2, 1) := by decide +kernel
theorem dL_law_1816 : decode cL_law 1816 = .ok (.aload_n 0, 1) := by decide +kernel
theorem dL_law_1817 : decode cL_law 1817 = .ok (.iload 4, 2) := by decide +kernel
theorem dL_law_1819 : decode cL_law 1819 = .ok (.iconst 1, 1) := by decide +kernel
theorem dL_law_1820 : decode cL_law 1820 = .ok (.iadd, 1) := by decide +kernel
theorem dL_law_1821 : decode cL_law 1821 = .ok (.iaload, 1) := by decide +kernel
theorem dL_law_1822 : decode cL_law 1822 = .ok (.aload_n 0, 1) := by decide +kernel
theorem dL_law_1823 : decode cL_law 1823 = .ok (.iload 4, 2) := by decide +kernel
theorem dL_law_1825 : decode cL_law 1825 = .ok (.iconst 2, 1) := by decide +kernel
theorem dL_law_1826 : decode cL_law 1826 = .ok (.iadd, 1) := by decide +kernel
theorem dL_law_1827 : decode cL_law 1827 = .ok (.iaload, 1) := by decide +kernel
theorem dL_law_1828 : decode cL_law 1828 = .ok (.aload_n 0, 1) := by decide +kernel
theorem dL_law_1829 : decode cL_law 1829 = .ok (.iload 4, 2) := by decide +kernel
theorem dL_law_1831 : decode cL_law 1831 = .ok (.iconst 3, 1) := by decide +kernel
theorem dL_law_1832 : decode cL_law 1832 = .ok (.iadd, 1) := by decide +kernel
theorem dL_law_1833 : decode cL_law 1833 = .ok (.iaload, 1) := by decide +kernel
theorem dL_law_1834 : decode cL_law 1834 = .ok (.aload_n 0, 1) := by decide +kernel
theorem dL_law_1835 : decode cL_law 1835 = .ok (.iload 4, 2) := by decide +kernel
theorem dL_law_1837 : decode cL_law 1837 = .ok (.iconst 4, 1) := by decide +kernel
theorem dL_law_1838 : decode cL_law 1838 = .ok (.iadd, 1) := by decide +kernel
theorem dL_law_1839 : decode cL_law 1839 = .ok (.iaload, 1) := by decide +kernel
theorem dL_law_1840 : decode cL_law 1840 = .ok (.aload_n 0, 1) := by decide +kernel
theorem dL_law_1841 : decode cL_law 1841 = .ok (.iload 4, 2) := by decide +kernel
theorem dL_law_1843 : decode cL_law 1843 = .ok (.iconst 5, 1) := by decide +kernel
theorem dL_law_1844 : decode cL_law 1844 = .ok (.iadd, 1) := by decide +kernel
theorem dL_law_1845 : decode cL_law 1845 = .ok (.iaload, 1) := by decide +kernel
theorem dL_law_1846 : decode cL_law 1846 = .ok (.aload_n 0, 1) := by decide +kernel
theorem dL_law_1847 : decode cL_law 1847 = .ok (.iload 4, 2) := by decide +kernel
theorem dL_law_1849 : decode cL_law 1849 = .ok (.bipush 6, 2) := by decide +kernel
theorem dL_law_1851 : decode cL_law 1851 = .ok (.iadd, 1) := by decide +kernel
theorem dL_law_1852 : decode cL_law 1852 = .ok (.iaload, 1) := by decide +kernel
theorem dL_law_1853 : decode cL_law 1853 = .ok (.ifCond .eq 7, 3) := by decide +kernel
theorem dL_law_1856 : decode cL_law 1856 = .ok (.iconst 1, 1) := by decide +kernel
theorem dL_law_1857 : decode cL_law 1857 = .ok (.goto 4, 3) := by decide +kernel
theorem dL_law_1860 : decode cL_law 1860 = .ok (.iconst 0, 1) := by decide +kernel
theorem dL_law_1861 : decode cL_law 1861 = .ok (.invokevirtual 221, 3) := by decide +kernel
theorem dL_law_1864 : decode cL_law 1864 = .ok (.istore 6, 2) := by decide +kernel
theorem dL_law_1866 : decode cL_law 1866 = .ok (.aload_n 2, 1) := by decide +kernel
theorem dL_law_1867 : decode cL_law 1867 = .ok (.invokevirtual 144, 3) := by decide +kernel
theorem dL_law_1870 : decode cL_law 1870 = .ok (.iload 5, 2) := by decide +kernel
theorem dL_law_1872 : decode cL_law 1872 = .ok (.if_icmp .eq 5, 3) := by decide +kernel
theorem dL_law_1875 : decode cL_law 1875 = .ok (.iconst 0, 1) := by decide +kernel
theorem dL_law_1876 : decode cL_law 1876 = .ok (.ireturn, 1) := by decide +kernel
theorem dL_law_1877 : decode cL_law 1877 = .ok (.iload 5, 2) := by decide +kernel
theorem dL_law_1879 : decode cL_law 1879 = .ok (.ifCond .ne 15, 3) := by decide +kernel
theorem dL_law_1882 : decode cL_law 1882 = .ok (.aload_n 3, 1) := by decide +kernel
theorem dL_law_1883 : decode cL_law 1883 = .ok (.iconst 0, 1) := by decide +kernel
theorem dL_law_1884 : decode cL_law 1884 = .ok (.laload, 1) := by decide +kernel
theorem dL_law_1885 : decode cL_law 1885 = .ok (.iload 6, 2) := by decide +kernel
theorem dL_law_1887 : decode cL_law 1887 = .ok (.i2l, 1) := by decide +kernel
theorem dL_law_1888 : decode cL_law 1888 = .ok (.lcmp, 1) := by decide +kernel
theorem dL_law_1889 : decode cL_law 1889 = .ok (.ifCond .eq 5, 3) := by decide +kernel
theorem dL_law_1892 : decode cL_law 1892 = .ok (.iconst 0, 1) := by decide +kernel
theorem dL_law_1893 : decode cL_law 1893 = .ok (.ireturn, 1) := by decide +kernel
theorem dL_law_1894 : decode cL_law 1894 = .ok (.goto 903, 3) := by decide +kernel
theorem dL_law_1897 : decode cL_law 1897 = .ok (.aload_n 1, 1) := by decide +kernel
theorem dL_law_1898 : decode cL_law 1898 = .ok (.aload_n 0, 1) := by decide +kernel
theorem dL_law_1899 : decode cL_law 1899 = .ok (.iload 4, 2) := by decide +kernel
theorem dL_law_1901 : decode cL_law 1901 = .ok (.iconst 1, 1) := by decide +kernel
theorem dL_law_1902 : decode cL_law 1902 = .ok (.iadd, 1) := by decide +kernel
theorem dL_law_1903 : decode cL_law 1903 = .ok (.iaload, 1) := by decide +kernel
theorem dL_law_1904 : decode cL_law 1904 = .ok (.aload_n 0, 1) := by decide +kernel
theorem dL_law_1905 : decode cL_law 1905 = .ok (.iload 4, 2) := by decide +kernel
theorem dL_law_1907 : decode cL_law 1907 = .ok (.iconst 2, 1) := by decide +kernel
theorem dL_law_1908 : decode cL_law 1908 = .ok (.iadd, 1) := by decide +kernel
theorem dL_law_1909 : decode cL_law 1909 = .ok (.iaload, 1) := by decide +kernel
theorem dL_law_1910 : decode cL_law 1910 = .ok (.aload_n 3, 1) := by decide +kernel
theorem dL_law_1911 : decode cL_law 1911 = .ok (.invokestatic 222, 3) := by decide +kernel
theorem dL_law_1914 : decode cL_law 1914 = .ok (.istore 5, 2) := by decide +kernel
theorem dL_law_1916 : decode cL_law 1916 = .ok (.aload_n 2, 1) := by decide +kernel
theorem dL_law_1917 : decode cL_law 1917 = .ok (.aload_n 0, 1) := by decide +kernel
theorem dL_law_1918 : decode cL_law 1918 = .ok (.iload 4, 2) := by decide +kernel
theorem dL_law_1920 : decode cL_law 1920 = .ok (.iconst 1, 1) := by decide +kernel
theorem dL_law_1921 : decode cL_law 1921 = .ok (.iadd, 1) := by decide +kernel
theorem dL_law_1922 : decode cL_law 1922 = .ok (.iaload, 1) := by decide +kernel
theorem dL_law_1923 : decode cL_law 1923 = .ok (.aload_n 0, 1) := by decide +kernel
theorem dL_law_1924 : decode cL_law 1924 = .ok (.iload 4, 2) := by decide +kernel
theorem dL_law_1926 : decode cL_law 1926 = .ok (.iconst 2, 1) := by decide +kernel
theorem dL_law_1927 : decode cL_law 1927 = .ok (.iadd, 1) := by decide +kernel
theorem dL_law_1928 : decode cL_law 1928 = .ok (.iaload, 1) := by decide +kernel
theorem dL_law_1929 : decode cL_law 1929 = .ok (.invokevirtual 224, 3) := by decide +kernel
theorem dL_law_1932 : decode cL_law 1932 = .ok (.istore 6, 2) := by decide +kernel
theorem dL_law_1934 : decode cL_law 1934 = .ok (.aload_n 2, 1) := by decide +kernel
theorem dL_law_1935 : decode cL_law 1935 = .ok (.invokevirtual 144, 3) := by decide +kernel
theorem dL_law_1938 : decode cL_law 1938 = .ok (.iload 5, 2) := by decide +kernel
theorem dL_law_1940 : decode cL_law 1940 = .ok (.if_icmp .eq 5, 3) := by decide +kernel
theorem dL_law_1943 : decode cL_law 1943 = .ok (.iconst 0, 1) := by decide +kernel
theorem dL_law_1944 : decode cL_law 1944 = .ok (.ireturn, 1) := by decide +kernel
theorem dL_law_1945 : decode cL_law 1945 = .ok (.iload 5, 2) := by decide +kernel
theorem dL_law_1947 : decode cL_law 1947 = .ok (.ifCond .ne 15, 3) := by decide +kernel
theorem dL_law_1950 : decode cL_law 1950 = .ok (.aload_n 3, 1) := by decide +kernel
theorem dL_law_1951 : decode cL_law 1951 = .ok (.iconst 0, 1) := by decide +kernel
theorem dL_law_1952 : decode cL_law 1952 = .ok (.laload, 1) := by decide +kernel
theorem dL_law_1953 : decode cL_law 1953 = .ok (.iload 6, 2) := by decide +kernel
theorem dL_law_1955 : decode cL_law 1955 = .ok (.i2l, 1) := by decide +kernel
theorem dL_law_1956 : decode cL_law 1956 = .ok (.lcmp, 1) := by decide +kernel
theorem dL_law_1957 : decode cL_law 1957 = .ok (.ifCond .eq 5, 3) := by decide +kernel
theorem dL_law_1960 : decode cL_law 1960 = .ok (.iconst 0, 1) := by decide +kernel
theorem dL_law_1961 : decode cL_law 1961 = .ok (.ireturn, 1) := by decide +kernel
theorem dL_law_1962 : decode cL_law 1962 = .ok (.goto 835, 3) := by decide +kernel
theorem dL_law_1965 : decode cL_law 1965 = .ok (.aload_n 1, 1) := by decide +kernel
theorem dL_law_1966 : decode cL_law 1966 = .ok (.aload_n 0, 1) := by decide +kernel
theorem dL_law_1967 : decode cL_law 1967 = .ok (.iload 4, 2) := by decide +kernel
theorem dL_law_1969 : decode cL_law 1969 = .ok (.iconst 1, 1) := by decide +kernel
theorem dL_law_1970 : decode cL_law 1970 = .ok (.iadd, 1) := by decide +kernel
theorem dL_law_1971 : decode cL_law 1971 = .ok (.iaload, 1) := by decide +kernel
theorem dL_law_1972 : decode cL_law 1972 = .ok (.aload_n 3, 1) := by decide +kernel
theorem dL_law_1973 : decode cL_law 1973 = .ok (.invokestatic 225, 3) := by decide +kernel
theorem dL_law_1976 : decode cL_law 1976 = .ok (.istore 5, 2) := by decide +kernel
theorem dL_law_1978 : decode cL_law 1978 = .ok (.aload_n 2, 1) := by decide +kernel
theorem dL_law_1979 : decode cL_law 1979 = .ok (.aload_n 0, 1) := by decide +kernel
theorem dL_law_1980 : decode cL_law 1980 = .ok (.iload 4, 2) := by decide +kernel
theorem dL_law_1982 : decode cL_law 1982 = .ok (.iconst 1, 1) := by decide +kernel
theorem dL_law_1983 : decode cL_law 1983 = .ok (.iadd, 1) := by decide +kernel
theorem dL_law_1984 : decode cL_law 1984 = .ok (.iaload, 1) := by decide +kernel
theorem dL_law_1985 : decode cL_law 1985 = .ok (.invokevirtual 227, 3) := by decide +kernel
theorem dL_law_1988 : decode cL_law 1988 = .ok (.istore 6, 2) := by decide +kernel
theorem dL_law_1990 : decode cL_law 1990 = .ok (.aload_n 2, 1) := by decide +kernel
theorem dL_law_1991 : decode cL_law 1991 = .ok (.invokevirtual 144, 3) := by decide +kernel
theorem dL_law_1994 : decode cL_law 1994 = .ok (.iload 5, 2) := by decide +kernel
theorem dL_law_1996 : decode cL_law 1996 = .ok (.if_icmp .eq 5, 3) := by decide +kernel
theorem dL_law_1999 : decode cL_law 1999 = .ok (.iconst 0, 1) := by decide +kernel
theorem dL_law_2000 : decode cL_law 2000 = .ok (.ireturn, 1) := by decide +kernel
theorem dL_law_2001 : decode cL_law 2001 = .ok (.iload 5, 2) := by decide +kernel
theorem dL_law_2003 : decode cL_law 2003 = .ok (.ifCond .ne 15, 3) := by decide +kernel
theorem dL_law_2006 : decode cL_law 2006 = .ok (.aload_n 3, 1) := by decide +kernel
theorem dL_law_2007 : decode cL_law 2007 = .ok (.iconst 0, 1) := by decide +kernel
theorem dL_law_2008 : decode cL_law 2008 = .ok (.laload, 1) := by decide +kernel
theorem dL_law_2009 : decode cL_law 2009 = .ok (.iload 6, 2) := by decide +kernel
theorem dL_law_2011 : decode cL_law 2011 = .ok (.i2l, 1) := by decide +kernel
theorem dL_law_2012 : decode cL_law 2012 = .ok (.lcmp, 1) := by decide +kernel
theorem dL_law_2013 : decode cL_law 2013 = .ok (.ifCond .eq 5, 3) := by decide +kernel
theorem dL_law_2016 : decode cL_law 2016 = .ok (.iconst 0, 1) := by decide +kernel
theorem dL_law_2017 : decode cL_law 2017 = .ok (.ireturn, 1) := by decide +kernel
theorem dL_law_2018 : decode cL_law 2018 = .ok (.goto 779, 3) := by decide +kernel
theorem dL_law_2021 : decode cL_law 2021 = .ok (.aload_n 1, 1) := by decide +kernel
theorem dL_law_2022 : decode cL_law 2022 = .ok (.aload_n 0, 1) := by decide +kernel
theorem dL_law_2023 : decode cL_law 2023 = .ok (.iload 4, 2) := by decide +kernel
theorem dL_law_2025 : decode cL_law 2025 = .ok (.iconst 1, 1) := by decide +kernel
theorem dL_law_2026 : decode cL_law 2026 = .ok (.iadd, 1) := by decide +kernel
theorem dL_law_2027 : decode cL_law 2027 = .ok (.iaload, 1) := by decide +kernel
theorem dL_law_2028 : decode cL_law 2028 = .ok (.aload_n 0, 1) := by decide +kernel
theorem dL_law_2029 : decode cL_law 2029 = .ok (.iload 4, 2) := by decide +kernel
theorem dL_law_2031 : decode cL_law 2031 = .ok (.iconst 2, 1) := by decide +kernel
theorem dL_law_2032 : decode cL_law 2032 = .ok (.iadd, 1) := by decide +kernel
theorem dL_law_2033 : decode cL_law 2033 = .ok (.iaload, 1) := by decide +kernel
theorem dL_law_2034 : decode cL_law 2034 = .ok (.aload_n 3, 1) := by decide +kernel
theorem dL_law_2035 : decode cL_law 2035 = .ok (.invokestatic 228, 3) := by decide +kernel
theorem dL_law_2038 : decode cL_law 2038 = .ok (.istore 5, 2) := by decide +kernel
theorem dL_law_2040 : decode cL_law 2040 = .ok (.aload_n 2, 1) := by decide +kernel
theorem dL_law_2041 : decode cL_law 2041 = .ok (.aload_n 0, 1) := by decide +kernel
theorem dL_law_2042 : decode cL_law 2042 = .ok (.iload 4, 2) := by decide +kernel
theorem dL_law_2044 : decode cL_law 2044 = .ok (.iconst 1, 1) := by decide +kernel
theorem dL_law_2045 : decode cL_law 2045 = .ok (.iadd, 1) := by decide +kernel
theorem dL_law_2046 : decode cL_law 2046 = .ok (.iaload, 1) := by decide +kernel
theorem dL_law_2047 : decode cL_law 2047 = .ok (.aload_n 0, 1) := by decide +kernel
theorem dL_law_2048 : decode cL_law 2048 = .ok (.iload 4, 2) := by decide +kernel
theorem dL_law_2050 : decode cL_law 2050 = .ok (.iconst 2, 1) := by decide +kernel
theorem dL_law_2051 : decode cL_law 2051 = .ok (.iadd, 1) := by decide +kernel
theorem dL_law_2052 : decode cL_law 2052 = .ok (.iaload, 1) := by decide +kernel
theorem dL_law_2053 : decode cL_law 2053 = .ok (.invokevirtual 230, 3) := by decide +kernel
theorem dL_law_2056 : decode cL_law 2056 = .ok (.istore 6, 2) := by decide +kernel
theorem dL_law_2058 : decode cL_law 2058 = .ok (.aload_n 2, 1) := by decide +kernel
theorem dL_law_2059 : decode cL_law 2059 = .ok (.invokevirtual 144, 3) := by decide +kernel
theorem dL_law_2062 : decode cL_law 2062 = .ok (.iload 5, 2) := by decide +kernel
theorem dL_law_2064 : decode cL_law 2064 = .ok (.if_icmp .eq 5, 3) := by decide +kernel
theorem dL_law_2067 : decode cL_law 2067 = .ok (.iconst 0, 1) := by decide +kernel
theorem dL_law_2068 : decode cL_law 2068 = .ok (.ireturn, 1) := by decide +kernel
theorem dL_law_2069 : decode cL_law 2069 = .ok (.iload 5, 2) := by decide +kernel
theorem dL_law_2071 : decode cL_law 2071 = .ok (.ifCond .ne 15, 3) := by decide +kernel
theorem dL_law_2074 : decode cL_law 2074 = .ok (.aload_n 3, 1) := by decide +kernel
theorem dL_law_2075 : decode cL_law 2075 = .ok (.iconst 0, 1) := by decide +kernel
theorem dL_law_2076 : decode cL_law 2076 = .ok (.laload, 1) := by decide +kernel
theorem dL_law_2077 : decode cL_law 2077 = .ok (.iload 6, 2) := by decide +kernel
theorem dL_law_2079 : decode cL_law 2079 = .ok (.i2l, 1) := by decide +kernel
theorem dL_law_2080 : decode cL_law 2080 = .ok (.lcmp, 1) := by decide +kernel
theorem dL_law_2081 : decode cL_law 2081 = .ok (.ifCond .eq 5, 3) := by decide +kernel
theorem dL_law_2084 : decode cL_law 2084 = .ok (.iconst 0, 1) := by decide +kernel
theorem dL_law_2085 : decode cL_law 2085 = .ok (.ireturn, 1) := by decide +kernel
theorem dL_law_2086 : decode cL_law 2086 = .ok (.goto 711, 3) := by decide +kernel
theorem dL_law_2089 : decode cL_law 2089 = .ok (.aload_n 1, 1) := by decide +kernel
theorem dL_law_2090 : decode cL_law 2090 = .ok (.aload_n 0, 1) := by decide +kernel
theorem dL_law_2091 : decode cL_law 2091 = .ok (.iload 4, 2) := by decide +kernel
theorem dL_law_2093 : decode cL_law 2093 = .ok (.iconst 1, 1) := by decide +kernel
theorem dL_law_2094 : decode cL_law 2094 = .ok (.iadd, 1) := by decide +kernel
theorem dL_law_2095 : decode cL_law 2095 = .ok (.iaload, 1) := by decide +kernel
theorem dL_law_2096 : decode cL_law 2096 = .ok (.aload_n 3, 1) := by decide +kernel
theorem dL_law_2097 : decode cL_law 2097 = .ok (.invokestatic 231, 3) := by decide +kernel
theorem dL_law_2100 : decode cL_law 2100 = .ok (.istore 5, 2) := by decide +kernel
theorem dL_law_2102 : decode cL_law 2102 = .ok (.aload_n 2, 1) := by decide +kernel
theorem dL_law_2103 : decode cL_law 2103 = .ok (.aload_n 0, 1) := by decide +kernel
theorem dL_law_2104 : decode cL_law 2104 = .ok (.iload 4, 2) := by decide +kernel
theorem dL_law_2106 : decode cL_law 2106 = .ok (.iconst 1, 1) := by decide +kernel
theorem dL_law_2107 : decode cL_law 2107 = .ok (.iadd, 1) := by decide +kernel
theorem dL_law_2108 : decode cL_law 2108 = .ok (.iaload, 1) := by decide +kernel
theorem dL_law_2109 : decode cL_law 2109 = .ok (.invokevirtual 233, 3) := by decide +kernel
theorem dL_law_2112 : decode cL_law 2112 = .ok (.istore 6, 2) := by decide +kernel
theorem dL_law_2114 : decode cL_law 2114 = .ok (.aload_n 2, 1) := by decide +kernel
theorem dL_law_2115 : decode cL_law 2115 = .ok (.invokevirtual 144, 3) := by decide +kernel
theorem dL_law_2118 : decode cL_law 2118 = .ok (.iload 5, 2) := by decide +kernel
theorem dL_law_2120 : decode cL_law 2120 = .ok (.if_icmp .eq 5, 3) := by decide +kernel
theorem dL_law_2123 : decode cL_law 2123 = .ok (.iconst 0, 1) := by decide +kernel
theorem dL_law_2124 : decode cL_law 2124 = .ok (.ireturn, 1) := by decide +kernel
theorem dL_law_2125 : decode cL_law 2125 = .ok (.iload 5, 2) := by decide +kernel
theorem dL_law_2127 : decode cL_law 2127 = .ok (.ifCond .ne 15, 3) := by decide +kernel
theorem dL_law_2130 : decode cL_law 2130 = .ok (.aload_n 3, 1) := by decide +kernel
theorem dL_law_2131 : decode cL_law 2131 = .ok (.iconst 0, 1) := by decide +kernel
theorem dL_law_2132 : decode cL_law 2132 = .ok (.laload, 1) := by decide +kernel
theorem dL_law_2133 : decode cL_law 2133 = .ok (.iload 6, 2) := by decide +kernel
theorem dL_law_2135 : decode cL_law 2135 = .ok (.i2l, 1) := by decide +kernel
theorem dL_law_2136 : decode cL_law 2136 = .ok (.lcmp, 1) := by decide +kernel
theorem dL_law_2137 : decode cL_law 2137 = .ok (.ifCond .eq 5, 3) := by decide +kernel
theorem dL_law_2140 : decode cL_law 2140 = .ok (.iconst 0, 1) := by decide +kernel
theorem dL_law_2141 : decode cL_law 2141 = .ok (.ireturn, 1) := by decide +kernel
theorem dL_law_2142 : decode cL_law 2142 = .ok (.goto 655, 3) := by decide +kernel
theorem dL_law_2145 : decode cL_law 2145 = .ok (.aload_n 1, 1) := by decide +kernel
theorem dL_law_2146 : decode cL_law 2146 = .ok (.aload_n 0, 1) := by decide +kernel
theorem dL_law_2147 : decode cL_law 2147 = .ok (.iload 4, 2) := by decide +kernel
theorem dL_law_2149 : decode cL_law 2149 = .ok (.iconst 1, 1) := by decide +kernel
theorem dL_law_2150 : decode cL_law 2150 = .ok (.iadd, 1) := by decide +kernel
theorem dL_law_2151 : decode cL_law 2151 = .ok (.iaload, 1) := by decide +kernel
theorem dL_law_2152 : decode cL_law 2152 = .ok (.aload_n 0, 1) := by decide +kernel
theorem dL_law_2153 : decode cL_law 2153 = .ok (.iload 4, 2) := by decide +kernel
theorem dL_law_2155 : decode cL_law 2155 = .ok (.iconst 2, 1) := by decide +kernel
theorem dL_law_2156 : decode cL_law 2156 = .ok (.iadd, 1) := by decide +kernel
theorem dL_law_2157 : decode cL_law 2157 = .ok (.iaload, 1) := by decide +kernel
theorem dL_law_2158 : decode cL_law 2158 = .ok (.aload_n 3, 1) := by decide +kernel
theorem dL_law_2159 : decode cL_law 2159 = .ok (.invokestatic 234, 3) := by decide +kernel
theorem dL_law_2162 : decode cL_law 2162 = .ok (.istore 5, 2) := by decide +kernel
theorem dL_law_2164 : decode cL_law 2164 = .ok (.aload_n 2, 1) := by decide +kernel
theorem dL_law_2165 : decode cL_law 2165 = .ok (.aload_n 0, 1) := by decide +kernel
theorem dL_law_2166 : decode cL_law 2166 = .ok (.iload 4, 2) := by decide +kernel
theorem dL_law_2168 : decode cL_law 2168 = .ok (.iconst 1, 1) := by decide +kernel
theorem dL_law_2169 : decode cL_law 2169 = .ok (.iadd, 1) := by decide +kernel
theorem dL_law_2170 : decode cL_law 2170 = .ok (.iaload, 1) := by decide +kernel
theorem dL_law_2171 : decode cL_law 2171 = .ok (.aload_n 0, 1) := by decide +kernel
theorem dL_law_2172 : decode cL_law 2172 = .ok (.iload 4, 2) := by decide +kernel
theorem dL_law_2174 : decode cL_law 2174 = .ok (.iconst 2, 1) := by decide +kernel
theorem dL_law_2175 : decode cL_law 2175 = .ok (.iadd, 1) := by decide +kernel
theorem dL_law_2176 : decode cL_law 2176 = .ok (.iaload, 1) := by decide +kernel
theorem dL_law_2177 : decode cL_law 2177 = .ok (.invokevirtual 236, 3) := by decide +kernel
theorem dL_law_2180 : decode cL_law 2180 = .ok (.istore 6, 2) := by decide +kernel
theorem dL_law_2182 : decode cL_law 2182 = .ok (.aload_n 2, 1) := by decide +kernel
theorem dL_law_2183 : decode cL_law 2183 = .ok (.invokevirtual 144, 3) := by decide +kernel
theorem dL_law_2186 : decode cL_law 2186 = .ok (.iload 5, 2) := by decide +kernel
theorem dL_law_2188 : decode cL_law 2188 = .ok (.if_icmp .eq 5, 3) := by decide +kernel
theorem dL_law_2191 : decode cL_law 2191 = .ok (.iconst 0, 1) := by decide +kernel
theorem dL_law_2192 : decode cL_law 2192 = .ok (.ireturn, 1) := by decide +kernel
theorem dL_law_2193 : decode cL_law 2193 = .ok (.iload 5, 2) := by decide +kernel
theorem dL_law_2195 : decode cL_law 2195 = .ok (.ifCond .ne 15, 3) := by decide +kernel
theorem dL_law_2198 : decode cL_law 2198 = .ok (.aload_n 3, 1) := by decide +kernel
theorem dL_law_2199 : decode cL_law 2199 = .ok (.iconst 0, 1) := by decide +kernel
theorem dL_law_2200 : decode cL_law 2200 = .ok (.laload, 1) := by decide +kernel
theorem dL_law_2201 : decode cL_law 2201 = .ok (.iload 6, 2) := by decide +kernel
theorem dL_law_2203 : decode cL_law 2203 = .ok (.i2l, 1) := by decide +kernel
theorem dL_law_2204 : decode cL_law 2204 = .ok (.lcmp, 1) := by decide +kernel
theorem dL_law_2205 : decode cL_law 2205 = .ok (.ifCond .eq 5, 3) := by decide +kernel
theorem dL_law_2208 : decode cL_law 2208 = .ok (.iconst 0, 1) := by decide +kernel
theorem dL_law_2209 : decode cL_law 2209 = .ok (.ireturn, 1) := by decide +kernel
theorem dL_law_2210 : decode cL_law 2210 = .ok (.goto 587, 3) := by decide +kernel
theorem dL_law_2213 : decode cL_law 2213 = .ok (.aload_n 1, 1) := by decide +kernel
theorem dL_law_2214 : decode cL_law 2214 = .ok (.aload_n 0, 1) := by decide +kernel
theorem dL_law_2215 : decode cL_law 2215 = .ok (.iload 4, 2) := by decide +kernel
theorem dL_law_2217 : decode cL_law 2217 = .ok (.iconst 1, 1) := by decide +kernel
theorem dL_law_2218 : decode cL_law 2218 = .ok (.iadd, 1) := by decide +kernel
theorem dL_law_2219 : decode cL_law 2219 = .ok (.iaload, 1) := by decide +kernel
theorem dL_law_2220 : decode cL_law 2220 = .ok (.aload_n 3, 1) := by decide +kernel
theorem dL_law_2221 : decode cL_law 2221 = .ok (.invokestatic 237, 3) := by decide +kernel
theorem dL_law_2224 : decode cL_law 2224 = .ok (.istore 5, 2) := by decide +kernel
theorem dL_law_2226 : decode cL_law 2226 = .ok (.aload_n 2, 1) := by decide +kernel
theorem dL_law_2227 : decode cL_law 2227 = .ok (.aload_n 0, 1) := by decide +kernel
theorem dL_law_2228 : decode cL_law 2228 = .ok (.iload 4, 2) := by decide +kernel
theorem dL_law_2230 : decode cL_law 2230 = .ok (.iconst 1, 1) := by decide +kernel
theorem dL_law_2231 : decode cL_law 2231 = .ok (.iadd, 1) := by decide +kernel
theorem dL_law_2232 : decode cL_law 2232 = .ok (.iaload, 1) := by decide +kernel
theorem dL_law_2233 : decode cL_law 2233 = .ok (.invokevirtual 239, 3) := by decide +kernel
theorem dL_law_2236 : decode cL_law 2236 = .ok (.istore 6, 2) := by decide +kernel
theorem dL_law_2238 : decode cL_law 2238 = .ok (.aload_n 2, 1) := by decide +kernel
theorem dL_law_2239 : decode cL_law 2239 = .ok (.invokevirtual 144, 3) := by decide +kernel
theorem dL_law_2242 : decode cL_law 2242 = .ok (.iload 5, 2) := by decide +kernel
theorem dL_law_2244 : decode cL_law 2244 = .ok (.if_icmp .eq 5, 3) := by decide +kernel
theorem dL_law_2247 : decode cL_law 2247 = .ok (.iconst 0, 1) := by decide +kernel
theorem dL_law_2248 : decode cL_law 2248 = .ok (.ireturn, 1) := by decide +kernel
theorem dL_law_2249 : decode cL_law 2249 = .ok (.iload 5, 2) := by decide +kernel
theorem dL_law_2251 : decode cL_law 2251 = .ok (.ifCond .ne 15, 3) := by decide +kernel
theorem dL_law_2254 : decode cL_law 2254 = .ok (.aload_n 3, 1) := by decide +kernel
theorem dL_law_2255 : decode cL_law 2255 = .ok (.iconst 0, 1) := by decide +kernel
theorem dL_law_2256 : decode cL_law 2256 = .ok (.laload, 1) := by decide +kernel
theorem dL_law_2257 : decode cL_law 2257 = .ok (.iload 6, 2) := by decide +kernel
theorem dL_law_2259 : decode cL_law 2259 = .ok (.i2l, 1) := by decide +kernel
theorem dL_law_2260 : decode cL_law 2260 = .ok (.lcmp, 1) := by decide +kernel
theorem dL_law_2261 : decode cL_law 2261 = .ok (.ifCond .eq 5, 3) := by decide +kernel
theorem dL_law_2264 : decode cL_law 2264 = .ok (.iconst 0, 1) := by decide +kernel
theorem dL_law_2265 : decode cL_law 2265 = .ok (.ireturn, 1) := by decide +kernel
theorem dL_law_2266 : decode cL_law 2266 = .ok (.goto 531, 3) := by decide +kernel
theorem dL_law_2269 : decode cL_law 2269 = .ok (.aload_n 1, 1) := by decide +kernel
theorem dL_law_2270 : decode cL_law 2270 = .ok (.aload_n 0, 1) := by decide +kernel
theorem dL_law_2271 : decode cL_law 2271 = .ok (.iload 4, 2) := by decide +kernel
theorem dL_law_2273 : decode cL_law 2273 = .ok (.iconst 1, 1) := by decide +kernel
theorem dL_law_2274 : decode cL_law 2274 = .ok (.iadd, 1) := by decide +kernel
theorem dL_law_2275 : decode cL_law 2275 = .ok (.iaload, 1) := by decide +kernel
theorem dL_law_2276 : decode cL_law 2276 = .ok (.aload_n 0, 1) := by decide +kernel
theorem dL_law_2277 : decode cL_law 2277 = .ok (.iload 4, 2) := by decide +kernel
theorem dL_law_2279 : decode cL_law 2279 = .ok (.iconst 2, 1) := by decide +kernel
theorem dL_law_2280 : decode cL_law 2280 = .ok (.iadd, 1) := by decide +kernel
theorem dL_law_2281 : decode cL_law 2281 = .ok (.iaload, 1) := by decide +kernel
theorem dL_law_2282 : decode cL_law 2282 = .ok (.aload_n 0, 1) := by decide +kernel
theorem dL_law_2283 : decode cL_law 2283 = .ok (.iload 4, 2) := by decide +kernel
theorem dL_law_2285 : decode cL_law 2285 = .ok (.iconst 3, 1) := by decide +kernel
theorem dL_law_2286 : decode cL_law 2286 = .ok (.iadd, 1) := by decide +kernel
theorem dL_law_2287 : decode cL_law 2287 = .ok (.iaload, 1) := by decide +kernel
theorem dL_law_2288 : decode cL_law 2288 = .ok (.aload_n 3, 1) := by decide +kernel
theorem dL_law_2289 : decode cL_law 2289 = .ok (.invokestatic 240, 3) := by decide +kernel
theorem dL_law_2292 : decode cL_law 2292 = .ok (.istore 5, 2) := by decide +kernel
theorem dL_law_2294 : decode cL_law 2294 = .ok (.aload_n 2, 1) := by decide +kernel
theorem dL_law_2295 : decode cL_law 2295 = .ok (.aload_n 0, 1) := by decide +kernel
theorem dL_law_2296 : decode cL_law 2296 = .ok (.iload 4, 2) := by decide +kernel
theorem dL_law_2298 : decode cL_law 2298 = .ok (.iconst 1, 1) := by decide +kernel
theorem dL_law_2299 : decode cL_law 2299 = .ok (.iadd, 1) := by decide +kernel
theorem dL_law_2300 : decode cL_law 2300 = .ok (.iaload, 1) := by decide +kernel
theorem dL_law_2301 : decode cL_law 2301 = .ok (.aload_n 0, 1) := by decide +kernel
theorem dL_law_2302 : decode cL_law 2302 = .ok (.iload 4, 2) := by decide +kernel
theorem dL_law_2304 : decode cL_law 2304 = .ok (.iconst 2, 1) := by decide +kernel
theorem dL_law_2305 : decode cL_law 2305 = .ok (.iadd, 1) := by decide +kernel
theorem dL_law_2306 : decode cL_law 2306 = .ok (.iaload, 1) := by decide +kernel
theorem dL_law_2307 : decode cL_law 2307 = .ok (.aload_n 0, 1) := by decide +kernel
theorem dL_law_2308 : decode cL_law 2308 = .ok (.iload 4, 2) := by decide +kernel
theorem dL_law_2310 : decode cL_law 2310 = .ok (.iconst 3, 1) := by decide +kernel
theorem dL_law_2311 : decode cL_law 2311 = .ok (.iadd, 1) := by decide +kernel
theorem dL_law_2312 : decode cL_law 2312 = .ok (.iaload, 1) := by decide +kernel
theorem dL_law_2313 : decode cL_law 2313 = .ok (.invokevirtual 242, 3) := by decide +kernel
theorem dL_law_2316 : decode cL_law 2316 = .ok (.istore 6, 2) := by decide +kernel
theorem dL_law_2318 : decode cL_law 2318 = .ok (.aload_n 2, 1) := by decide +kernel
theorem dL_law_2319 : decode cL_law 2319 = .ok (.invokevirtual 144, 3) := by decide +kernel
theorem dL_law_2322 : decode cL_law 2322 = .ok (.iload 5, 2) := by decide +kernel
theorem dL_law_2324 : decode cL_law 2324 = .ok (.if_icmp .eq 5, 3) := by decide +kernel
theorem dL_law_2327 : decode cL_law 2327 = .ok (.iconst 0, 1) := by decide +kernel
theorem dL_law_2328 : decode cL_law 2328 = .ok (.ireturn, 1) := by decide +kernel
theorem dL_law_2329 : decode cL_law 2329 = .ok (.iload 5, 2) := by decide +kernel
theorem dL_law_2331 : decode cL_law 2331 = .ok (.ifCond .ne 15, 3) := by decide +kernel
theorem dL_law_2334 : decode cL_law 2334 = .ok (.aload_n 3, 1) := by decide +kernel
theorem dL_law_2335 : decode cL_law 2335 = .ok (.iconst 0, 1) := by decide +kernel
theorem dL_law_2336 : decode cL_law 2336 = .ok (.laload, 1) := by decide +kernel
theorem dL_law_2337 : decode cL_law 2337 = .ok (.iload 6, 2) := by decide +kernel
theorem dL_law_2339 : decode cL_law 2339 = .ok (.i2l, 1) := by decide +kernel
theorem dL_law_2340 : decode cL_law 2340 = .ok (.lcmp, 1) := by decide +kernel
theorem dL_law_2341 : decode cL_law 2341 = .ok (.ifCond .eq 5, 3) := by decide +kernel
theorem dL_law_2344 : decode cL_law 2344 = .ok (.iconst 0, 1) := by decide +kernel
theorem dL_law_2345 : decode cL_law 2345 = .ok (.ireturn, 1) := by decide +kernel
theorem dL_law_2346 : decode cL_law 2346 = .ok (.goto 451, 3) := by decide +kernel
theorem dL_law_2349 : decode cL_law 2349 = .ok (.aload_n 1, 1) := by decide +kernel
theorem dL_law_2350 : decode cL_law 2350 = .ok (.aload_n 0, 1) := by decide +kernel
theorem dL_law_2351 : decode cL_law 2351 = .ok (.iload 4, 2) := by decide +kernel
theorem dL_law_2353 : decode cL_law 2353 = .ok (.iconst 1, 1) := by decide +kernel
theorem dL_law_2354 : decode cL_law 2354 = .ok (.iadd, 1) := by decide +kernel
theorem dL_law_2355 : decode cL_law 2355 = .ok (.iaload, 1) := by decide +kernel
theorem dL_law_2356 : decode cL_law 2356 = .ok (.aload_n 0, 1) := by decide +kernel
theorem dL_law_2357 : decode cL_law 2357 = .ok (.iload 4, 2) := by decide +kernel
theorem dL_law_2359 : decode cL_law 2359 = .ok (.iconst 2, 1) := by decide +kernel
theorem dL_law_2360 : decode cL_law 2360 = .ok (.iadd, 1) := by decide +kernel
theorem dL_law_2361 : decode cL_law 2361 = .ok (.iaload, 1) := by decide +kernel
theorem dL_law_2362 : decode cL_law 2362 = .ok (.aload_n 3, 1) := by decide +kernel
theorem dL_law_2363 : decode cL_law 2363 = .ok (.invokestatic 243, 3) := by decide +kernel
theorem dL_law_2366 : decode cL_law 2366 = .ok (.istore 5, 2) := by decide +kernel
theorem dL_law_2368 : decode cL_law 2368 = .ok (.aload_n 2, 1) := by decide +kernel
theorem dL_law_2369 : decode cL_law 2369 = .ok (.aload_n 0, 1) := by decide +kernel
theorem dL_law_2370 : decode cL_law 2370 = .ok (.iload 4, 2) := by decide +kernel
theorem dL_law_2372 : decode cL_law 2372 = .ok (.iconst 1, 1) := by decide +kernel
theorem dL_law_2373 : decode cL_law 2373 = .ok (.iadd, 1) := by decide +kernel
theorem dL_law_2374 : decode cL_law 2374 = .ok (.iaload, 1) := by decide +kernel
theorem dL_law_2375 : decode cL_law 2375 = .ok (.aload_n 0, 1) := by decide +kernel
theorem dL_law_2376 : decode cL_law 2376 = .ok (.iload 4, 2) := by decide +kernel
theorem dL_law_2378 : decode cL_law 2378 = .ok (.iconst 2, 1) := by decide +kernel
theorem dL_law_2379 : decode cL_law 2379 = .ok (.iadd, 1) := by decide +kernel
theorem dL_law_2380 : decode cL_law 2380 = .ok (.iaload, 1) := by decide +kernel
theorem dL_law_2381 : decode cL_law 2381 = .ok (.invokevirtual 245, 3) := by decide +kernel
theorem dL_law_2384 : decode cL_law 2384 = .ok (.istore 6, 2) := by decide +kernel
theorem dL_law_2386 : decode cL_law 2386 = .ok (.aload_n 2, 1) := by decide +kernel
theorem dL_law_2387 : decode cL_law 2387 = .ok (.invokevirtual 144, 3) := by decide +kernel
theorem dL_law_2390 : decode cL_law 2390 = .ok (.iload 5, 2) := by decide +kernel
theorem dL_law_2392 : decode cL_law 2392 = .ok (.if_icmp .eq 5, 3) := by decide +kernel
theorem dL_law_2395 : decode cL_law 2395 = .ok (.iconst 0, 1) := by decide +kernel
theorem dL_law_2396 : decode cL_law 2396 = .ok (.ireturn, 1) := by decide +kernel
theorem dL_law_2397 : decode cL_law 2397 = .ok (.iload 5, 2) := by decide +kernel
theorem dL_law_2399 : decode cL_law 2399 = .ok (.ifCond .ne 15, 3) := by decide +kernel
theorem dL_law_2402 : decode cL_law 2402 = .ok (.aload_n 3, 1) := by decide +kernel
theorem dL_law_2403 : decode cL_law 2403 = .ok (.iconst 0, 1) := by decide +kernel
theorem dL_law_2404 : decode cL_law 2404 = .ok (.laload, 1) := by decide +kernel
theorem dL_law_2405 : decode cL_law 2405 = .ok (.iload 6, 2) := by decide +kernel
theorem dL_law_2407 : decode cL_law 2407 = .ok (.i2l, 1) := by decide +kernel
theorem dL_law_2408 : decode cL_law 2408 = .ok (.lcmp, 1) := by decide +kernel
theorem dL_law_2409 : decode cL_law 2409 = .ok (.ifCond .eq 5, 3) := by decide +kernel
theorem dL_law_2412 : decode cL_law 2412 = .ok (.iconst 0, 1) := by decide +kernel
theorem dL_law_2413 : decode cL_law 2413 = .ok (.ireturn, 1) := by decide +kernel
theorem dL_law_2414 : decode cL_law 2414 = .ok (.goto 383, 3) := by decide +kernel
theorem dL_law_2417 : decode cL_law 2417 = .ok (.aload_n 1, 1) := by decide +kernel
theorem dL_law_2418 : decode cL_law 2418 = .ok (.invokevirtual 246, 3) := by decide +kernel
theorem dL_law_2421 : decode cL_law 2421 = .ok (.aload_n 2, 1) := by decide +kernel
theorem dL_law_2422 : decode cL_law 2422 = .ok (.invokevirtual 249, 3) := by decide +kernel
theorem dL_law_2425 : decode cL_law 2425 = .ok (.if_icmp .eq 372, 3) := by decide +kernel
theorem dL_law_2428 : decode cL_law 2428 = .ok (.iconst 0, 1) := by decide +kernel
theorem dL_law_2429 : decode cL_law 2429 = .ok (.ireturn, 1) := by decide +kernel
theorem dL_law_2430 : decode cL_law 2430 = .ok (.aload_n 1, 1) := by decide +kernel
theorem dL_law_2431 : decode cL_law 2431 = .ok (.invokevirtual 250, 3) := by decide +kernel
theorem dL_law_2434 : decode cL_law 2434 = .ok (.aload_n 2, 1) := by decide +kernel
theorem dL_law_2435 : decode cL_law 2435 = .ok (.invokevirtual 253, 3) := by decide +kernel
theorem dL_law_2438 : decode cL_law 2438 = .ok (.if_icmp .eq 359, 3) := by decide +kernel
theorem dL_law_2441 : decode cL_law 2441 = .ok (.iconst 0, 1) := by decide +kernel
theorem dL_law_2442 : decode cL_law 2442 = .ok (.ireturn, 1) := by decide +kernel
theorem dL_law_2443 : decode cL_law 2443 = .ok (.aload_n 1, 1) := by decide +kernel
theorem dL_law_2444 : decode cL_law 2444 = .ok (.invokevirtual 254, 3) := by decide +kernel
theorem dL_law_2447 : decode cL_law 2447 = .ok (.aload_n 2, 1) := by decide +kernel
theorem dL_law_2448 : decode cL_law 2448 = .ok (.invokevirtual 257, 3) := by decide +kernel
theorem dL_law_2451 : decode cL_law 2451 = .ok (.if_icmp .eq 346, 3) := by decide +kernel
theorem dL_law_2454 : decode cL_law 2454 = .ok (.iconst 0, 1) := by decide +kernel
theorem dL_law_2455 : decode cL_law 2455 = .ok (.ireturn, 1) := by decide +kernel
theorem dL_law_2456 : decode cL_law 2456 = .ok (.aload_n 1, 1) := by decide +kernel
theorem dL_law_2457 : decode cL_law 2457 = .ok (.invokevirtual 258, 3) := by decide +kernel
theorem dL_law_2460 : decode cL_law 2460 = .ok (.aload_n 2, 1) := by decide +kernel
theorem dL_law_2461 : decode cL_law 2461 = .ok (.invokevirtual 261, 3) := by decide +kernel
theorem dL_law_2464 : decode cL_law 2464 = .ok (.if_icmp .eq 333, 3) := by decide +kernel
theorem dL_law_2467 : decode cL_law 2467 = .ok (.iconst 0, 1) := by decide +kernel
theorem dL_law_2468 : decode cL_law 2468 = .ok (.ireturn, 1) := by decide +kernel
theorem dL_law_2469 : decode cL_law 2469 = .ok (.aload_n 1, 1) := by decide +kernel
theorem dL_law_2470 : decode cL_law 2470 = .ok (.aload_n 0, 1) := by decide +kernel
theorem dL_law_2471 : decode cL_law 2471 = .ok (.iload 4, 2) := by decide +kernel
theorem dL_law_2473 : decode cL_law 2473 = .ok (.iconst 1, 1) := by decide +kernel
theorem dL_law_2474 : decode cL_law 2474 = .ok (.iadd, 1) := by decide +kernel
theorem dL_law_2475 : decode cL_law 2475 = .ok (.iaload, 1) := by decide +kernel
theorem dL_law_2476 : decode cL_law 2476 = .ok (.aload_n 3, 1) := by decide +kernel
theorem dL_law_2477 : decode cL_law 2477 = .ok (.invokestatic 262, 3) := by decide +kernel
theorem dL_law_2480 : decode cL_law 2480 = .ok (.istore 5, 2) := by decide +kernel
theorem dL_law_2482 : decode cL_law 2482 = .ok (.aload_n 2, 1) := by decide +kernel
theorem dL_law_2483 : decode cL_law 2483 = .ok (.aload_n 0, 1) := by decide +kernel
theorem dL_law_2484 : decode cL_law 2484 = .ok (.iload 4, 2) := by decide +kernel
theorem dL_law_2486 : decode cL_law 2486 = .ok (.iconst 1, 1) := by decide +kernel
theorem dL_law_2487 : decode cL_law 2487 = .ok (.iadd, 1) := by decide +kernel
theorem dL_law_2488 : decode cL_law 2488 = .ok (.iaload, 1) := by decide +kernel
theorem dL_law_2489 : decode cL_law 2489 = .ok (.invokevirtual 264, 3) := by decide +kernel
theorem dL_law_2492 : decode cL_law 2492 = .ok (.istore 6, 2) := by decide +kernel
theorem dL_law_2494 : decode cL_law 2494 = .ok (.aload_n 2, 1) := by decide +kernel
theorem dL_law_2495 : decode cL_law 2495 = .ok (.invokevirtual 144, 3) := by decide +kernel
theorem dL_law_2498 : decode cL_law 2498 = .ok (.iload 5, 2) := by decide +kernel
theorem dL_law_2500 : decode cL_law 2500 = .ok (.if_icmp .eq 5, 3) := by decide +kernel
theorem dL_law_2503 : decode cL_law 2503 = .ok (.iconst 0, 1) := by decide +kernel
theorem dL_law_2504 : decode cL_law 2504 = .ok (.ireturn, 1) := by decide +kernel
theorem dL_law_2505 : decode cL_law 2505 = .ok (.iload 5, 2) := by decide +kernel
theorem dL_law_2507 : decode cL_law 2507 = .ok (.ifCond .ne 15, 3) := by decide +kernel
theorem dL_law_2510 : decode cL_law 2510 = .ok (.aload_n 3, 1) := by decide +kernel
theorem dL_law_2511 : decode cL_law 2511 = .ok (.iconst 0, 1) := by decide +kernel
theorem dL_law_2512 : decode cL_law 2512 = .ok (.laload, 1) := by decide +kernel
theorem dL_law_2513 : decode cL_law 2513 = .ok (.iload 6, 2) := by decide +kernel
theorem dL_law_2515 : decode cL_law 2515 = .ok (.i2l, 1) := by decide +kernel
theorem dL_law_2516 : decode cL_law 2516 = .ok (.lcmp, 1) := by decide +kernel
theorem dL_law_2517 : decode cL_law 2517 = .ok (.ifCond .eq 5, 3) := by decide +kernel
theorem dL_law_2520 : decode cL_law 2520 = .ok (.iconst 0, 1) := by decide +kernel
theorem dL_law_2521 : decode cL_law 2521 = .ok (.ireturn, 1) := by decide +kernel
theorem dL_law_2522 : decode cL_law 2522 = .ok (.goto 275, 3) := by decide +kernel
theorem dL_law_2525 : decode cL_law 2525 = .ok (.aload_n 1, 1) := by decide +kernel
theorem dL_law_2526 : decode cL_law 2526 = .ok (.aload_n 0, 1) := by decide +kernel
theorem dL_law_2527 : decode cL_law 2527 = .ok (.iload 4, 2) := by decide +kernel
theorem dL_law_2529 : decode cL_law 2529 = .ok (.iconst 1, 1) := by decide +kernel
theorem dL_law_2530 : decode cL_law 2530 = .ok (.iadd, 1) := by decide +kernel
theorem dL_law_2531 : decode cL_law 2531 = .ok (.iaload, 1) := by decide +kernel
theorem dL_law_2532 : decode cL_law 2532 = .ok (.aload_n 0, 1) := by decide +kernel
theorem dL_law_2533 : decode cL_law 2533 = .ok (.iload 4, 2) := by decide +kernel
theorem dL_law_2535 : decode cL_law 2535 = .ok (.iconst 2, 1) := by decide +kernel
theorem dL_law_2536 : decode cL_law 2536 = .ok (.iadd, 1) := by decide +kernel
theorem dL_law_2537 : decode cL_law 2537 = .ok (.iaload, 1) := by decide +kernel
theorem dL_law_2538 : decode cL_law 2538 = .ok (.aload_n 0, 1) := by decide +kernel
theorem dL_law_2539 : decode cL_law 2539 = .ok (.iload 4, 2) := by decide +kernel
theorem dL_law_2541 : decode cL_law 2541 = .ok (.iconst 3, 1) := by decide +kernel
theorem dL_law_2542 : decode cL_law 2542 = .ok (.iadd, 1) := by decide +kernel
theorem dL_law_2543 : decode cL_law 2543 = .ok (.iaload, 1) := by decide +kernel
theorem dL_law_2544 : decode cL_law 2544 = .ok (.aload_n 0, 1) := by decide +kernel
theorem dL_law_2545 : decode cL_law 2545 = .ok (.iload 4, 2) := by decide +kernel
theorem dL_law_2547 : decode cL_law 2547 = .ok (.iconst 4, 1) := by decide +kernel
theorem dL_law_2548 : decode cL_law 2548 = .ok (.iadd, 1) := by decide +kernel
theorem dL_law_2549 : decode cL_law 2549 = .ok (.iaload, 1) := by decide +kernel
theorem dL_law_2550 : decode cL_law 2550 = .ok (.ifCond .eq 7, 3) := by decide +kernel
theorem dL_law_2553 : decode cL_law 2553 = .ok (.iconst 1, 1) := by decide +kernel
theorem dL_law_2554 : decode cL_law 2554 = .ok (.goto 4, 3) := by decide +kernel
theorem dL_law_2557 : decode cL_law 2557 = .ok (.iconst 0, 1) := by decide +kernel
theorem dL_law_2558 : decode cL_law 2558 = .ok (.invokestatic 265, 3) := by decide +kernel
theorem dL_law_2561 : decode cL_law 2561 = .ok (.istore 5, 2) := by decide +kernel
theorem dL_law_2563 : decode cL_law 2563 = .ok (.aload_n 2, 1) := by decide +kernel
theorem dL_law_2564 : decode cL_law 2564 = .ok (.aload_n 0, 1) := by decide +kernel
theorem dL_law_2565 : decode cL_law 2565 = .ok (.iload 4, 2) := by decide +kernel
theorem dL_law_2567 : decode cL_law 2567 = .ok (.iconst 1, 1) := by decide +kernel
theorem dL_law_2568 : decode cL_law 2568 = .ok (.iadd, 1) := by decide +kernel
theorem dL_law_2569 : decode cL_law 2569 = .ok (.iaload, 1) := by decide +kernel
theorem dL_law_2570 : decode cL_law 2570 = .ok (.aload_n 0, 1) := by decide +kernel
theorem dL_law_2571 : decode cL_law 2571 = .ok (.iload 4, 2) := by decide +kernel
theorem dL_law_2573 : decode cL_law 2573 = .ok (.iconst 2, 1) := by decide +kernel
theorem dL_law_2574 : decode cL_law 2574 = .ok (.iadd, 1) := by decide +kernel
theorem dL_law_2575 : decode cL_law 2575 = .ok (.iaload, 1) := by decide +kernel
theorem dL_law_2576 : decode cL_law 2576 = .ok (.aload_n 0, 1) := by decide +kernel
theorem dL_law_2577 : decode cL_law 2577 = .ok (.iload 4, 2) := by decide +kernel
theorem dL_law_2579 : decode cL_law 2579 = .ok (.iconst 3, 1) := by decide +kernel
theorem dL_law_2580 : decode cL_law 2580 = .ok (.iadd, 1) := by decide +kernel
theorem dL_law_2581 : decode cL_law 2581 = .ok (.iaload, 1) := by decide +kernel
theorem dL_law_2582 : decode cL_law 2582 = .ok (.aload_n 0, 1) := by decide +kernel
theorem dL_law_2583 : decode cL_law 2583 = .ok (.iload 4, 2) := by decide +kernel
theorem dL_law_2585 : decode cL_law 2585 = .ok (.iconst 4, 1) := by decide +kernel
theorem dL_law_2586 : decode cL_law 2586 = .ok (.iadd, 1) := by decide +kernel
theorem dL_law_2587 : decode cL_law 2587 = .ok (.iaload, 1) := by decide +kernel
theorem dL_law_2588 : decode cL_law 2588 = .ok (.ifCond .eq 7, 3) := by decide +kernel
theorem dL_law_2591 : decode cL_law 2591 = .ok (.iconst 1, 1) := by decide +kernel
theorem dL_law_2592 : decode cL_law 2592 = .ok (.goto 4, 3) := by decide +kernel
theorem dL_law_2595 : decode cL_law 2595 = .ok (.iconst 0, 1) := by decide +kernel
theorem dL_law_2596 : decode cL_law 2596 = .ok (.invokevirtual 268, 3) := by decide +kernel
theorem dL_law_2599 : decode cL_law 2599 = .ok (.aload_n 2, 1) := by decide +kernel
theorem dL_law_2600 : decode cL_law 2600 = .ok (.invokevirtual 144, 3) := by decide +kernel
theorem dL_law_2603 : decode cL_law 2603 = .ok (.iload 5, 2) := by decide +kernel
theorem dL_law_2605 : decode cL_law 2605 = .ok (.if_icmp .eq 5, 3) := by decide +kernel
theorem dL_law_2608 : decode cL_law 2608 = .ok (.iconst 0, 1) := by decide +kernel
theorem dL_law_2609 : decode cL_law 2609 = .ok (.ireturn, 1) := by decide +kernel
theorem dL_law_2610 : decode cL_law 2610 = .ok (.goto 187, 3) := by decide +kernel
theorem dL_law_2613 : decode cL_law 2613 = .ok (.aload_n 1, 1) := by decide +kernel
theorem dL_law_2614 : decode cL_law 2614 = .ok (.aload_n 0, 1) := by decide +kernel
theorem dL_law_2615 : decode cL_law 2615 = .ok (.iload 4, 2) := by decide +kernel
theorem dL_law_2617 : decode cL_law 2617 = .ok (.iconst 1, 1) := by decide +kernel
theorem dL_law_2618 : decode cL_law 2618 = .ok (.iadd, 1) := by decide +kernel
theorem dL_law_2619 : decode cL_law 2619 = .ok (.iaload, 1) := by decide +kernel
theorem dL_law_2620 : decode cL_law 2620 = .ok (.aload_n 0, 1) := by decide +kernel
theorem dL_law_2621 : decode cL_law 2621 = .ok (.iload 4, 2) := by decide +kernel
theorem dL_law_2623 : decode cL_law 2623 = .ok (.iconst 2, 1) := by decide +kernel
theorem dL_law_2624 : decode cL_law 2624 = .ok (.iadd, 1) := by decide +kernel
theorem dL_law_2625 : decode cL_law 2625 = .ok (.iaload, 1) := by decide +kernel
theorem dL_law_2626 : decode cL_law 2626 = .ok (.aload_n 0, 1) := by decide +kernel
theorem dL_law_2627 : decode cL_law 2627 = .ok (.iload 4, 2) := by decide +kernel
theorem dL_law_2629 : decode cL_law 2629 = .ok (.iconst 3, 1) := by decide +kernel
theorem dL_law_2630 : decode cL_law 2630 = .ok (.iadd, 1) := by decide +kernel
theorem dL_law_2631 : decode cL_law 2631 = .ok (.iaload, 1) := by decide +kernel
theorem dL_law_2632 : decode cL_law 2632 = .ok (.aload_n 0, 1) := by decide +kernel
theorem dL_law_2633 : decode cL_law 2633 = .ok (.iload 4, 2) := by decide +kernel
theorem dL_law_2635 : decode cL_law 2635 = .ok (.iconst 4, 1) := by decide +kernel
theorem dL_law_2636 : decode cL_law 2636 = .ok (.iadd, 1) := by decide +kernel
theorem dL_law_2637 : decode cL_law 2637 = .ok (.iaload, 1) := by decide +kernel
theorem dL_law_2638 : decode cL_law 2638 = .ok (.aload_n 3, 1) := by decide +kernel
theorem dL_law_2639 : decode cL_law 2639 = .ok (.invokestatic 269, 3) := by decide +kernel
theorem dL_law_2642 : decode cL_law 2642 = .ok (.istore 5, 2) := by decide +kernel
theorem dL_law_2644 : decode cL_law 2644 = .ok (.aload_n 2, 1) := by decide +kernel
theorem dL_law_2645 : decode cL_law 2645 = .ok (.aload_n 0, 1) := by decide +kernel
theorem dL_law_2646 : decode cL_law 2646 = .ok (.iload 4, 2) := by decide +kernel
theorem dL_law_2648 : decode cL_law 2648 = .ok (.iconst 1, 1) := by decide +kernel
theorem dL_law_2649 : decode cL_law 2649 = .ok (.iadd, 1) := by decide +kernel
theorem dL_law_2650 : decode cL_law 2650 = .ok (.iaload, 1) := by decide +kernel
theorem dL_law_2651 : decode cL_law 2651 = .ok (.aload_n 0, 1) := by decide +kernel
theorem dL_law_2652 : decode cL_law 2652 = .ok (.iload 4, 2) := by decide +kernel
theorem dL_law_2654 : decode cL_law 2654 = .ok (.iconst 2, 1) := by decide +kernel
theorem dL_law_2655 : decode cL_law 2655 = .ok (.iadd, 1) := by decide +kernel
theorem dL_law_2656 : decode cL_law 2656 = .ok (.iaload, 1) := by decide +kernel
theorem dL_law_2657 : decode cL_law 2657 = .ok (.aload_n 0, 1) := by decide +kernel
theorem dL_law_2658 : decode cL_law 2658 = .ok (.iload 4, 2) := by decide +kernel
theorem dL_law_2660 : decode cL_law 2660 = .ok (.iconst 3, 1) := by decide +kernel
theorem dL_law_2661 : decode cL_law 2661 = .ok (.iadd, 1) := by decide +kernel
theorem dL_law_2662 : decode cL_law 2662 = .ok (.iaload, 1) := by decide +kernel
theorem dL_law_2663 : decode cL_law 2663 = .ok (.aload_n 0, 1) := by decide +kernel
theorem dL_law_2664 : decode cL_law 2664 = .ok (.iload 4, 2) := by decide +kernel
theorem dL_law_2666 : decode cL_law 2666 = .ok (.iconst 4, 1) := by decide +kernel
theorem dL_law_2667 : decode cL_law 2667 = .ok (.iadd, 1) := by decide +kernel
theorem dL_law_2668 : decode cL_law 2668 = .ok (.iaload, 1) := by decide +kernel
theorem dL_law_2669 : decode cL_law 2669 = .ok (.invokevirtual 272, 3) := by decide +kernel
theorem dL_law_2672 : decode cL_law 2672 = .ok (.istore 6, 2) := by decide +kernel
theorem dL_law_2674 : decode cL_law 2674 = .ok (.aload_n 2, 1) := by decide +kernel
theorem dL_law_2675 : decode cL_law 2675 = .ok (.invokevirtual 144, 3) := by decide +kernel
theorem dL_law_2678 : decode cL_law 2678 = .ok (.iload 5, 2) := by decide +kernel
theorem dL_law_2680 : decode cL_law 2680 = .ok (.if_icmp .eq 5, 3) := by decide +kernel
theorem dL_law_2683 : decode cL_law 2683 = .ok (.iconst 0, 1) := by decide +kernel
theorem dL_law_2684 : decode cL_law 2684 = .ok (.ireturn, 1) := by decide +kernel
theorem dL_law_2685 : decode cL_law 2685 = .ok (.iload 5, 2) := by decide +kernel
theorem dL_law_2687 : decode cL_law 2687 = .ok (.ifCond .ne 15, 3) := by decide +kernel
theorem dL_law_2690 : decode cL_law 2690 = .ok (.aload_n 3, 1) := by decide +kernel
theorem dL_law_2691 : decode cL_law 2691 = .ok (.iconst 0, 1) := by decide +kernel
theorem dL_law_2692 : decode cL_law 2692 = .ok (.laload, 1) := by decide +kernel
theorem dL_law_2693 : decode cL_law 2693 = .ok (.iload 6, 2) := by decide +kernel
theorem dL_law_2695 : decode cL_law 2695 = .ok (.i2l, 1) := by decide +kernel
theorem dL_law_2696 : decode cL_law 2696 = .ok (.lcmp, 1) := by decide +kernel
theorem dL_law_2697 : decode cL_law 2697 = .ok (.ifCond .eq 5, 3) := by decide +kernel
theorem dL_law_2700 : decode cL_law 2700 = .ok (.iconst 0, 1) := by decide +kernel
theorem dL_law_2701 : decode cL_law 2701 = .ok (.ireturn, 1) := by decide +kernel
theorem dL_law_2702 : decode cL_law 2702 = .ok (.goto 95, 3) := by decide +kernel
theorem dL_law_2705 : decode cL_law 2705 = .ok (.aload_n 1, 1) := by decide +kernel
theorem dL_law_2706 : decode cL_law 2706 = .ok (.aload_n 0, 1) := by decide +kernel
theorem dL_law_2707 : decode cL_law 2707 = .ok (.iload 4, 2) := by decide +kernel
theorem dL_law_2709 : decode cL_law 2709 = .ok (.iconst 1, 1) := by decide +kernel
theorem dL_law_2710 : decode cL_law 2710 = .ok (.iadd, 1) := by decide +kernel
theorem dL_law_2711 : decode cL_law 2711 = .ok (.iaload, 1) := by decide +kernel
theorem dL_law_2712 : decode cL_law 2712 = .ok (.aload_n 0, 1) := by decide +kernel
theorem dL_law_2713 : decode cL_law 2713 = .ok (.iload 4, 2) := by decide +kernel
theorem dL_law_2715 : decode cL_law 2715 = .ok (.iconst 2, 1) := by decide +kernel
theorem dL_law_2716 : decode cL_law 2716 = .ok (.iadd, 1) := by decide +kernel
theorem dL_law_2717 : decode cL_law 2717 = .ok (.iaload, 1) := by decide +kernel
theorem dL_law_2718 : decode cL_law 2718 = .ok (.aload_n 0, 1) := by decide +kernel
theorem dL_law_2719 : decode cL_law 2719 = .ok (.iload 4, 2) := by decide +kernel
theorem dL_law_2721 : decode cL_law 2721 = .ok (.iconst 3, 1) := by decide +kernel
theorem dL_law_2722 : decode cL_law 2722 = .ok (.iadd, 1) := by decide +kernel
theorem dL_law_2723 : decode cL_law 2723 = .ok (.iaload, 1) := by decide +kernel
theorem dL_law_2724 : decode cL_law 2724 = .ok (.aload_n 0, 1) := by decide +kernel
theorem dL_law_2725 : decode cL_law 2725 = .ok (.iload 4, 2) := by decide +kernel
theorem dL_law_2727 : decode cL_law 2727 = .ok (.iconst 4, 1) := by decide +kernel
theorem dL_law_2728 : decode cL_law 2728 = .ok (.iadd, 1) := by decide +kernel
theorem dL_law_2729 : decode cL_law 2729 = .ok (.iaload, 1) := by decide +kernel
theorem dL_law_2730 : decode cL_law 2730 = .ok (.aload_n 3, 1) := by decide +kernel
theorem dL_law_2731 : decode cL_law 2731 = .ok (.invokestatic 273, 3) := by decide +kernel
theorem dL_law_2734 : decode cL_law 2734 = .ok (.istore 5, 2) := by decide +kernel
theorem dL_law_2736 : decode cL_law 2736 = .ok (.aload_n 2, 1) := by decide +kernel
theorem dL_law_2737 : decode cL_law 2737 = .ok (.aload_n 0, 1) := by decide +kernel
theorem dL_law_2738 : decode cL_law 2738 = .ok (.iload 4, 2) := by decide +kernel
theorem dL_law_2740 : decode cL_law 2740 = .ok (.iconst 1, 1) := by decide +kernel
theorem dL_law_2741 : decode cL_law 2741 = .ok (.iadd, 1) := by decide +kernel
theorem dL_law_2742 : decode cL_law 2742 = .ok (.iaload, 1) := by decide +kernel
theorem dL_law_2743 : decode cL_law 2743 = .ok (.aload_n 0, 1) := by decide +kernel
theorem dL_law_2744 : decode cL_law 2744 = .ok (.iload 4, 2) := by decide +kernel
theorem dL_law_2746 : decode cL_law 2746 = .ok (.iconst 2, 1) := by decide +kernel
theorem dL_law_2747 : decode cL_law 2747 = .ok (.iadd, 1) := by decide +kernel
theorem dL_law_2748 : decode cL_law 2748 = .ok (.iaload, 1) := by decide +kernel
theorem dL_law_2749 : decode cL_law 2749 = .ok (.aload_n 0, 1) := by decide +kernel
theorem dL_law_2750 : decode cL_law 2750 = .ok (.iload 4, 2) := by decide +kernel
theorem dL_law_2752 : decode cL_law 2752 = .ok (.iconst 3, 1) := by decide +kernel
theorem dL_law_2753 : decode cL_law 2753 = .ok (.iadd, 1) := by decide +kernel
theorem dL_law_2754 : decode cL_law 2754 = .ok (.iaload, 1) := by decide +kernel
theorem dL_law_2755 : decode cL_law 2755 = .ok (.aload_n 0, 1) := by decide +kernel
theorem dL_law_2756 : decode cL_law 2756 = .ok (.iload 4, 2) := by decide +kernel
theorem dL_law_2758 : decode cL_law 2758 = .ok (.iconst 4, 1) := by decide +kernel
theorem dL_law_2759 : decode cL_law 2759 = .ok (.iadd, 1) := by decide +kernel
theorem dL_law_2760 : decode cL_law 2760 = .ok (.iaload, 1) := by decide +kernel
theorem dL_law_2761 : decode cL_law 2761 = .ok (.invokevirtual 275, 3) := by decide +kernel
theorem dL_law_2764 : decode cL_law 2764 = .ok (.istore 6, 2) := by decide +kernel
theorem dL_law_2766 : decode cL_law 2766 = .ok (.aload_n 2, 1) := by decide +kernel
theorem dL_law_2767 : decode cL_law 2767 = .ok (.invokevirtual 144, 3) := by decide +kernel
theorem dL_law_2770 : decode cL_law 2770 = .ok (.iload 5, 2) := by decide +kernel
theorem dL_law_2772 : decode cL_law 2772 = .ok (.if_icmp .eq 5, 3) := by decide +kernel
theorem dL_law_2775 : decode cL_law 2775 = .ok (.iconst 0, 1) := by decide +kernel
theorem dL_law_2776 : decode cL_law 2776 = .ok (.ireturn, 1) := by decide +kernel
theorem dL_law_2777 : decode cL_law 2777 = .ok (.iload 5, 2) := by decide +kernel
theorem dL_law_2779 : decode cL_law 2779 = .ok (.ifCond .ne 15, 3) := by decide +kernel
theorem dL_law_2782 : decode cL_law 2782 = .ok (.aload_n 3, 1) := by decide +kernel
theorem dL_law_2783 : decode cL_law 2783 = .ok (.iconst 0, 1) := by decide +kernel
theorem dL_law_2784 : decode cL_law 2784 = .ok (.laload, 1) := by decide +kernel
theorem dL_law_2785 : decode cL_law 2785 = .ok (.iload 6, 2) := by decide +kernel
theorem dL_law_2787 : decode cL_law 2787 = .ok (.i2l, 1) := by decide +kernel
theorem dL_law_2788 : decode cL_law 2788 = .ok (.lcmp, 1) := by decide +kernel
theorem dL_law_2789 : decode cL_law 2789 = .ok (.ifCond .eq 5, 3) := by decide +kernel
theorem dL_law_2792 : decode cL_law 2792 = .ok (.iconst 0, 1) := by decide +kernel
theorem dL_law_2793 : decode cL_law 2793 = .ok (.ireturn, 1) := by decide +kernel
theorem dL_law_2794 : decode cL_law 2794 = .ok (.goto 3, 3) := by decide +kernel
theorem dL_law_2797 : decode cL_law 2797 = .ok (.iinc 4 7, 3) := by decide +kernel
theorem dL_law_2800 : decode cL_law 2800 = .ok (.goto (-2777), 3) := by decide +kernel
theorem dL_law_2803 : decode cL_law 2803 = .ok (.iconst 1, 1) := by decide +kernel
theorem dL_law_2804 : decode cL_law 2804 = .ok (.ireturn, 1) := by decide +kernel
/-! THE LAW'S BODY, case by case -/
def lz (x : Int32) : Int32 := if x = 0 then 0 else 1
theorem lz_01 (x : Int32) : lz x = 0 ∨ lz x = 1 := by
  unfold lz
  by_cases h : x = 0
  · rw [if_pos h]; exact Or.inl rfl
  · rw [if_neg h]; exact Or.inr rfl
theorem lg_cmp_self (x : Int64) : lg_cmp x x = 0 := by
  unfold lg_cmp
  rw [if_neg (by simp [gt_iff_lt, Int64.lt_iff_toInt_lt]), if_pos rfl]
def lWd (D : cD) (Φ : cG) (Dm : mD) (mb o : Nat) (cL : ClassId) (H0 : Heap) (S : cS) (σ : mS) (w : Int64) (H : Heap) : Prop := cP D Φ S H ∧ mP Dm mb σ H ∧ lO o cL w H ∧ H0.size ≤ H.size ∧ ∀ q, q < H0.size → H[q]? = H0[q]?
def lX (p : Program) (s : State) (m : MethodId) (args : Array Value) (meth : Method) (c : Code) (D : cD) (Φ : cG) (Dm : mD) (mb o : Nat) (cL : ClassId) (b L : Nat) (xs : Nat → Int32) : Prop :=
  cX p s m args meth c cL_law 7 (some .boolean) "CascaderyLaw" D Φ ∧ mK Dm s ∧ ArrOfT s cL .long ∧ lNc s ∧ va_X b L xs s s.heap ∧ b < s.heap.size ∧ Φ.2.1 = s.heap.size ∧ Φ.2.1 ≤ Φ.2.2.1 ∧ Φ.2.2.1 = mb ∧ o = mb + 70 ∧ Φ.2.2.2 = mb + 71
theorem mP.kept {Dm : mD} {mb : Nat} {σ : mS} {H H1 : Heap} (h : mP Dm mb σ H) (e : ∀ q, mb ≤ q → q < mb + 70 → q < H.size → H1[q]? = H[q]?) : mP Dm mb σ H1 := by
  obtain ⟨h1, h2⟩ := h
  refine ⟨?_, fun f hf => ?_⟩
  · have h9 := h1
    obtain ⟨cell, q1, -⟩ := h9
    exact h1.kept (e mb (Nat.le_refl _) (by omega) (Array.getElem?_eq_some_iff.mp q1).1)
  · have hr := mA_reg (mb := mb) hf
    rw [e _ hr.1 hr.2 (Array.getElem?_eq_some_iff.mp (h2 f hf)).1]
    exact h2 f hf
section LB
variable {p : Program} {l : Launch} {e : Env} {s : State} {m : MethodId} {args : Array Value} {below : List Frame} {meth : Method} {c : Code} {H : Heap} {cells slots : Nat} {Q : State → Prop} {pc : Nat} {ls : Array Slot} {rest : List Value} {D : cD} {Φ : cG} {Dm : mD} {mb o : Nat} {cL : ClassId} {b L : Nat} {xs : Nat → Int32} {S : cS} {σ : mS} {w : Int64}
theorem lX.lo (X : lX p s m args meth c D Φ Dm mb o cL b L xs) : s.heap.size ≤ mb ∧ o = mb + 70 := by
  obtain ⟨-, -, -, -, -, -, h1, h2, h3, h4, h5⟩ := X
  omega
theorem lX.reg (X : lX p s m args meth c D Φ Dm mb o cL b L xs) {q : Nat} (h : cReg Φ q) : s.heap.size ≤ q ∧ ¬ (mb ≤ q ∧ q < mb + 71) := by
  obtain ⟨-, -, -, -, -, -, h1, h2, h3, h4, h5⟩ := X
  obtain ⟨g1, g2⟩ := h
  rw [h3, h5] at g2
  exact ⟨by omega, g2⟩
theorem lWd.cls (X : lX p s m args meth c D Φ Dm mb o cL b L xs) (Wd : lWd D Φ Dm mb o cL s.heap S σ w H) {S1 : cS} {w1 : Int64} {H1 : Heap} (hP : cP D Φ S1 H1) (hO : lO o cL w1 H1) (z : H.size ≤ H1.size) (hq : ∀ q, q < H.size → ¬ lA Φ o q → H1[q]? = H[q]?) : lWd D Φ Dm mb o cL s.heap S1 σ w1 H1 := by
  obtain ⟨g1, g2, g3, g4, g5⟩ := Wd
  have hlo := X.lo
  refine ⟨hP, g2.kept (fun q h1 h2 h3 => hq q h3 (fun h => ?_)), hO, Nat.le_trans g4 z, fun q h => (hq q (Nat.lt_of_lt_of_le h g4) (fun h9 => ?_)).trans (g5 q h)⟩
  · rcases h with h | h
    · exact (X.reg h).2 ⟨h1, by omega⟩
    · omega
  · rcases h9 with h9 | h9
    · have := (X.reg h9).1
      omega
    · omega
theorem lWd.mod (X : lX p s m args meth c D Φ Dm mb o cL b L xs) (Wd : lWd D Φ Dm mb o cL s.heap S σ w H) {σ1 : mS} {H1 : Heap} (hP : mP Dm mb σ1 H1) (z : H1.size = H.size) (hq : ∀ q, ¬ mReg mb q → H1[q]? = H[q]?) : lWd D Φ Dm mb o cL s.heap S σ1 w H1 := by
  have hlo := X.lo
  obtain ⟨g1, g2, g3, g4, g5⟩ := Wd
  obtain ⟨-, -, -, -, -, -, h1, h2, h3, h4, h5⟩ := X
  refine ⟨g1.other z (fun q hq9 => hq q (fun h => hq9 ?_)) h2, hP, g3.kept (hq o (fun h => ?_)), by rw [z]; exact g4, fun q h => (hq q (fun h9 => ?_)).trans (g5 q h)⟩
  · obtain ⟨k1, k2⟩ := h
    exact ⟨by omega, by omega⟩
  · obtain ⟨k1, k2⟩ := h
    omega
  · obtain ⟨k1, k2⟩ := h9
    omega
theorem lWd.S (X : lX p s m args meth c D Φ Dm mb o cL b L xs) (Wd : lWd D Φ Dm mb o cL s.heap S σ w H) : va_S (cReg Φ) s.heap H [] := ⟨Wd.2.2.2.1, fun q h1 _ => Wd.2.2.2.2 q h1, fun z hz => by cases hz⟩
theorem lX.pre (X : lX p s m args meth c D Φ Dm mb o cL b L xs) (Wd : lWd D Φ Dm mb o cL s.heap S σ w H) : ∀ U : State, U.heap = H → s.WarmedH U.vm → lPre D Φ S U := fun U hU hW => ⟨by rw [hU]; exact Wd.1, X.1.2.2.2.2.2.1.warm hW, by rw [hU]; exact cZ.moved hW.alike (cZ_at X.1.2.2.2.2.2.2.1 (Wd.S X)), X.2.2.2.1.moved hW.alike⟩
abbrev lR : Room := rA 19 601024 7293034 872
theorem l_w1 {T : Type} {q : (Nat ⊕ T) × cS} {vl : T → Int64} {v : Int32} {y : MethodName} {cy : ByteArray} {maxL : Nat} {hh : List (Nat × Nat × Nat × Nat)} {fr mc ms lo idx n : Nat} {As st0 : List Value} (X : lX p s m args meth c D Φ Dm mb o cL b L xs) (Wd : lWd D Φ Dm mb o cL s.heap S σ w H) (hM : Met l y (Cond.codeWith y cy maxL (some .int) hh :: BG) (rA fr mc ms lo) (lPc D Φ S o cL w As) (lQ D Φ q o cL vl v) mc ms (lA Φ o)) (hw : Cond.methodLink "CascaderyLaw" idx y ∈ BG ∧ Cond.static y ∈ BG ∧ Cond.initialized y.cls ∈ BG ∧ Cond.codeWith y cy maxL (some .int) hh ∈ BG)
    (hy : y.cls ≠ "java/lang/invoke/MethodHandle" ∧ y.cls ≠ "java/lang/invoke/VarHandle" ∧ (parseMethodDescriptor y.desc).map (fun d => d.parameters.length) = some n) (hn : As.length = n) (hr : fr + 1 ≤ 19 ∧ 8 + (maxL + 11) + lo ≤ 872) (hls : ls.size = 7) (hW : rest.length ≤ 4) (hdg : decode cL_law pc = .ok (.invokestatic idx, 3)) (hst : st0 = As.reverse ++ rest) (hf : cells + mc ≤ 601024 ∧ slots + ms ≤ 7293034)
    (kk : ∀ (n9 : Nat) (w1 : Int64) (H1 : Heap), q.2.2 ≤ n9 → (∀ x, q.1 = .inr x → w1 = vl x) → lWd D Φ Dm mb o cL s.heap (q.2.1, n9) σ w1 H1 → W p l e lR s m args below meth c H1 [] (cells + mc) (slots + ms) Q (F0 m (pc + 3) ls (.int v :: rest))) : W p l e lR s m args below meth c H [] cells slots Q (F0 m pc ls st0) := by
  subst hst
  have hlo := X.lo
  have hG : GoodIn BG (va_wsS "CascaderyLaw" idx y (Cond.codeWith y cy maxL (some .int) hh :: BG)) := bg_all (fun w h => by
    rcases List.mem_append.mp h with h | h
    · rcases List.mem_cons.mp h with rfl | h
      · exact hw.1
      · rcases List.mem_cons.mp h with rfl | h
        · exact hw.2.1
        · rw [List.mem_singleton.mp h]
          exact hw.2.2.1
    · rcases List.mem_cons.mp h with rfl | h
      · exact hw.2.2.2
      · exact h)
  have hpre := X.pre Wd
  have X9 := X
  obtain ⟨⟨hx, hb, hml, hown, hts, -⟩, hmK, hAr, hN, hXs, hbl, i1, i2, i3, i4, i5⟩ := X9
  have hr9 := vx_runSW (H := H) (locs := []) (cells := cells) (slots := slots) (below := below) (meth := meth) (R := lR) (As := As) (rest := rest) (n := n) (g := F0 m pc ls (As.reverse ++ rest)) ⟨hx, hb, hml, hown, hts⟩ hM (vx_cwSW n hts hG rfl rfl rfl hy hr) ⟨lPc_blind, fun U hU hW => ⟨rfl, hpre U hU hW, arrOfT_moved hW.alike hAr, by rw [hU]; exact Wd.2.2.1, ⟨by omega, by omega⟩, i2⟩⟩ rfl hn hls rfl (lv_room (c_sum rest hW)) hdg hf
  intro T hT XX
  obtain ⟨v', st₀, t, T', L9, h0, X', hL, e1, e2, ⟨n9, w1, hv, hn9, hp, ho, hx9, hF⟩, st⟩ := hr9 T hT XX
  cases hv
  have X2 := X'.dropFresh (locs := []) (J := L9) (fun z hz => by
    rcases hL z hz with h | h
    · exact (X.reg h).1
    · omega)
  obtain ⟨hz, hk⟩ := hF
  rw [h0] at hz hk
  obtain ⟨t2, a1, b1⟩ := kk n9 w1 T'.heap hn9 hx9 (Wd.cls X (by rw [e1]; exact hp) (by rw [e1]; exact ho) (by rw [e1]; exact hz) (fun q h1 h2 => by rw [e1]; exact hk q h1 h2)) T' rfl X2
  exact ⟨t2, st t2 a1, b1⟩
theorem l_w0 {T : Type} {q : (Nat ⊕ T) × cS} {v : Int32} {y : MethodName} {cy : ByteArray} {maxL : Nat} {hh : List (Nat × Nat × Nat × Nat)} {fr mc ms lo idx n : Nat} {As st0 : List Value} (X : lX p s m args meth c D Φ Dm mb o cL b L xs) (Wd : lWd D Φ Dm mb o cL s.heap S σ w H) (hM : Met l y (Cond.codeWith y cy maxL (some .int) hh :: BG) (rA fr mc ms lo) (lPc0 D Φ S As) (lQ0 D Φ q v) mc ms (cReg Φ)) (hw : Cond.methodLink "CascaderyLaw" idx y ∈ BG ∧ Cond.static y ∈ BG ∧ Cond.initialized y.cls ∈ BG ∧ Cond.codeWith y cy maxL (some .int) hh ∈ BG)
    (hy : y.cls ≠ "java/lang/invoke/MethodHandle" ∧ y.cls ≠ "java/lang/invoke/VarHandle" ∧ (parseMethodDescriptor y.desc).map (fun d => d.parameters.length) = some n) (hn : As.length = n) (hr : fr + 1 ≤ 19 ∧ 8 + (maxL + 11) + lo ≤ 872) (hls : ls.size = 7) (hW : rest.length ≤ 4) (hdg : decode cL_law pc = .ok (.invokestatic idx, 3)) (hst : st0 = As.reverse ++ rest) (hf : cells + mc ≤ 601024 ∧ slots + ms ≤ 7293034)
    (kk : ∀ (n9 : Nat) (H1 : Heap), q.2.2 ≤ n9 → lWd D Φ Dm mb o cL s.heap (q.2.1, n9) σ w H1 → W p l e lR s m args below meth c H1 [] (cells + mc) (slots + ms) Q (F0 m (pc + 3) ls (.int v :: rest))) : W p l e lR s m args below meth c H [] cells slots Q (F0 m pc ls st0) := by
  subst hst
  have hlo := X.lo
  have hG : GoodIn BG (va_wsS "CascaderyLaw" idx y (Cond.codeWith y cy maxL (some .int) hh :: BG)) := bg_all (fun w h => by
    rcases List.mem_append.mp h with h | h
    · rcases List.mem_cons.mp h with rfl | h
      · exact hw.1
      · rcases List.mem_cons.mp h with rfl | h
        · exact hw.2.1
        · rw [List.mem_singleton.mp h]
          exact hw.2.2.1
    · rcases List.mem_cons.mp h with rfl | h
      · exact hw.2.2.2
      · exact h)
  have hpre := X.pre Wd
  have X9 := X
  obtain ⟨⟨hx, hb, hml, hown, hts, -⟩, hmK, hAr, hN, hXs, hbl, i1, i2, i3, i4, i5⟩ := X9
  have hr9 := vx_runSW (H := H) (locs := []) (cells := cells) (slots := slots) (below := below) (meth := meth) (R := lR) (As := As) (rest := rest) (n := n) (g := F0 m pc ls (As.reverse ++ rest)) ⟨hx, hb, hml, hown, hts⟩ hM (vx_cwSW n hts hG rfl rfl rfl hy hr) ⟨lPc0_blind, fun U hU hW => ⟨rfl, hpre U hU hW⟩⟩ rfl hn hls rfl (lv_room (c_sum rest hW)) hdg hf
  intro T hT XX
  obtain ⟨v', st₀, t, T', L9, h0, X', hL, e1, e2, ⟨n9, hv, hn9, hp, hF⟩, st⟩ := hr9 T hT XX
  cases hv
  have X2 := X'.dropFresh (locs := []) (J := L9) (fun z hz => (X.reg (hL z hz)).1)
  obtain ⟨hz, hk⟩ := hF
  rw [h0] at hz hk
  have hOl := Wd.2.2.1.lt
  obtain ⟨t2, a1, b1⟩ := kk n9 T'.heap hn9 (Wd.cls X (by rw [e1]; exact hp) (Wd.2.2.1.kept (by rw [e1]; exact hk o hOl (fun h => (X.reg h).2 ⟨by omega, by omega⟩))) (by rw [e1]; exact hz) (fun q h1 h2 => by rw [e1]; exact hk q h1 (fun h => h2 (Or.inl h)))) T' rfl X2
  exact ⟨t2, st t2 a1, b1⟩
theorem l_mrun {y : MethodName} {cy : ByteArray} {maxL : Nat} {rt : Option FieldType} {fr lo idx n : Nat} {Qc : Array Value → State → Outcome → State → Prop} {free : Addr → Prop} {As st0 : List Value} (X : lX p s m args meth c D Φ Dm mb o cL b L xs) (Wd : lWd D Φ Dm mb o cL s.heap S σ w H) (hM : Met l y (Cond.code y cy maxL rt :: BG) (rM fr lo) (mPc Dm mb σ As) Qc 0 0 free)
    (hw : Cond.methodLink "CascaderyLaw" idx y ∈ BG ∧ Cond.instanceMethod y ∈ BG ∧ Cond.selects RX12 y y ∈ BG ∧ Cond.code y cy maxL rt ∈ BG)
    (hy : y.cls = RX12 ∧ y.cls ≠ "java/lang/invoke/MethodHandle" ∧ y.cls ≠ "java/lang/invoke/VarHandle" ∧ (parseMethodDescriptor y.desc).map (fun d => d.parameters.length) = some n) (hn : As.length = n)
    (hr : fr + 1 ≤ 19 ∧ 8 + (maxL + 11) + lo ≤ 872) (hls : ls.size = 7) (hW : rest.length ≤ 4) (hdg : decode cL_law pc = .ok (.invokevirtual idx, 3)) (hst : st0 = As.reverse ++ .ref mb :: rest) (hf : cells + 0 ≤ 601024 ∧ slots + 0 ≤ 7293034) :
    va_Run p l e lR s m args below meth c H [] cells slots 0 0 (F0 m pc ls st0) rest (Qc (Value.ref mb :: As).toArray) free := by
  obtain ⟨⟨hx, hb, hml, hown, hts, -⟩, hK, -⟩ := X
  subst hst
  have hG : GoodIn BG (wsV "CascaderyLaw" idx RX12 y (Cond.code y cy maxL rt :: BG)) := bg_all (fun w h => by
    rcases List.mem_append.mp h with h | h
    · rcases List.mem_cons.mp h with rfl | h
      · exact hw.1
      · rcases List.mem_cons.mp h with rfl | h
        · exact hw.2.1
        · rcases List.mem_cons.mp h with rfl | h
          · exact hw.2.2.1
          · rw [List.mem_singleton.mp h]
            exact w_154
    · rcases List.mem_cons.mp h with rfl | h
      · exact hw.2.2.2
      · exact h)
  have hrec : ∃ cellB : Cell, H[mb]? = some cellB ∧ cellB.vm.isStatics = false ∧ s.vm.findClass RX12 = some cellB.cls := by
    obtain ⟨⟨cell, q1, q2, q3, -⟩, -⟩ := Wd.2.1
    exact ⟨cell, q1, by rw [q3]; rfl, by rw [q2]; exact hK.1.2.1⟩
  exact va_runV (As := As) (rest := rest) (C := RX12) (n := n) ⟨hx, hb, hml, hown, hts⟩ hM (cwV n hts hG rfl rfl rfl hy hr) ⟨m_blind, hrec, fun U hU hW => ⟨rfl, by rw [hU]; exact Wd.2.1, mK.moved hW.alike hK⟩⟩ rfl hn hls rfl (lv_room (c_sum rest hW)) hdg hf
theorem l_mr {r : Int32} {st0 : List Value} {a : Array Value} (hr : va_Run p l e lR s m args below meth c H [] cells slots 0 0 (F0 m pc ls st0) rest (mQr (some (.int r)) a) (fun _ => False))
    (kk : W p l e lR s m args below meth c H [] cells slots Q (F0 m (pc + 3) ls (.int r :: rest))) : W p l e lR s m args below meth c H [] cells slots Q (F0 m pc ls st0) := by
  intro T hT X
  obtain ⟨v, st₀, t, T', L, h0, X', hL, e1, e2, ⟨hv, hh⟩, st⟩ := hr T hT X
  cases hv
  have X2 := X'.dropFresh (locs := []) (J := L) (fun z hz => (hL z hz).elim)
  obtain ⟨t2, a1, b1⟩ := kk T' (by rw [e1, hh, h0]) X2
  exact ⟨t2, st t2 a1, b1⟩
theorem l_mw {r : Option Value} {σ1 : mS} {st0 : List Value} {a : Array Value} (X : lX p s m args meth c D Φ Dm mb o cL b L xs) (Wd : lWd D Φ Dm mb o cL s.heap S σ w H) (hr : va_Run p l e lR s m args below meth c H [] cells slots 0 0 (F0 m pc ls st0) rest (mQw Dm mb σ1 r a) (mReg mb))
    (kk : ∀ H1 : Heap, lWd D Φ Dm mb o cL s.heap S σ1 w H1 → W p l e lR s m args below meth c H1 [] cells slots Q (F0 m (pc + 3) ls (r.toList ++ rest))) : W p l e lR s m args below meth c H [] cells slots Q (F0 m pc ls st0) := by
  intro T hT XX
  obtain ⟨v, st₀, t, T', L9, h0, X', hL, e1, e2, ⟨hv, hp, hz, hk⟩, st⟩ := hr T hT XX
  cases hv
  have hlo := X.lo
  have X2 := X'.dropFresh (locs := []) (J := L9) (fun z hz => by
    have := (hL z hz).1
    omega)
  rw [h0] at hz hk
  obtain ⟨t2, a1, b1⟩ := kk T'.heap (Wd.mod X (by rw [e1]; exact hp) (by rw [e1]; exact hz) (fun q hq => by rw [e1]; exact hk q hq)) T' rfl X2
  exact ⟨t2, st t2 a1, b1⟩
theorem l_tern (hx : p.tables.exec = Jvm.exec) (hb : c.code = cL_law) {x : Int32} (d1 : decode cL_law pc = .ok (.ifCond .eq 7, 3)) (d2 : decode cL_law (pc + 3) = .ok (.iconst 1, 1)) (d3 : decode cL_law (pc + 4) = .ok (.goto 4, 3)) (d4 : decode cL_law (pc + 7) = .ok (.iconst 0, 1)) (kk : W p l e lR s m args below meth c H [] cells slots Q (F0 m (pc + 8) ls (.int (lz x) :: rest))) : W p l e lR s m args below meth c H [] cells slots Q (F0 m pc ls (.int x :: rest)) := by
  refine lv_if_eq (tgt := pc + 7) hx hb d1 (by omega) (fun h => ?_) (fun h => ?_)
  · refine lv_iconst (v := 0) hx hb d4 (by decide) ?_
    have e1 : lz x = 0 := if_pos h
    rw [e1] at kk
    exact kk
  · refine lv_iconst (v := 1) hx hb d2 (by decide) ?_
    refine lv_goto (tgt := pc + 8) hx hb d3 (by omega) ?_
    have e1 : lz x = 1 := if_neg h
    rw [e1] at kk
    exact kk
theorem l_ternL (hx : p.tables.exec = Jvm.exec) (hb : c.code = cL_law) {x : Int32} (d1 : decode cL_law pc = .ok (.ifCond .eq 7, 3)) (d2 : decode cL_law (pc + 3) = .ok (.lconst 1, 1)) (d3 : decode cL_law (pc + 4) = .ok (.goto 4, 3)) (d4 : decode cL_law (pc + 7) = .ok (.lconst 0, 1)) (kk : W p l e lR s m args below meth c H [] cells slots Q (F0 m (pc + 8) ls (.long (lvZ x) :: rest))) : W p l e lR s m args below meth c H [] cells slots Q (F0 m pc ls (.int x :: rest)) := by
  refine lv_if_eq (tgt := pc + 7) hx hb d1 (by omega) (fun h => ?_) (fun h => ?_)
  · refine lv_lconst (v := 0) hx hb d4 (by decide) ?_
    have e1 : lvZ x = 0 := if_pos h
    rw [e1] at kk
    exact kk
  · refine lv_lconst (v := 1) hx hb d2 (by decide) ?_
    refine lv_goto (tgt := pc + 8) hx hb d3 (by omega) ?_
    have e1 : lvZ x = 1 := if_neg h
    rw [e1] at kk
    exact kk
theorem l_lald (X : lX p s m args meth c D Φ Dm mb o cL b L xs) (Wd : lWd D Φ Dm mb o cL s.heap S σ w H) (hdg : decode cL_law pc = .ok (.laload, 1)) (kk : W p l e lR s m args below meth c H [] cells slots Q (F0 m (pc + 1) ls (.long w :: rest))) : W p l e lR s m args below meth c H [] cells slots Q (F0 m pc ls (.int 0 :: .ref o :: rest)) := by
  obtain ⟨f, hf, hc⟩ := Wd.2.2.1
  exact W.lald (v := .long w) X.1.1 X.1.2.1 hc (X.2.2.1 1 (fun j => .long (f j))) (fun z => by cases z) (by rw [arrV_size]; decide) (by show (arrV _ _ _).slots[0]? = _; rw [arrV_read _ _ (by decide), hf]) rfl rfl hdg kk
theorem l_sld (X : lX p s m args meth c D Φ Dm mb o cL b L xs) (Wd : lWd D Φ Dm mb o cL s.heap S σ w H) {i : Int32} (hin : vp_in i L) (hdg : decode cL_law pc = .ok (.iaload, 1)) (kk : W p l e lR s m args below meth c H [] cells slots Q (F0 m (pc + 1) ls (.int (xs i.toNatClampNeg) :: rest))) : W p l e lR s m args below meth c H [] cells slots Q (F0 m pc ls (.int i :: .ref b :: rest)) :=
  va_sld (A := cReg Φ) X.1.1 X.1.2.1 X.2.2.2.2.1 X.2.2.2.2.2.1 (fun h => by have := (X.reg h).1; have := X.2.2.2.2.2.1; omega) (Wd.S X) hin hdg kk
end LB
def lLv (Φ : cG) (b mb o : Nat) (i : Int32) : List (Nat × Value) := [(0, .ref b), (1, cv Φ (some 1)), (2, .ref mb), (3, .ref o), (4, .int i)]
def lIn (i : Int32) (L : Nat) : Prop := vp_in i L ∧ vp_in (i + 1) L ∧ vp_in (i + 2) L ∧ vp_in (i + 3) L ∧ vp_in (i + 4) L ∧ vp_in (i + 5) L ∧ vp_in (i + 6) L
set_option maxRecDepth 20000 in
set_option maxHeartbeats 4000000 in
theorem L_case_0 {p : Program} {l : Launch} {e : Env} {s : State} {m : MethodId} {args : Array Value} {below : List Frame} {meth : Method} {c : Code} {H : Heap} {cells slots : Nat} {Q : State → Prop} {ls : Array Slot} {D : cD} {Φ : cG} {Dm : mD} {mb o : Nat} {cL : ClassId} {b L : Nat} {xs : Nat → Int32} {S : cS} {σ : mS} {w : Int64} {i : Int32} (hl9 : l.stackTraces = false) (X : lX p s m args meth c D Φ Dm mb o cL b L xs) {Sim Sim1 : cS → mS → Prop} (hsim : sim_make Sim Sim1) (hrc : rc S (some 1) 11 = some 1) (hin : lIn i L) (Wd : lWd D Φ Dm mb o cL s.heap S σ w H) (hS : Sim S σ) (hl : lv_has ls 7 (lLv Φ b mb o i)) (hf : cells + 13 ≤ 601024 ∧ slots + 151 ≤ 7293034) (kk : ∀ (S1 : cS) (σ1 : mS) (w1 : Int64) (H1 : Heap) (ls1 : Array Slot), Sim1 S1 σ1 → lWd D Φ Dm mb o cL s.heap S1 σ1 w1 H1 → lv_has ls1 7 (lLv Φ b mb o i) → W p l e lR s m args below meth c H1 [] (cells + 13) (slots + 151) Q (F0 m 2797 ls1 [])) : W p l e lR s m args below meth c H [] cells slots Q (F0 m 212 ls []) := by
  have hx := X.1.1
  have hb := X.1.2.1
  have hts := X.1.2.2.2.2.1
  have hl : lv_has ls 7 [(0, .ref b), (1, cv Φ (some 1)), (2, .ref mb), (3, .ref o), (4, .int i)] := hl
  obtain ⟨q, r, hq, hr, hag, hnx⟩ := hsim S σ (xs (i + 1).toNatClampNeg) hS 
  refine c_aload_n hx hb dL_law_212 rfl (lv_at hl 1 rfl) ?_
  refine lv_aload_n hx hb dL_law_213 rfl (lv_at hl 0 rfl) ?_
  refine lv_iload hx hb dL_law_214 (lv_at hl 4 rfl) ?_
  refine lv_iconst (v := 1) hx hb dL_law_216 (by decide) ?_
  refine lv_iadd hx hb dL_law_217 ?_
  refine l_sld X Wd hin.2.1 dL_law_218 ?_
  refine lv_aload_n hx hb dL_law_219 rfl (lv_at hl 3 rfl) ?_
  refine l_w1 (rest := []) (v := (r.2.2 81)) X Wd (K_L_make l hl9 D Φ S o cL w 1 (xs (i + 1).toNatClampNeg) hrc hq hag.1) ⟨w_731, ww_L_make⟩ hy_L_make rfl ⟨(Nat.le_of_ble_eq_true rfl), (Nat.le_of_ble_eq_true rfl)⟩ hl.1 (Nat.le_of_ble_eq_true rfl) dL_law_220 rfl ⟨by omega, by omega⟩ (fun n9 w H hn hx9 Wd => ?_)
  refine c_istore hx hb dL_law_223 hl (Nat.le_of_ble_eq_true rfl) (lvKa rfl (lvKa rfl (lvKa rfl (lvKa rfl (lvKi lvK0))))) rfl (fun ls (hl : lv_has ls 7 [(5, .int (r.2.2 81)), (0, .ref b), (1, cv Φ (some 1)), (2, .ref mb), (3, .ref o), (4, .int i)]) => ?_)
  refine lv_aload_n hx hb dL_law_225 rfl (lv_at hl 3 rfl) ?_
  refine lv_aload_n hx hb dL_law_226 rfl (lv_at hl 1 rfl) ?_
  refine lv_iload hx hb dL_law_227 (lv_at hl 5 rfl) ?_
  refine lv_iconst (v := 1) hx hb dL_law_229 (by decide) ?_
  refine lv_iadd hx hb dL_law_230 ?_
  refine l_sld X Wd hin.2.1 dL_law_231 ?_
  refine l_mw X Wd (l_mrun (n := 1) (rest := []) X Wd (K_make l Dm mb σ (xs (i + 1).toNatClampNeg) hr) ⟨w_1842, w_1843, w_1844, w_1845⟩ (hyX rfl (by decide +kernel)) rfl ⟨(Nat.le_of_ble_eq_true rfl), (Nat.le_of_ble_eq_true rfl)⟩ hl.1 (Nat.le_of_ble_eq_true rfl) dL_law_232 rfl ⟨by omega, by omega⟩) (fun H Wd => ?_)
  refine W.eq (g2 := F0 m 235 ls [.int r.1]) rfl ?_
  refine c_istore hx hb dL_law_235 hl (Nat.le_of_ble_eq_true rfl) (lvKi (lvKa rfl (lvKa rfl (lvKa rfl (lvKa rfl (lvKa rfl lvK0)))))) rfl (fun ls (hl : lv_has ls 7 [(6, .int r.1), (5, .int (r.2.2 81)), (0, .ref b), (1, cv Φ (some 1)), (2, .ref mb), (3, .ref o), (4, .int i)]) => ?_)
  refine lv_aload_n hx hb dL_law_237 rfl (lv_at hl 4 rfl) ?_
  refine l_mr (l_mrun (n := 0) (rest := []) X Wd (K_thrown l Dm mb r.2 (r := r.2.2 81) rfl) ⟨w_1838, w_1839, w_1840, w_1841⟩ (hyX rfl (by decide +kernel)) rfl ⟨(Nat.le_of_ble_eq_true rfl), (Nat.le_of_ble_eq_true rfl)⟩ hl.1 (Nat.le_of_ble_eq_true rfl) dL_law_238 rfl ⟨by omega, by omega⟩) ?_
  refine lv_iload hx hb dL_law_241 (lv_at hl 1 rfl) ?_
  refine lv_icmp_eq (tgt := 248) hx hb dL_law_243 rfl (fun _ => ?_) (fun hc => absurd rfl hc)
  refine lv_iload hx hb dL_law_248 (lv_at hl 1 rfl) ?_
  refine lv_if_ne (tgt := 265) hx hb dL_law_250 rfl (fun hc => ?_) (fun hc => ?_)
  · refine lv_goto (tgt := 2797) hx hb dL_law_265 rfl ?_
    refine W.widen (k := cells + 13) (n := slots + 151) (by omega) (by omega) ?_
    exact kk _ _ _ H ls (hnx _ hn) Wd (lv_sub hl [2, 3, 4, 5, 6] rfl)
  · obtain ⟨u, hu⟩ := lcd_z2 hag.1 hc
    have hw9 := hx9 u hu
    have hw8 := hag.2 u hu
    refine lv_aload_n hx hb dL_law_253 rfl (lv_at hl 5 rfl) ?_
    refine lv_iconst (v := 0) hx hb dL_law_254 (by decide) ?_
    refine l_lald X Wd dL_law_255 ?_
    refine lv_iload hx hb dL_law_256 (lv_at hl 0 rfl) ?_
    refine lv_i2l (v := lvN r.1) hx hb dL_law_258 rfl ?_
    refine W.lcmp hx hb dL_law_259 ?_
    refine lv_if_eq (tgt := 265) hx hb dL_law_260 rfl (fun _ => ?_) (fun hc => absurd (by rw [hw9, hw8]; exact lg_cmp_self _) hc)
    refine lv_goto (tgt := 2797) hx hb dL_law_265 rfl ?_
    refine W.widen (k := cells + 13) (n := slots + 151) (by omega) (by omega) ?_
    exact kk _ _ _ H ls (hnx _ hn) Wd (lv_sub hl [2, 3, 4, 5, 6] rfl)
set_option maxRecDepth 20000 in
set_option maxHeartbeats 4000000 in
theorem L_case_1 {p : Program} {l : Launch} {e : Env} {s : State} {m : MethodId} {args : Array Value} {below : List Frame} {meth : Method} {c : Code} {H : Heap} {cells slots : Nat} {Q : State → Prop} {ls : Array Slot} {D : cD} {Φ : cG} {Dm : mD} {mb o : Nat} {cL : ClassId} {b L : Nat} {xs : Nat → Int32} {S : cS} {σ : mS} {w : Int64} {i : Int32} (hl9 : l.stackTraces = false) (X : lX p s m args meth c D Φ Dm mb o cL b L xs) {Sim Sim1 : cS → mS → Prop} (hsim : sim_shadow Sim Sim1) (hrc : rc S (some 1) 11 = some 1) (hin : lIn i L) (Wd : lWd D Φ Dm mb o cL s.heap S σ w H) (hS : Sim S σ) (hl : lv_has ls 7 (lLv Φ b mb o i)) (hf : cells + 13 ≤ 601024 ∧ slots + 151 ≤ 7293034) (kk : ∀ (S1 : cS) (σ1 : mS) (w1 : Int64) (H1 : Heap) (ls1 : Array Slot), Sim1 S1 σ1 → lWd D Φ Dm mb o cL s.heap S1 σ1 w1 H1 → lv_has ls1 7 (lLv Φ b mb o i) → W p l e lR s m args below meth c H1 [] (cells + 13) (slots + 151) Q (F0 m 2797 ls1 [])) : W p l e lR s m args below meth c H [] cells slots Q (F0 m 268 ls []) := by
  have hx := X.1.1
  have hb := X.1.2.1
  have hts := X.1.2.2.2.2.1
  have hl : lv_has ls 7 [(0, .ref b), (1, cv Φ (some 1)), (2, .ref mb), (3, .ref o), (4, .int i)] := hl
  obtain ⟨q, r, hq, hr, hag, hnx⟩ := hsim S σ (xs (i + 1).toNatClampNeg) hS 
  refine c_aload_n hx hb dL_law_268 rfl (lv_at hl 1 rfl) ?_
  refine lv_aload_n hx hb dL_law_269 rfl (lv_at hl 0 rfl) ?_
  refine lv_iload hx hb dL_law_270 (lv_at hl 4 rfl) ?_
  refine lv_iconst (v := 1) hx hb dL_law_272 (by decide) ?_
  refine lv_iadd hx hb dL_law_273 ?_
  refine l_sld X Wd hin.2.1 dL_law_274 ?_
  refine l_w0 (rest := []) (v := (r.2 81)) X Wd (K_L_shadow l hl9 D Φ S 1 (xs (i + 1).toNatClampNeg) hrc hq hag) ⟨w_831, ww_L_shadow⟩ hy_L_shadow rfl ⟨(Nat.le_of_ble_eq_true rfl), (Nat.le_of_ble_eq_true rfl)⟩ hl.1 (Nat.le_of_ble_eq_true rfl) dL_law_275 rfl ⟨by omega, by omega⟩ (fun n9 H hn Wd => ?_)
  refine c_istore hx hb dL_law_278 hl (Nat.le_of_ble_eq_true rfl) (lvKa rfl (lvKa rfl (lvKa rfl (lvKa rfl (lvKi lvK0))))) rfl (fun ls (hl : lv_has ls 7 [(5, .int (r.2 81)), (0, .ref b), (1, cv Φ (some 1)), (2, .ref mb), (3, .ref o), (4, .int i)]) => ?_)
  refine lv_aload_n hx hb dL_law_280 rfl (lv_at hl 3 rfl) ?_
  refine lv_aload_n hx hb dL_law_281 rfl (lv_at hl 1 rfl) ?_
  refine lv_iload hx hb dL_law_282 (lv_at hl 5 rfl) ?_
  refine lv_iconst (v := 1) hx hb dL_law_284 (by decide) ?_
  refine lv_iadd hx hb dL_law_285 ?_
  refine l_sld X Wd hin.2.1 dL_law_286 ?_
  refine l_mw X Wd (l_mrun (n := 1) (rest := []) X Wd (K_shadow l Dm mb σ (xs (i + 1).toNatClampNeg) hr) ⟨w_1854, w_1855, w_1856, w_1857⟩ (hyX rfl (by decide +kernel)) rfl ⟨(Nat.le_of_ble_eq_true rfl), (Nat.le_of_ble_eq_true rfl)⟩ hl.1 (Nat.le_of_ble_eq_true rfl) dL_law_287 rfl ⟨by omega, by omega⟩) (fun H Wd => ?_)
  refine W.eq (g2 := F0 m 290 ls []) rfl ?_
  refine lv_aload_n hx hb dL_law_290 rfl (lv_at hl 3 rfl) ?_
  refine l_mr (l_mrun (n := 0) (rest := []) X Wd (K_thrown l Dm mb r (r := r.2 81) rfl) ⟨w_1838, w_1839, w_1840, w_1841⟩ (hyX rfl (by decide +kernel)) rfl ⟨(Nat.le_of_ble_eq_true rfl), (Nat.le_of_ble_eq_true rfl)⟩ hl.1 (Nat.le_of_ble_eq_true rfl) dL_law_291 rfl ⟨by omega, by omega⟩) ?_
  refine lv_iload hx hb dL_law_294 (lv_at hl 0 rfl) ?_
  refine lv_icmp_eq (tgt := 301) hx hb dL_law_296 rfl (fun _ => ?_) (fun hc => absurd rfl hc)
  refine lv_goto (tgt := 2797) hx hb dL_law_301 rfl ?_
  refine W.widen (k := cells + 13) (n := slots + 151) (by omega) (by omega) ?_
  exact kk _ _ _ H ls (hnx _ hn) Wd (lv_sub hl [1, 2, 3, 4, 5] rfl)
set_option maxRecDepth 20000 in
set_option maxHeartbeats 4000000 in
theorem L_case_2 {p : Program} {l : Launch} {e : Env} {s : State} {m : MethodId} {args : Array Value} {below : List Frame} {meth : Method} {c : Code} {H : Heap} {cells slots : Nat} {Q : State → Prop} {ls : Array Slot} {D : cD} {Φ : cG} {Dm : mD} {mb o : Nat} {cL : ClassId} {b L : Nat} {xs : Nat → Int32} {S : cS} {σ : mS} {w : Int64} {i : Int32} (hl9 : l.stackTraces = false) (X : lX p s m args meth c D Φ Dm mb o cL b L xs) {Sim Sim1 : cS → mS → Prop} (hsim : sim_put Sim Sim1) (hrc : rc S (some 1) 11 = some 1) (hin : lIn i L) (Wd : lWd D Φ Dm mb o cL s.heap S σ w H) (hS : Sim S σ) (hl : lv_has ls 7 (lLv Φ b mb o i)) (hf : cells + 13 ≤ 601024 ∧ slots + 151 ≤ 7293034) (kk : ∀ (S1 : cS) (σ1 : mS) (w1 : Int64) (H1 : Heap) (ls1 : Array Slot), Sim1 S1 σ1 → lWd D Φ Dm mb o cL s.heap S1 σ1 w1 H1 → lv_has ls1 7 (lLv Φ b mb o i) → W p l e lR s m args below meth c H1 [] (cells + 13) (slots + 151) Q (F0 m 2797 ls1 [])) : W p l e lR s m args below meth c H [] cells slots Q (F0 m 304 ls []) := by
  have hx := X.1.1
  have hb := X.1.2.1
  have hts := X.1.2.2.2.2.1
  have hl : lv_has ls 7 [(0, .ref b), (1, cv Φ (some 1)), (2, .ref mb), (3, .ref o), (4, .int i)] := hl
  obtain ⟨q, r, hq, hr, hag, hnx⟩ := hsim S σ (xs (i + 1).toNatClampNeg) (xs (i + 2).toNatClampNeg) (xs (i + 3).toNatClampNeg) hS 
  refine c_aload_n hx hb dL_law_304 rfl (lv_at hl 1 rfl) ?_
  refine lv_aload_n hx hb dL_law_305 rfl (lv_at hl 0 rfl) ?_
  refine lv_iload hx hb dL_law_306 (lv_at hl 4 rfl) ?_
  refine lv_iconst (v := 1) hx hb dL_law_308 (by decide) ?_
  refine lv_iadd hx hb dL_law_309 ?_
  refine l_sld X Wd hin.2.1 dL_law_310 ?_
  refine lv_aload_n hx hb dL_law_311 rfl (lv_at hl 0 rfl) ?_
  refine lv_iload hx hb dL_law_312 (lv_at hl 4 rfl) ?_
  refine lv_iconst (v := 2) hx hb dL_law_314 (by decide) ?_
  refine lv_iadd hx hb dL_law_315 ?_
  refine l_sld X Wd hin.2.2.1 dL_law_316 ?_
  refine lv_aload_n hx hb dL_law_317 rfl (lv_at hl 0 rfl) ?_
  refine lv_iload hx hb dL_law_318 (lv_at hl 4 rfl) ?_
  refine lv_iconst (v := 3) hx hb dL_law_320 (by decide) ?_
  refine lv_iadd hx hb dL_law_321 ?_
  refine l_sld X Wd hin.2.2.2.1 dL_law_322 ?_
  refine l_w0 (rest := []) (v := (r.2 81)) X Wd (K_L_put l hl9 D Φ S 1 (xs (i + 1).toNatClampNeg) (xs (i + 2).toNatClampNeg) (xs (i + 3).toNatClampNeg) hrc hq hag) ⟨w_911, ww_L_put⟩ hy_L_put rfl ⟨(Nat.le_of_ble_eq_true rfl), (Nat.le_of_ble_eq_true rfl)⟩ hl.1 (Nat.le_of_ble_eq_true rfl) dL_law_323 rfl ⟨by omega, by omega⟩ (fun n9 H hn Wd => ?_)
  refine c_istore hx hb dL_law_326 hl (Nat.le_of_ble_eq_true rfl) (lvKa rfl (lvKa rfl (lvKa rfl (lvKa rfl (lvKi lvK0))))) rfl (fun ls (hl : lv_has ls 7 [(5, .int (r.2 81)), (0, .ref b), (1, cv Φ (some 1)), (2, .ref mb), (3, .ref o), (4, .int i)]) => ?_)
  refine lv_aload_n hx hb dL_law_328 rfl (lv_at hl 3 rfl) ?_
  refine lv_aload_n hx hb dL_law_329 rfl (lv_at hl 1 rfl) ?_
  refine lv_iload hx hb dL_law_330 (lv_at hl 5 rfl) ?_
  refine lv_iconst (v := 1) hx hb dL_law_332 (by decide) ?_
  refine lv_iadd hx hb dL_law_333 ?_
  refine l_sld X Wd hin.2.1 dL_law_334 ?_
  refine lv_aload_n hx hb dL_law_335 rfl (lv_at hl 1 rfl) ?_
  refine lv_iload hx hb dL_law_336 (lv_at hl 5 rfl) ?_
  refine lv_iconst (v := 2) hx hb dL_law_338 (by decide) ?_
  refine lv_iadd hx hb dL_law_339 ?_
  refine l_sld X Wd hin.2.2.1 dL_law_340 ?_
  refine lv_aload_n hx hb dL_law_341 rfl (lv_at hl 1 rfl) ?_
  refine lv_iload hx hb dL_law_342 (lv_at hl 5 rfl) ?_
  refine lv_iconst (v := 3) hx hb dL_law_344 (by decide) ?_
  refine lv_iadd hx hb dL_law_345 ?_
  refine l_sld X Wd hin.2.2.2.1 dL_law_346 ?_
  refine l_mw X Wd (l_mrun (n := 3) (rest := []) X Wd (K_put l Dm mb σ (xs (i + 1).toNatClampNeg) (xs (i + 2).toNatClampNeg) (xs (i + 3).toNatClampNeg) hr) ⟨w_1882, w_1883, w_1884, w_1885⟩ (hyX rfl (by decide +kernel)) rfl ⟨(Nat.le_of_ble_eq_true rfl), (Nat.le_of_ble_eq_true rfl)⟩ hl.1 (Nat.le_of_ble_eq_true rfl) dL_law_347 rfl ⟨by omega, by omega⟩) (fun H Wd => ?_)
  refine W.eq (g2 := F0 m 350 ls []) rfl ?_
  refine lv_aload_n hx hb dL_law_350 rfl (lv_at hl 3 rfl) ?_
  refine l_mr (l_mrun (n := 0) (rest := []) X Wd (K_thrown l Dm mb r (r := r.2 81) rfl) ⟨w_1838, w_1839, w_1840, w_1841⟩ (hyX rfl (by decide +kernel)) rfl ⟨(Nat.le_of_ble_eq_true rfl), (Nat.le_of_ble_eq_true rfl)⟩ hl.1 (Nat.le_of_ble_eq_true rfl) dL_law_351 rfl ⟨by omega, by omega⟩) ?_
  refine lv_iload hx hb dL_law_354 (lv_at hl 0 rfl) ?_
  refine lv_icmp_eq (tgt := 361) hx hb dL_law_356 rfl (fun _ => ?_) (fun hc => absurd rfl hc)
  refine lv_goto (tgt := 2797) hx hb dL_law_361 rfl ?_
  refine W.widen (k := cells + 13) (n := slots + 151) (by omega) (by omega) ?_
  exact kk _ _ _ H ls (hnx _ hn) Wd (lv_sub hl [1, 2, 3, 4, 5] rfl)
set_option maxRecDepth 20000 in
set_option maxHeartbeats 4000000 in
theorem L_case_3 {p : Program} {l : Launch} {e : Env} {s : State} {m : MethodId} {args : Array Value} {below : List Frame} {meth : Method} {c : Code} {H : Heap} {cells slots : Nat} {Q : State → Prop} {ls : Array Slot} {D : cD} {Φ : cG} {Dm : mD} {mb o : Nat} {cL : ClassId} {b L : Nat} {xs : Nat → Int32} {S : cS} {σ : mS} {w : Int64} {i : Int32} (hl9 : l.stackTraces = false) (X : lX p s m args meth c D Φ Dm mb o cL b L xs) {Sim Sim1 : cS → mS → Prop} (hsim : sim_putTop Sim Sim1) (hrc : rc S (some 1) 11 = some 1) (hin : lIn i L) (Wd : lWd D Φ Dm mb o cL s.heap S σ w H) (hS : Sim S σ) (hl : lv_has ls 7 (lLv Φ b mb o i)) (hf : cells + 13 ≤ 601024 ∧ slots + 151 ≤ 7293034) (kk : ∀ (S1 : cS) (σ1 : mS) (w1 : Int64) (H1 : Heap) (ls1 : Array Slot), Sim1 S1 σ1 → lWd D Φ Dm mb o cL s.heap S1 σ1 w1 H1 → lv_has ls1 7 (lLv Φ b mb o i) → W p l e lR s m args below meth c H1 [] (cells + 13) (slots + 151) Q (F0 m 2797 ls1 [])) : W p l e lR s m args below meth c H [] cells slots Q (F0 m 364 ls []) := by
  have hx := X.1.1
  have hb := X.1.2.1
  have hts := X.1.2.2.2.2.1
  have hl : lv_has ls 7 [(0, .ref b), (1, cv Φ (some 1)), (2, .ref mb), (3, .ref o), (4, .int i)] := hl
  obtain ⟨q, r, hq, hr, hag, hnx⟩ := hsim S σ (xs (i + 1).toNatClampNeg) (xs (i + 2).toNatClampNeg) (xs (i + 3).toNatClampNeg) hS 
  refine c_aload_n hx hb dL_law_364 rfl (lv_at hl 1 rfl) ?_
  refine lv_aload_n hx hb dL_law_365 rfl (lv_at hl 0 rfl) ?_
  refine lv_iload hx hb dL_law_366 (lv_at hl 4 rfl) ?_
  refine lv_iconst (v := 1) hx hb dL_law_368 (by decide) ?_
  refine lv_iadd hx hb dL_law_369 ?_
  refine l_sld X Wd hin.2.1 dL_law_370 ?_
  refine lv_aload_n hx hb dL_law_371 rfl (lv_at hl 0 rfl) ?_
  refine lv_iload hx hb dL_law_372 (lv_at hl 4 rfl) ?_
  refine lv_iconst (v := 2) hx hb dL_law_374 (by decide) ?_
  refine lv_iadd hx hb dL_law_375 ?_
  refine l_sld X Wd hin.2.2.1 dL_law_376 ?_
  refine lv_aload_n hx hb dL_law_377 rfl (lv_at hl 0 rfl) ?_
  refine lv_iload hx hb dL_law_378 (lv_at hl 4 rfl) ?_
  refine lv_iconst (v := 3) hx hb dL_law_380 (by decide) ?_
  refine lv_iadd hx hb dL_law_381 ?_
  refine l_sld X Wd hin.2.2.2.1 dL_law_382 ?_
  refine l_w0 (rest := []) (v := (r.2 81)) X Wd (K_L_putTop l hl9 D Φ S 1 (xs (i + 1).toNatClampNeg) (xs (i + 2).toNatClampNeg) (xs (i + 3).toNatClampNeg) hrc hq hag) ⟨w_950, ww_L_putTop⟩ hy_L_putTop rfl ⟨(Nat.le_of_ble_eq_true rfl), (Nat.le_of_ble_eq_true rfl)⟩ hl.1 (Nat.le_of_ble_eq_true rfl) dL_law_383 rfl ⟨by omega, by omega⟩ (fun n9 H hn Wd => ?_)
  refine c_istore hx hb dL_law_386 hl (Nat.le_of_ble_eq_true rfl) (lvKa rfl (lvKa rfl (lvKa rfl (lvKa rfl (lvKi lvK0))))) rfl (fun ls (hl : lv_has ls 7 [(5, .int (r.2 81)), (0, .ref b), (1, cv Φ (some 1)), (2, .ref mb), (3, .ref o), (4, .int i)]) => ?_)
  refine lv_aload_n hx hb dL_law_388 rfl (lv_at hl 3 rfl) ?_
  refine lv_aload_n hx hb dL_law_389 rfl (lv_at hl 1 rfl) ?_
  refine lv_iload hx hb dL_law_390 (lv_at hl 5 rfl) ?_
  refine lv_iconst (v := 1) hx hb dL_law_392 (by decide) ?_
  refine lv_iadd hx hb dL_law_393 ?_
  refine l_sld X Wd hin.2.1 dL_law_394 ?_
  refine lv_aload_n hx hb dL_law_395 rfl (lv_at hl 1 rfl) ?_
  refine lv_iload hx hb dL_law_396 (lv_at hl 5 rfl) ?_
  refine lv_iconst (v := 2) hx hb dL_law_398 (by decide) ?_
  refine lv_iadd hx hb dL_law_399 ?_
  refine l_sld X Wd hin.2.2.1 dL_law_400 ?_
  refine lv_aload_n hx hb dL_law_401 rfl (lv_at hl 1 rfl) ?_
  refine lv_iload hx hb dL_law_402 (lv_at hl 5 rfl) ?_
  refine lv_iconst (v := 3) hx hb dL_law_404 (by decide) ?_
  refine lv_iadd hx hb dL_law_405 ?_
  refine l_sld X Wd hin.2.2.2.1 dL_law_406 ?_
  refine l_mw X Wd (l_mrun (n := 3) (rest := []) X Wd (K_putTop l Dm mb σ (xs (i + 1).toNatClampNeg) (xs (i + 2).toNatClampNeg) (xs (i + 3).toNatClampNeg) hr) ⟨w_1946, w_1947, w_1948, w_1949⟩ (hyX rfl (by decide +kernel)) rfl ⟨(Nat.le_of_ble_eq_true rfl), (Nat.le_of_ble_eq_true rfl)⟩ hl.1 (Nat.le_of_ble_eq_true rfl) dL_law_407 rfl ⟨by omega, by omega⟩) (fun H Wd => ?_)
  refine W.eq (g2 := F0 m 410 ls []) rfl ?_
  refine lv_aload_n hx hb dL_law_410 rfl (lv_at hl 3 rfl) ?_
  refine l_mr (l_mrun (n := 0) (rest := []) X Wd (K_thrown l Dm mb r (r := r.2 81) rfl) ⟨w_1838, w_1839, w_1840, w_1841⟩ (hyX rfl (by decide +kernel)) rfl ⟨(Nat.le_of_ble_eq_true rfl), (Nat.le_of_ble_eq_true rfl)⟩ hl.1 (Nat.le_of_ble_eq_true rfl) dL_law_411 rfl ⟨by omega, by omega⟩) ?_
  refine lv_iload hx hb dL_law_414 (lv_at hl 0 rfl) ?_
  refine lv_icmp_eq (tgt := 421) hx hb dL_law_416 rfl (fun _ => ?_) (fun hc => absurd rfl hc)
  refine lv_goto (tgt := 2797) hx hb dL_law_421 rfl ?_
  refine W.widen (k := cells + 13) (n := slots + 151) (by omega) (by omega) ?_
  exact kk _ _ _ H ls (hnx _ hn) Wd (lv_sub hl [1, 2, 3, 4, 5] rfl)
set_option maxRecDepth 20000 in
set_option maxHeartbeats 4000000 in
theorem L_case_4 {p : Program} {l : Launch} {e : Env} {s : State} {m : MethodId} {args : Array Value} {below : List Frame} {meth : Method} {c : Code} {H : Heap} {cells slots : Nat} {Q : State → Prop} {ls : Array Slot} {D : cD} {Φ : cG} {Dm : mD} {mb o : Nat} {cL : ClassId} {b L : Nat} {xs : Nat → Int32} {S : cS} {σ : mS} {w : Int64} {i : Int32} (hl9 : l.stackTraces = false) (X : lX p s m args meth c D Φ Dm mb o cL b L xs) {Sim Sim1 : cS → mS → Prop} (hsim : sim_take Sim Sim1) (hrc : rc S (some 1) 11 = some 1) (hin : lIn i L) (Wd : lWd D Φ Dm mb o cL s.heap S σ w H) (hS : Sim S σ) (hl : lv_has ls 7 (lLv Φ b mb o i)) (hf : cells + 13 ≤ 601024 ∧ slots + 151 ≤ 7293034) (kk : ∀ (S1 : cS) (σ1 : mS) (w1 : Int64) (H1 : Heap) (ls1 : Array Slot), Sim1 S1 σ1 → lWd D Φ Dm mb o cL s.heap S1 σ1 w1 H1 → lv_has ls1 7 (lLv Φ b mb o i) → W p l e lR s m args below meth c H1 [] (cells + 13) (slots + 151) Q (F0 m 2797 ls1 [])) : W p l e lR s m args below meth c H [] cells slots Q (F0 m 424 ls []) := by
  have hx := X.1.1
  have hb := X.1.2.1
  have hts := X.1.2.2.2.2.1
  have hl : lv_has ls 7 [(0, .ref b), (1, cv Φ (some 1)), (2, .ref mb), (3, .ref o), (4, .int i)] := hl
  obtain ⟨q, r, hq, hr, hag, hnx⟩ := hsim S σ (xs (i + 1).toNatClampNeg) hS 
  refine c_aload_n hx hb dL_law_424 rfl (lv_at hl 1 rfl) ?_
  refine lv_aload_n hx hb dL_law_425 rfl (lv_at hl 0 rfl) ?_
  refine lv_iload hx hb dL_law_426 (lv_at hl 4 rfl) ?_
  refine lv_iconst (v := 1) hx hb dL_law_428 (by decide) ?_
  refine lv_iadd hx hb dL_law_429 ?_
  refine l_sld X Wd hin.2.1 dL_law_430 ?_
  refine lv_aload_n hx hb dL_law_431 rfl (lv_at hl 3 rfl) ?_
  refine l_w1 (rest := []) (v := (r.2.2 81)) X Wd (K_L_take l hl9 D Φ S o cL w 1 (xs (i + 1).toNatClampNeg) hrc hq hag.1) ⟨w_957, ww_L_take⟩ hy_L_take rfl ⟨(Nat.le_of_ble_eq_true rfl), (Nat.le_of_ble_eq_true rfl)⟩ hl.1 (Nat.le_of_ble_eq_true rfl) dL_law_432 rfl ⟨by omega, by omega⟩ (fun n9 w H hn hx9 Wd => ?_)
  refine c_istore hx hb dL_law_435 hl (Nat.le_of_ble_eq_true rfl) (lvKa rfl (lvKa rfl (lvKa rfl (lvKa rfl (lvKi lvK0))))) rfl (fun ls (hl : lv_has ls 7 [(5, .int (r.2.2 81)), (0, .ref b), (1, cv Φ (some 1)), (2, .ref mb), (3, .ref o), (4, .int i)]) => ?_)
  refine lv_aload_n hx hb dL_law_437 rfl (lv_at hl 3 rfl) ?_
  refine lv_aload_n hx hb dL_law_438 rfl (lv_at hl 1 rfl) ?_
  refine lv_iload hx hb dL_law_439 (lv_at hl 5 rfl) ?_
  refine lv_iconst (v := 1) hx hb dL_law_441 (by decide) ?_
  refine lv_iadd hx hb dL_law_442 ?_
  refine l_sld X Wd hin.2.1 dL_law_443 ?_
  refine l_mw X Wd (l_mrun (n := 1) (rest := []) X Wd (K_take l Dm mb σ (xs (i + 1).toNatClampNeg) hr) ⟨w_1950, w_1951, w_1952, w_1953⟩ (hyX rfl (by decide +kernel)) rfl ⟨(Nat.le_of_ble_eq_true rfl), (Nat.le_of_ble_eq_true rfl)⟩ hl.1 (Nat.le_of_ble_eq_true rfl) dL_law_444 rfl ⟨by omega, by omega⟩) (fun H Wd => ?_)
  refine W.eq (g2 := F0 m 447 ls [.int r.1]) rfl ?_
  refine c_istore hx hb dL_law_447 hl (Nat.le_of_ble_eq_true rfl) (lvKi (lvKa rfl (lvKa rfl (lvKa rfl (lvKa rfl (lvKa rfl lvK0)))))) rfl (fun ls (hl : lv_has ls 7 [(6, .int r.1), (5, .int (r.2.2 81)), (0, .ref b), (1, cv Φ (some 1)), (2, .ref mb), (3, .ref o), (4, .int i)]) => ?_)
  refine lv_aload_n hx hb dL_law_449 rfl (lv_at hl 4 rfl) ?_
  refine l_mr (l_mrun (n := 0) (rest := []) X Wd (K_thrown l Dm mb r.2 (r := r.2.2 81) rfl) ⟨w_1838, w_1839, w_1840, w_1841⟩ (hyX rfl (by decide +kernel)) rfl ⟨(Nat.le_of_ble_eq_true rfl), (Nat.le_of_ble_eq_true rfl)⟩ hl.1 (Nat.le_of_ble_eq_true rfl) dL_law_450 rfl ⟨by omega, by omega⟩) ?_
  refine lv_iload hx hb dL_law_453 (lv_at hl 1 rfl) ?_
  refine lv_icmp_eq (tgt := 460) hx hb dL_law_455 rfl (fun _ => ?_) (fun hc => absurd rfl hc)
  refine lv_iload hx hb dL_law_460 (lv_at hl 1 rfl) ?_
  refine lv_if_ne (tgt := 477) hx hb dL_law_462 rfl (fun hc => ?_) (fun hc => ?_)
  · refine lv_goto (tgt := 2797) hx hb dL_law_477 rfl ?_
    refine W.widen (k := cells + 13) (n := slots + 151) (by omega) (by omega) ?_
    exact kk _ _ _ H ls (hnx _ hn) Wd (lv_sub hl [2, 3, 4, 5, 6] rfl)
  · obtain ⟨u, hu⟩ := lcd_z2 hag.1 hc
    have hw9 := hx9 u hu
    have hw8 := hag.2 u hu
    refine lv_aload_n hx hb dL_law_465 rfl (lv_at hl 5 rfl) ?_
    refine lv_iconst (v := 0) hx hb dL_law_466 (by decide) ?_
    refine l_lald X Wd dL_law_467 ?_
    refine lv_iload hx hb dL_law_468 (lv_at hl 0 rfl) ?_
    refine lv_i2l (v := lvN r.1) hx hb dL_law_470 rfl ?_
    refine W.lcmp hx hb dL_law_471 ?_
    refine lv_if_eq (tgt := 477) hx hb dL_law_472 rfl (fun _ => ?_) (fun hc => absurd (by rw [hw9, hw8]; exact lg_cmp_self _) hc)
    refine lv_goto (tgt := 2797) hx hb dL_law_477 rfl ?_
    refine W.widen (k := cells + 13) (n := slots + 151) (by omega) (by omega) ?_
    exact kk _ _ _ H ls (hnx _ hn) Wd (lv_sub hl [2, 3, 4, 5, 6] rfl)
set_option maxRecDepth 20000 in
set_option maxHeartbeats 4000000 in
theorem L_case_5 {p : Program} {l : Launch} {e : Env} {s : State} {m : MethodId} {args : Array Value} {below : List Frame} {meth : Method} {c : Code} {H : Heap} {cells slots : Nat} {Q : State → Prop} {ls : Array Slot} {D : cD} {Φ : cG} {Dm : mD} {mb o : Nat} {cL : ClassId} {b L : Nat} {xs : Nat → Int32} {S : cS} {σ : mS} {w : Int64} {i : Int32} (hl9 : l.stackTraces = false) (X : lX p s m args meth c D Φ Dm mb o cL b L xs) {Sim Sim1 : cS → mS → Prop} (hsim : sim_setClass Sim Sim1) (hrc : rc S (some 1) 11 = some 1) (hin : lIn i L) (Wd : lWd D Φ Dm mb o cL s.heap S σ w H) (hS : Sim S σ) (hl : lv_has ls 7 (lLv Φ b mb o i)) (hf : cells + 13 ≤ 601024 ∧ slots + 151 ≤ 7293034) (kk : ∀ (S1 : cS) (σ1 : mS) (w1 : Int64) (H1 : Heap) (ls1 : Array Slot), Sim1 S1 σ1 → lWd D Φ Dm mb o cL s.heap S1 σ1 w1 H1 → lv_has ls1 7 (lLv Φ b mb o i) → W p l e lR s m args below meth c H1 [] (cells + 13) (slots + 151) Q (F0 m 2797 ls1 [])) : W p l e lR s m args below meth c H [] cells slots Q (F0 m 480 ls []) := by
  have hx := X.1.1
  have hb := X.1.2.1
  have hts := X.1.2.2.2.2.1
  have hl : lv_has ls 7 [(0, .ref b), (1, cv Φ (some 1)), (2, .ref mb), (3, .ref o), (4, .int i)] := hl
  obtain ⟨q, r, hq, hr, hag, hnx⟩ := hsim S σ (xs (i + 1).toNatClampNeg) (xs (i + 2).toNatClampNeg) (lz (xs (i + 3).toNatClampNeg)) hS (lz_01 _)
  refine c_aload_n hx hb dL_law_480 rfl (lv_at hl 1 rfl) ?_
  refine lv_aload_n hx hb dL_law_481 rfl (lv_at hl 0 rfl) ?_
  refine lv_iload hx hb dL_law_482 (lv_at hl 4 rfl) ?_
  refine lv_iconst (v := 1) hx hb dL_law_484 (by decide) ?_
  refine lv_iadd hx hb dL_law_485 ?_
  refine l_sld X Wd hin.2.1 dL_law_486 ?_
  refine lv_aload_n hx hb dL_law_487 rfl (lv_at hl 0 rfl) ?_
  refine lv_iload hx hb dL_law_488 (lv_at hl 4 rfl) ?_
  refine lv_iconst (v := 2) hx hb dL_law_490 (by decide) ?_
  refine lv_iadd hx hb dL_law_491 ?_
  refine l_sld X Wd hin.2.2.1 dL_law_492 ?_
  refine lv_aload_n hx hb dL_law_493 rfl (lv_at hl 0 rfl) ?_
  refine lv_iload hx hb dL_law_494 (lv_at hl 4 rfl) ?_
  refine lv_iconst (v := 3) hx hb dL_law_496 (by decide) ?_
  refine lv_iadd hx hb dL_law_497 ?_
  refine l_sld X Wd hin.2.2.2.1 dL_law_498 ?_
  refine l_tern hx hb dL_law_499 dL_law_502 dL_law_503 dL_law_506 ?_
  refine lv_aload_n hx hb dL_law_507 rfl (lv_at hl 3 rfl) ?_
  refine l_w1 (rest := []) (v := (r.2.2 81)) X Wd (K_L_setClass l hl9 D Φ S o cL w 1 (xs (i + 1).toNatClampNeg) (xs (i + 2).toNatClampNeg) (lz (xs (i + 3).toNatClampNeg)) hrc hq hag.1) ⟨w_968, ww_L_setClass⟩ hy_L_setClass rfl ⟨(Nat.le_of_ble_eq_true rfl), (Nat.le_of_ble_eq_true rfl)⟩ hl.1 (Nat.le_of_ble_eq_true rfl) dL_law_508 rfl ⟨by omega, by omega⟩ (fun n9 w H hn hx9 Wd => ?_)
  refine c_istore hx hb dL_law_511 hl (Nat.le_of_ble_eq_true rfl) (lvKa rfl (lvKa rfl (lvKa rfl (lvKa rfl (lvKi lvK0))))) rfl (fun ls (hl : lv_has ls 7 [(5, .int (r.2.2 81)), (0, .ref b), (1, cv Φ (some 1)), (2, .ref mb), (3, .ref o), (4, .int i)]) => ?_)
  refine lv_aload_n hx hb dL_law_513 rfl (lv_at hl 3 rfl) ?_
  refine lv_aload_n hx hb dL_law_514 rfl (lv_at hl 1 rfl) ?_
  refine lv_iload hx hb dL_law_515 (lv_at hl 5 rfl) ?_
  refine lv_iconst (v := 1) hx hb dL_law_517 (by decide) ?_
  refine lv_iadd hx hb dL_law_518 ?_
  refine l_sld X Wd hin.2.1 dL_law_519 ?_
  refine lv_aload_n hx hb dL_law_520 rfl (lv_at hl 1 rfl) ?_
  refine lv_iload hx hb dL_law_521 (lv_at hl 5 rfl) ?_
  refine lv_iconst (v := 2) hx hb dL_law_523 (by decide) ?_
  refine lv_iadd hx hb dL_law_524 ?_
  refine l_sld X Wd hin.2.2.1 dL_law_525 ?_
  refine lv_aload_n hx hb dL_law_526 rfl (lv_at hl 1 rfl) ?_
  refine lv_iload hx hb dL_law_527 (lv_at hl 5 rfl) ?_
  refine lv_iconst (v := 3) hx hb dL_law_529 (by decide) ?_
  refine lv_iadd hx hb dL_law_530 ?_
  refine l_sld X Wd hin.2.2.2.1 dL_law_531 ?_
  refine l_tern hx hb dL_law_532 dL_law_535 dL_law_536 dL_law_539 ?_
  refine l_mw X Wd (l_mrun (n := 3) (rest := []) X Wd (K_setClass l Dm mb σ (xs (i + 1).toNatClampNeg) (xs (i + 2).toNatClampNeg) (lz (xs (i + 3).toNatClampNeg)) hr) ⟨w_1958, w_1959, w_1960, w_1961⟩ (hyX rfl (by decide +kernel)) rfl ⟨(Nat.le_of_ble_eq_true rfl), (Nat.le_of_ble_eq_true rfl)⟩ hl.1 (Nat.le_of_ble_eq_true rfl) dL_law_540 rfl ⟨by omega, by omega⟩) (fun H Wd => ?_)
  refine W.eq (g2 := F0 m 543 ls [.int r.1]) rfl ?_
  refine c_istore hx hb dL_law_543 hl (Nat.le_of_ble_eq_true rfl) (lvKi (lvKa rfl (lvKa rfl (lvKa rfl (lvKa rfl (lvKa rfl lvK0)))))) rfl (fun ls (hl : lv_has ls 7 [(6, .int r.1), (5, .int (r.2.2 81)), (0, .ref b), (1, cv Φ (some 1)), (2, .ref mb), (3, .ref o), (4, .int i)]) => ?_)
  refine lv_aload_n hx hb dL_law_545 rfl (lv_at hl 4 rfl) ?_
  refine l_mr (l_mrun (n := 0) (rest := []) X Wd (K_thrown l Dm mb r.2 (r := r.2.2 81) rfl) ⟨w_1838, w_1839, w_1840, w_1841⟩ (hyX rfl (by decide +kernel)) rfl ⟨(Nat.le_of_ble_eq_true rfl), (Nat.le_of_ble_eq_true rfl)⟩ hl.1 (Nat.le_of_ble_eq_true rfl) dL_law_546 rfl ⟨by omega, by omega⟩) ?_
  refine lv_iload hx hb dL_law_549 (lv_at hl 1 rfl) ?_
  refine lv_icmp_eq (tgt := 556) hx hb dL_law_551 rfl (fun _ => ?_) (fun hc => absurd rfl hc)
  refine lv_iload hx hb dL_law_556 (lv_at hl 1 rfl) ?_
  refine lv_if_ne (tgt := 580) hx hb dL_law_558 rfl (fun hc => ?_) (fun hc => ?_)
  · refine lv_goto (tgt := 2797) hx hb dL_law_580 rfl ?_
    refine W.widen (k := cells + 13) (n := slots + 151) (by omega) (by omega) ?_
    exact kk _ _ _ H ls (hnx _ hn) Wd (lv_sub hl [2, 3, 4, 5, 6] rfl)
  · obtain ⟨u, hu⟩ := lcd_z2 hag.1 hc
    have hw9 := hx9 u hu
    have hw8 := hag.2 u hu
    refine lv_aload_n hx hb dL_law_561 rfl (lv_at hl 5 rfl) ?_
    refine lv_iconst (v := 0) hx hb dL_law_562 (by decide) ?_
    refine l_lald X Wd dL_law_563 ?_
    refine lv_iload hx hb dL_law_564 (lv_at hl 0 rfl) ?_
    refine l_ternL hx hb dL_law_566 dL_law_569 dL_law_570 dL_law_573 ?_
    refine W.lcmp hx hb dL_law_574 ?_
    refine lv_if_eq (tgt := 580) hx hb dL_law_575 rfl (fun _ => ?_) (fun hc => absurd (by rw [hw9, hw8]; exact lg_cmp_self _) hc)
    refine lv_goto (tgt := 2797) hx hb dL_law_580 rfl ?_
    refine W.widen (k := cells + 13) (n := slots + 151) (by omega) (by omega) ?_
    exact kk _ _ _ H ls (hnx _ hn) Wd (lv_sub hl [2, 3, 4, 5, 6] rfl)
set_option maxRecDepth 20000 in
set_option maxHeartbeats 4000000 in
theorem L_case_6 {p : Program} {l : Launch} {e : Env} {s : State} {m : MethodId} {args : Array Value} {below : List Frame} {meth : Method} {c : Code} {H : Heap} {cells slots : Nat} {Q : State → Prop} {ls : Array Slot} {D : cD} {Φ : cG} {Dm : mD} {mb o : Nat} {cL : ClassId} {b L : Nat} {xs : Nat → Int32} {S : cS} {σ : mS} {w : Int64} {i : Int32} (hl9 : l.stackTraces = false) (X : lX p s m args meth c D Φ Dm mb o cL b L xs) {Sim Sim1 : cS → mS → Prop} (hsim : sim_setState Sim Sim1) (hrc : rc S (some 1) 11 = some 1) (hin : lIn i L) (Wd : lWd D Φ Dm mb o cL s.heap S σ w H) (hS : Sim S σ) (hl : lv_has ls 7 (lLv Φ b mb o i)) (hf : cells + 13 ≤ 601024 ∧ slots + 151 ≤ 7293034) (kk : ∀ (S1 : cS) (σ1 : mS) (w1 : Int64) (H1 : Heap) (ls1 : Array Slot), Sim1 S1 σ1 → lWd D Φ Dm mb o cL s.heap S1 σ1 w1 H1 → lv_has ls1 7 (lLv Φ b mb o i) → W p l e lR s m args below meth c H1 [] (cells + 13) (slots + 151) Q (F0 m 2797 ls1 [])) : W p l e lR s m args below meth c H [] cells slots Q (F0 m 583 ls []) := by
  have hx := X.1.1
  have hb := X.1.2.1
  have hts := X.1.2.2.2.2.1
  have hl : lv_has ls 7 [(0, .ref b), (1, cv Φ (some 1)), (2, .ref mb), (3, .ref o), (4, .int i)] := hl
  obtain ⟨q, r, hq, hr, hag, hnx⟩ := hsim S σ (xs (i + 1).toNatClampNeg) (xs (i + 2).toNatClampNeg) (lz (xs (i + 3).toNatClampNeg)) hS (lz_01 _)
  refine c_aload_n hx hb dL_law_583 rfl (lv_at hl 1 rfl) ?_
  refine lv_aload_n hx hb dL_law_584 rfl (lv_at hl 0 rfl) ?_
  refine lv_iload hx hb dL_law_585 (lv_at hl 4 rfl) ?_
  refine lv_iconst (v := 1) hx hb dL_law_587 (by decide) ?_
  refine lv_iadd hx hb dL_law_588 ?_
  refine l_sld X Wd hin.2.1 dL_law_589 ?_
  refine lv_aload_n hx hb dL_law_590 rfl (lv_at hl 0 rfl) ?_
  refine lv_iload hx hb dL_law_591 (lv_at hl 4 rfl) ?_
  refine lv_iconst (v := 2) hx hb dL_law_593 (by decide) ?_
  refine lv_iadd hx hb dL_law_594 ?_
  refine l_sld X Wd hin.2.2.1 dL_law_595 ?_
  refine lv_aload_n hx hb dL_law_596 rfl (lv_at hl 0 rfl) ?_
  refine lv_iload hx hb dL_law_597 (lv_at hl 4 rfl) ?_
  refine lv_iconst (v := 3) hx hb dL_law_599 (by decide) ?_
  refine lv_iadd hx hb dL_law_600 ?_
  refine l_sld X Wd hin.2.2.2.1 dL_law_601 ?_
  refine l_tern hx hb dL_law_602 dL_law_605 dL_law_606 dL_law_609 ?_
  refine lv_aload_n hx hb dL_law_610 rfl (lv_at hl 3 rfl) ?_
  refine l_w1 (rest := []) (v := (r.2.2 81)) X Wd (K_L_setState l hl9 D Φ S o cL w 1 (xs (i + 1).toNatClampNeg) (xs (i + 2).toNatClampNeg) (lz (xs (i + 3).toNatClampNeg)) hrc hq hag.1) ⟨w_997, ww_L_setState⟩ hy_L_setState rfl ⟨(Nat.le_of_ble_eq_true rfl), (Nat.le_of_ble_eq_true rfl)⟩ hl.1 (Nat.le_of_ble_eq_true rfl) dL_law_611 rfl ⟨by omega, by omega⟩ (fun n9 w H hn hx9 Wd => ?_)
  refine c_istore hx hb dL_law_614 hl (Nat.le_of_ble_eq_true rfl) (lvKa rfl (lvKa rfl (lvKa rfl (lvKa rfl (lvKi lvK0))))) rfl (fun ls (hl : lv_has ls 7 [(5, .int (r.2.2 81)), (0, .ref b), (1, cv Φ (some 1)), (2, .ref mb), (3, .ref o), (4, .int i)]) => ?_)
  refine lv_aload_n hx hb dL_law_616 rfl (lv_at hl 3 rfl) ?_
  refine lv_aload_n hx hb dL_law_617 rfl (lv_at hl 1 rfl) ?_
  refine lv_iload hx hb dL_law_618 (lv_at hl 5 rfl) ?_
  refine lv_iconst (v := 1) hx hb dL_law_620 (by decide) ?_
  refine lv_iadd hx hb dL_law_621 ?_
  refine l_sld X Wd hin.2.1 dL_law_622 ?_
  refine lv_aload_n hx hb dL_law_623 rfl (lv_at hl 1 rfl) ?_
  refine lv_iload hx hb dL_law_624 (lv_at hl 5 rfl) ?_
  refine lv_iconst (v := 2) hx hb dL_law_626 (by decide) ?_
  refine lv_iadd hx hb dL_law_627 ?_
  refine l_sld X Wd hin.2.2.1 dL_law_628 ?_
  refine lv_aload_n hx hb dL_law_629 rfl (lv_at hl 1 rfl) ?_
  refine lv_iload hx hb dL_law_630 (lv_at hl 5 rfl) ?_
  refine lv_iconst (v := 3) hx hb dL_law_632 (by decide) ?_
  refine lv_iadd hx hb dL_law_633 ?_
  refine l_sld X Wd hin.2.2.2.1 dL_law_634 ?_
  refine l_tern hx hb dL_law_635 dL_law_638 dL_law_639 dL_law_642 ?_
  refine l_mw X Wd (l_mrun (n := 3) (rest := []) X Wd (K_setState l Dm mb σ (xs (i + 1).toNatClampNeg) (xs (i + 2).toNatClampNeg) (lz (xs (i + 3).toNatClampNeg)) hr) ⟨w_1966, w_1967, w_1968, w_1969⟩ (hyX rfl (by decide +kernel)) rfl ⟨(Nat.le_of_ble_eq_true rfl), (Nat.le_of_ble_eq_true rfl)⟩ hl.1 (Nat.le_of_ble_eq_true rfl) dL_law_643 rfl ⟨by omega, by omega⟩) (fun H Wd => ?_)
  refine W.eq (g2 := F0 m 646 ls [.int r.1]) rfl ?_
  refine c_istore hx hb dL_law_646 hl (Nat.le_of_ble_eq_true rfl) (lvKi (lvKa rfl (lvKa rfl (lvKa rfl (lvKa rfl (lvKa rfl lvK0)))))) rfl (fun ls (hl : lv_has ls 7 [(6, .int r.1), (5, .int (r.2.2 81)), (0, .ref b), (1, cv Φ (some 1)), (2, .ref mb), (3, .ref o), (4, .int i)]) => ?_)
  refine lv_aload_n hx hb dL_law_648 rfl (lv_at hl 4 rfl) ?_
  refine l_mr (l_mrun (n := 0) (rest := []) X Wd (K_thrown l Dm mb r.2 (r := r.2.2 81) rfl) ⟨w_1838, w_1839, w_1840, w_1841⟩ (hyX rfl (by decide +kernel)) rfl ⟨(Nat.le_of_ble_eq_true rfl), (Nat.le_of_ble_eq_true rfl)⟩ hl.1 (Nat.le_of_ble_eq_true rfl) dL_law_649 rfl ⟨by omega, by omega⟩) ?_
  refine lv_iload hx hb dL_law_652 (lv_at hl 1 rfl) ?_
  refine lv_icmp_eq (tgt := 659) hx hb dL_law_654 rfl (fun _ => ?_) (fun hc => absurd rfl hc)
  refine lv_iload hx hb dL_law_659 (lv_at hl 1 rfl) ?_
  refine lv_if_ne (tgt := 683) hx hb dL_law_661 rfl (fun hc => ?_) (fun hc => ?_)
  · refine lv_goto (tgt := 2797) hx hb dL_law_683 rfl ?_
    refine W.widen (k := cells + 13) (n := slots + 151) (by omega) (by omega) ?_
    exact kk _ _ _ H ls (hnx _ hn) Wd (lv_sub hl [2, 3, 4, 5, 6] rfl)
  · obtain ⟨u, hu⟩ := lcd_z2 hag.1 hc
    have hw9 := hx9 u hu
    have hw8 := hag.2 u hu
    refine lv_aload_n hx hb dL_law_664 rfl (lv_at hl 5 rfl) ?_
    refine lv_iconst (v := 0) hx hb dL_law_665 (by decide) ?_
    refine l_lald X Wd dL_law_666 ?_
    refine lv_iload hx hb dL_law_667 (lv_at hl 0 rfl) ?_
    refine l_ternL hx hb dL_law_669 dL_law_672 dL_law_673 dL_law_676 ?_
    refine W.lcmp hx hb dL_law_677 ?_
    refine lv_if_eq (tgt := 683) hx hb dL_law_678 rfl (fun _ => ?_) (fun hc => absurd (by rw [hw9, hw8]; exact lg_cmp_self _) hc)
    refine lv_goto (tgt := 2797) hx hb dL_law_683 rfl ?_
    refine W.widen (k := cells + 13) (n := slots + 151) (by omega) (by omega) ?_
    exact kk _ _ _ H ls (hnx _ hn) Wd (lv_sub hl [2, 3, 4, 5, 6] rfl)
set_option maxRecDepth 20000 in
set_option maxHeartbeats 4000000 in
theorem L_case_7 {p : Program} {l : Launch} {e : Env} {s : State} {m : MethodId} {args : Array Value} {below : List Frame} {meth : Method} {c : Code} {H : Heap} {cells slots : Nat} {Q : State → Prop} {ls : Array Slot} {D : cD} {Φ : cG} {Dm : mD} {mb o : Nat} {cL : ClassId} {b L : Nat} {xs : Nat → Int32} {S : cS} {σ : mS} {w : Int64} {i : Int32} (hl9 : l.stackTraces = false) (X : lX p s m args meth c D Φ Dm mb o cL b L xs) {Sim Sim1 : cS → mS → Prop} (hsim : sim_setAttribute Sim Sim1) (hrc : rc S (some 1) 11 = some 1) (hin : lIn i L) (Wd : lWd D Φ Dm mb o cL s.heap S σ w H) (hS : Sim S σ) (hl : lv_has ls 7 (lLv Φ b mb o i)) (hf : cells + 13 ≤ 601024 ∧ slots + 151 ≤ 7293034) (kk : ∀ (S1 : cS) (σ1 : mS) (w1 : Int64) (H1 : Heap) (ls1 : Array Slot), Sim1 S1 σ1 → lWd D Φ Dm mb o cL s.heap S1 σ1 w1 H1 → lv_has ls1 7 (lLv Φ b mb o i) → W p l e lR s m args below meth c H1 [] (cells + 13) (slots + 151) Q (F0 m 2797 ls1 [])) : W p l e lR s m args below meth c H [] cells slots Q (F0 m 686 ls []) := by
  have hx := X.1.1
  have hb := X.1.2.1
  have hts := X.1.2.2.2.2.1
  have hl : lv_has ls 7 [(0, .ref b), (1, cv Φ (some 1)), (2, .ref mb), (3, .ref o), (4, .int i)] := hl
  obtain ⟨q, r, hq, hr, hag, hnx⟩ := hsim S σ (xs (i + 1).toNatClampNeg) (xs (i + 2).toNatClampNeg) (xs (i + 3).toNatClampNeg) hS 
  refine c_aload_n hx hb dL_law_686 rfl (lv_at hl 1 rfl) ?_
  refine lv_aload_n hx hb dL_law_687 rfl (lv_at hl 0 rfl) ?_
  refine lv_iload hx hb dL_law_688 (lv_at hl 4 rfl) ?_
  refine lv_iconst (v := 1) hx hb dL_law_690 (by decide) ?_
  refine lv_iadd hx hb dL_law_691 ?_
  refine l_sld X Wd hin.2.1 dL_law_692 ?_
  refine lv_aload_n hx hb dL_law_693 rfl (lv_at hl 0 rfl) ?_
  refine lv_iload hx hb dL_law_694 (lv_at hl 4 rfl) ?_
  refine lv_iconst (v := 2) hx hb dL_law_696 (by decide) ?_
  refine lv_iadd hx hb dL_law_697 ?_
  refine l_sld X Wd hin.2.2.1 dL_law_698 ?_
  refine lv_aload_n hx hb dL_law_699 rfl (lv_at hl 0 rfl) ?_
  refine lv_iload hx hb dL_law_700 (lv_at hl 4 rfl) ?_
  refine lv_iconst (v := 3) hx hb dL_law_702 (by decide) ?_
  refine lv_iadd hx hb dL_law_703 ?_
  refine l_sld X Wd hin.2.2.2.1 dL_law_704 ?_
  refine lv_aload_n hx hb dL_law_705 rfl (lv_at hl 3 rfl) ?_
  refine l_w1 (rest := []) (v := (r.2.2 81)) X Wd (K_L_setAttribute l hl9 D Φ S o cL w 1 (xs (i + 1).toNatClampNeg) (xs (i + 2).toNatClampNeg) (xs (i + 3).toNatClampNeg) hrc hq hag.1) ⟨w_1004, ww_L_setAttribute⟩ hy_L_setAttribute rfl ⟨(Nat.le_of_ble_eq_true rfl), (Nat.le_of_ble_eq_true rfl)⟩ hl.1 (Nat.le_of_ble_eq_true rfl) dL_law_706 rfl ⟨by omega, by omega⟩ (fun n9 w H hn hx9 Wd => ?_)
  refine c_istore hx hb dL_law_709 hl (Nat.le_of_ble_eq_true rfl) (lvKa rfl (lvKa rfl (lvKa rfl (lvKa rfl (lvKi lvK0))))) rfl (fun ls (hl : lv_has ls 7 [(5, .int (r.2.2 81)), (0, .ref b), (1, cv Φ (some 1)), (2, .ref mb), (3, .ref o), (4, .int i)]) => ?_)
  refine lv_aload_n hx hb dL_law_711 rfl (lv_at hl 3 rfl) ?_
  refine lv_aload_n hx hb dL_law_712 rfl (lv_at hl 1 rfl) ?_
  refine lv_iload hx hb dL_law_713 (lv_at hl 5 rfl) ?_
  refine lv_iconst (v := 1) hx hb dL_law_715 (by decide) ?_
  refine lv_iadd hx hb dL_law_716 ?_
  refine l_sld X Wd hin.2.1 dL_law_717 ?_
  refine lv_aload_n hx hb dL_law_718 rfl (lv_at hl 1 rfl) ?_
  refine lv_iload hx hb dL_law_719 (lv_at hl 5 rfl) ?_
  refine lv_iconst (v := 2) hx hb dL_law_721 (by decide) ?_
  refine lv_iadd hx hb dL_law_722 ?_
  refine l_sld X Wd hin.2.2.1 dL_law_723 ?_
  refine lv_aload_n hx hb dL_law_724 rfl (lv_at hl 1 rfl) ?_
  refine lv_iload hx hb dL_law_725 (lv_at hl 5 rfl) ?_
  refine lv_iconst (v := 3) hx hb dL_law_727 (by decide) ?_
  refine lv_iadd hx hb dL_law_728 ?_
  refine l_sld X Wd hin.2.2.2.1 dL_law_729 ?_
  refine l_mw X Wd (l_mrun (n := 3) (rest := []) X Wd (K_setAttribute l Dm mb σ (xs (i + 1).toNatClampNeg) (xs (i + 2).toNatClampNeg) (xs (i + 3).toNatClampNeg) hr) ⟨w_1970, w_1971, w_1972, w_1973⟩ (hyX rfl (by decide +kernel)) rfl ⟨(Nat.le_of_ble_eq_true rfl), (Nat.le_of_ble_eq_true rfl)⟩ hl.1 (Nat.le_of_ble_eq_true rfl) dL_law_730 rfl ⟨by omega, by omega⟩) (fun H Wd => ?_)
  refine W.eq (g2 := F0 m 733 ls [.int r.1]) rfl ?_
  refine c_istore hx hb dL_law_733 hl (Nat.le_of_ble_eq_true rfl) (lvKi (lvKa rfl (lvKa rfl (lvKa rfl (lvKa rfl (lvKa rfl lvK0)))))) rfl (fun ls (hl : lv_has ls 7 [(6, .int r.1), (5, .int (r.2.2 81)), (0, .ref b), (1, cv Φ (some 1)), (2, .ref mb), (3, .ref o), (4, .int i)]) => ?_)
  refine lv_aload_n hx hb dL_law_735 rfl (lv_at hl 4 rfl) ?_
  refine l_mr (l_mrun (n := 0) (rest := []) X Wd (K_thrown l Dm mb r.2 (r := r.2.2 81) rfl) ⟨w_1838, w_1839, w_1840, w_1841⟩ (hyX rfl (by decide +kernel)) rfl ⟨(Nat.le_of_ble_eq_true rfl), (Nat.le_of_ble_eq_true rfl)⟩ hl.1 (Nat.le_of_ble_eq_true rfl) dL_law_736 rfl ⟨by omega, by omega⟩) ?_
  refine lv_iload hx hb dL_law_739 (lv_at hl 1 rfl) ?_
  refine lv_icmp_eq (tgt := 746) hx hb dL_law_741 rfl (fun _ => ?_) (fun hc => absurd rfl hc)
  refine lv_iload hx hb dL_law_746 (lv_at hl 1 rfl) ?_
  refine lv_if_ne (tgt := 763) hx hb dL_law_748 rfl (fun hc => ?_) (fun hc => ?_)
  · refine lv_goto (tgt := 2797) hx hb dL_law_763 rfl ?_
    refine W.widen (k := cells + 13) (n := slots + 151) (by omega) (by omega) ?_
    exact kk _ _ _ H ls (hnx _ hn) Wd (lv_sub hl [2, 3, 4, 5, 6] rfl)
  · obtain ⟨u, hu⟩ := lcd_z2 hag.1 hc
    have hw9 := hx9 u hu
    have hw8 := hag.2 u hu
    refine lv_aload_n hx hb dL_law_751 rfl (lv_at hl 5 rfl) ?_
    refine lv_iconst (v := 0) hx hb dL_law_752 (by decide) ?_
    refine l_lald X Wd dL_law_753 ?_
    refine lv_iload hx hb dL_law_754 (lv_at hl 0 rfl) ?_
    refine lv_i2l (v := lvN r.1) hx hb dL_law_756 rfl ?_
    refine W.lcmp hx hb dL_law_757 ?_
    refine lv_if_eq (tgt := 763) hx hb dL_law_758 rfl (fun _ => ?_) (fun hc => absurd (by rw [hw9, hw8]; exact lg_cmp_self _) hc)
    refine lv_goto (tgt := 2797) hx hb dL_law_763 rfl ?_
    refine W.widen (k := cells + 13) (n := slots + 151) (by omega) (by omega) ?_
    exact kk _ _ _ H ls (hnx _ hn) Wd (lv_sub hl [2, 3, 4, 5, 6] rfl)
set_option maxRecDepth 20000 in
set_option maxHeartbeats 4000000 in
theorem L_case_8 {p : Program} {l : Launch} {e : Env} {s : State} {m : MethodId} {args : Array Value} {below : List Frame} {meth : Method} {c : Code} {H : Heap} {cells slots : Nat} {Q : State → Prop} {ls : Array Slot} {D : cD} {Φ : cG} {Dm : mD} {mb o : Nat} {cL : ClassId} {b L : Nat} {xs : Nat → Int32} {S : cS} {σ : mS} {w : Int64} {i : Int32} (hl9 : l.stackTraces = false) (X : lX p s m args meth c D Φ Dm mb o cL b L xs) {Sim Sim1 : cS → mS → Prop} (hsim : sim_setPart Sim Sim1) (hrc : rc S (some 1) 11 = some 1) (hin : lIn i L) (Wd : lWd D Φ Dm mb o cL s.heap S σ w H) (hS : Sim S σ) (hl : lv_has ls 7 (lLv Φ b mb o i)) (hf : cells + 13 ≤ 601024 ∧ slots + 151 ≤ 7293034) (kk : ∀ (S1 : cS) (σ1 : mS) (w1 : Int64) (H1 : Heap) (ls1 : Array Slot), Sim1 S1 σ1 → lWd D Φ Dm mb o cL s.heap S1 σ1 w1 H1 → lv_has ls1 7 (lLv Φ b mb o i) → W p l e lR s m args below meth c H1 [] (cells + 13) (slots + 151) Q (F0 m 2797 ls1 [])) : W p l e lR s m args below meth c H [] cells slots Q (F0 m 766 ls []) := by
  have hx := X.1.1
  have hb := X.1.2.1
  have hts := X.1.2.2.2.2.1
  have hl : lv_has ls 7 [(0, .ref b), (1, cv Φ (some 1)), (2, .ref mb), (3, .ref o), (4, .int i)] := hl
  obtain ⟨q, r, hq, hr, hag, hnx⟩ := hsim S σ (xs (i + 1).toNatClampNeg) (xs (i + 2).toNatClampNeg) hS 
  refine c_aload_n hx hb dL_law_766 rfl (lv_at hl 1 rfl) ?_
  refine lv_aload_n hx hb dL_law_767 rfl (lv_at hl 0 rfl) ?_
  refine lv_iload hx hb dL_law_768 (lv_at hl 4 rfl) ?_
  refine lv_iconst (v := 1) hx hb dL_law_770 (by decide) ?_
  refine lv_iadd hx hb dL_law_771 ?_
  refine l_sld X Wd hin.2.1 dL_law_772 ?_
  refine lv_aload_n hx hb dL_law_773 rfl (lv_at hl 0 rfl) ?_
  refine lv_iload hx hb dL_law_774 (lv_at hl 4 rfl) ?_
  refine lv_iconst (v := 2) hx hb dL_law_776 (by decide) ?_
  refine lv_iadd hx hb dL_law_777 ?_
  refine l_sld X Wd hin.2.2.1 dL_law_778 ?_
  refine lv_aload_n hx hb dL_law_779 rfl (lv_at hl 3 rfl) ?_
  refine l_w1 (rest := []) (v := (r.2.2 81)) X Wd (K_L_setPart l hl9 D Φ S o cL w 1 (xs (i + 1).toNatClampNeg) (xs (i + 2).toNatClampNeg) hrc hq hag.1) ⟨w_1011, ww_L_setPart⟩ hy_L_setPart rfl ⟨(Nat.le_of_ble_eq_true rfl), (Nat.le_of_ble_eq_true rfl)⟩ hl.1 (Nat.le_of_ble_eq_true rfl) dL_law_780 rfl ⟨by omega, by omega⟩ (fun n9 w H hn hx9 Wd => ?_)
  refine c_istore hx hb dL_law_783 hl (Nat.le_of_ble_eq_true rfl) (lvKa rfl (lvKa rfl (lvKa rfl (lvKa rfl (lvKi lvK0))))) rfl (fun ls (hl : lv_has ls 7 [(5, .int (r.2.2 81)), (0, .ref b), (1, cv Φ (some 1)), (2, .ref mb), (3, .ref o), (4, .int i)]) => ?_)
  refine lv_aload_n hx hb dL_law_785 rfl (lv_at hl 3 rfl) ?_
  refine lv_aload_n hx hb dL_law_786 rfl (lv_at hl 1 rfl) ?_
  refine lv_iload hx hb dL_law_787 (lv_at hl 5 rfl) ?_
  refine lv_iconst (v := 1) hx hb dL_law_789 (by decide) ?_
  refine lv_iadd hx hb dL_law_790 ?_
  refine l_sld X Wd hin.2.1 dL_law_791 ?_
  refine lv_aload_n hx hb dL_law_792 rfl (lv_at hl 1 rfl) ?_
  refine lv_iload hx hb dL_law_793 (lv_at hl 5 rfl) ?_
  refine lv_iconst (v := 2) hx hb dL_law_795 (by decide) ?_
  refine lv_iadd hx hb dL_law_796 ?_
  refine l_sld X Wd hin.2.2.1 dL_law_797 ?_
  refine l_mw X Wd (l_mrun (n := 2) (rest := []) X Wd (K_setPart l Dm mb σ (xs (i + 1).toNatClampNeg) (xs (i + 2).toNatClampNeg) hr) ⟨w_1974, w_1975, w_1976, w_1977⟩ (hyX rfl (by decide +kernel)) rfl ⟨(Nat.le_of_ble_eq_true rfl), (Nat.le_of_ble_eq_true rfl)⟩ hl.1 (Nat.le_of_ble_eq_true rfl) dL_law_798 rfl ⟨by omega, by omega⟩) (fun H Wd => ?_)
  refine W.eq (g2 := F0 m 801 ls [.int r.1]) rfl ?_
  refine c_istore hx hb dL_law_801 hl (Nat.le_of_ble_eq_true rfl) (lvKi (lvKa rfl (lvKa rfl (lvKa rfl (lvKa rfl (lvKa rfl lvK0)))))) rfl (fun ls (hl : lv_has ls 7 [(6, .int r.1), (5, .int (r.2.2 81)), (0, .ref b), (1, cv Φ (some 1)), (2, .ref mb), (3, .ref o), (4, .int i)]) => ?_)
  refine lv_aload_n hx hb dL_law_803 rfl (lv_at hl 4 rfl) ?_
  refine l_mr (l_mrun (n := 0) (rest := []) X Wd (K_thrown l Dm mb r.2 (r := r.2.2 81) rfl) ⟨w_1838, w_1839, w_1840, w_1841⟩ (hyX rfl (by decide +kernel)) rfl ⟨(Nat.le_of_ble_eq_true rfl), (Nat.le_of_ble_eq_true rfl)⟩ hl.1 (Nat.le_of_ble_eq_true rfl) dL_law_804 rfl ⟨by omega, by omega⟩) ?_
  refine lv_iload hx hb dL_law_807 (lv_at hl 1 rfl) ?_
  refine lv_icmp_eq (tgt := 814) hx hb dL_law_809 rfl (fun _ => ?_) (fun hc => absurd rfl hc)
  refine lv_iload hx hb dL_law_814 (lv_at hl 1 rfl) ?_
  refine lv_if_ne (tgt := 831) hx hb dL_law_816 rfl (fun hc => ?_) (fun hc => ?_)
  · refine lv_goto (tgt := 2797) hx hb dL_law_831 rfl ?_
    refine W.widen (k := cells + 13) (n := slots + 151) (by omega) (by omega) ?_
    exact kk _ _ _ H ls (hnx _ hn) Wd (lv_sub hl [2, 3, 4, 5, 6] rfl)
  · obtain ⟨u, hu⟩ := lcd_z2 hag.1 hc
    have hw9 := hx9 u hu
    have hw8 := hag.2 u hu
    refine lv_aload_n hx hb dL_law_819 rfl (lv_at hl 5 rfl) ?_
    refine lv_iconst (v := 0) hx hb dL_law_820 (by decide) ?_
    refine l_lald X Wd dL_law_821 ?_
    refine lv_iload hx hb dL_law_822 (lv_at hl 0 rfl) ?_
    refine lv_i2l (v := lvN r.1) hx hb dL_law_824 rfl ?_
    refine W.lcmp hx hb dL_law_825 ?_
    refine lv_if_eq (tgt := 831) hx hb dL_law_826 rfl (fun _ => ?_) (fun hc => absurd (by rw [hw9, hw8]; exact lg_cmp_self _) hc)
    refine lv_goto (tgt := 2797) hx hb dL_law_831 rfl ?_
    refine W.widen (k := cells + 13) (n := slots + 151) (by omega) (by omega) ?_
    exact kk _ _ _ H ls (hnx _ hn) Wd (lv_sub hl [2, 3, 4, 5, 6] rfl)
set_option maxRecDepth 20000 in
set_option maxHeartbeats 4000000 in
theorem L_case_9 {p : Program} {l : Launch} {e : Env} {s : State} {m : MethodId} {args : Array Value} {below : List Frame} {meth : Method} {c : Code} {H : Heap} {cells slots : Nat} {Q : State → Prop} {ls : Array Slot} {D : cD} {Φ : cG} {Dm : mD} {mb o : Nat} {cL : ClassId} {b L : Nat} {xs : Nat → Int32} {S : cS} {σ : mS} {w : Int64} {i : Int32} (hl9 : l.stackTraces = false) (X : lX p s m args meth c D Φ Dm mb o cL b L xs) {Sim Sim1 : cS → mS → Prop} (hsim : sim_shownParent Sim Sim1) (hrc : rc S (some 1) 11 = some 1) (hin : lIn i L) (Wd : lWd D Φ Dm mb o cL s.heap S σ w H) (hS : Sim S σ) (hl : lv_has ls 7 (lLv Φ b mb o i)) (hf : cells + 13 ≤ 601024 ∧ slots + 151 ≤ 7293034) (kk : ∀ (S1 : cS) (σ1 : mS) (w1 : Int64) (H1 : Heap) (ls1 : Array Slot), Sim1 S1 σ1 → lWd D Φ Dm mb o cL s.heap S1 σ1 w1 H1 → lv_has ls1 7 (lLv Φ b mb o i) → W p l e lR s m args below meth c H1 [] (cells + 13) (slots + 151) Q (F0 m 2797 ls1 [])) : W p l e lR s m args below meth c H [] cells slots Q (F0 m 834 ls []) := by
  have hx := X.1.1
  have hb := X.1.2.1
  have hts := X.1.2.2.2.2.1
  have hl : lv_has ls 7 [(0, .ref b), (1, cv Φ (some 1)), (2, .ref mb), (3, .ref o), (4, .int i)] := hl
  obtain ⟨q, r, hq, hr, hag, hnx⟩ := hsim S σ (xs (i + 1).toNatClampNeg) hS 
  refine c_aload_n hx hb dL_law_834 rfl (lv_at hl 1 rfl) ?_
  refine lv_aload_n hx hb dL_law_835 rfl (lv_at hl 0 rfl) ?_
  refine lv_iload hx hb dL_law_836 (lv_at hl 4 rfl) ?_
  refine lv_iconst (v := 1) hx hb dL_law_838 (by decide) ?_
  refine lv_iadd hx hb dL_law_839 ?_
  refine l_sld X Wd hin.2.1 dL_law_840 ?_
  refine lv_aload_n hx hb dL_law_841 rfl (lv_at hl 3 rfl) ?_
  refine l_w1 (rest := []) (v := (r.2.2 81)) X Wd (K_L_shownParent l hl9 D Φ S o cL w 1 (xs (i + 1).toNatClampNeg) hrc hq hag.1) ⟨w_1018, ww_L_shownParent⟩ hy_L_shownParent rfl ⟨(Nat.le_of_ble_eq_true rfl), (Nat.le_of_ble_eq_true rfl)⟩ hl.1 (Nat.le_of_ble_eq_true rfl) dL_law_842 rfl ⟨by omega, by omega⟩ (fun n9 w H hn hx9 Wd => ?_)
  refine c_istore hx hb dL_law_845 hl (Nat.le_of_ble_eq_true rfl) (lvKa rfl (lvKa rfl (lvKa rfl (lvKa rfl (lvKi lvK0))))) rfl (fun ls (hl : lv_has ls 7 [(5, .int (r.2.2 81)), (0, .ref b), (1, cv Φ (some 1)), (2, .ref mb), (3, .ref o), (4, .int i)]) => ?_)
  refine lv_aload_n hx hb dL_law_847 rfl (lv_at hl 3 rfl) ?_
  refine lv_aload_n hx hb dL_law_848 rfl (lv_at hl 1 rfl) ?_
  refine lv_iload hx hb dL_law_849 (lv_at hl 5 rfl) ?_
  refine lv_iconst (v := 1) hx hb dL_law_851 (by decide) ?_
  refine lv_iadd hx hb dL_law_852 ?_
  refine l_sld X Wd hin.2.1 dL_law_853 ?_
  refine l_mw X Wd (l_mrun (n := 1) (rest := []) X Wd (K_shownParent l Dm mb σ (xs (i + 1).toNatClampNeg) hr) ⟨w_1978, w_1979, w_1980, w_1981⟩ (hyX rfl (by decide +kernel)) rfl ⟨(Nat.le_of_ble_eq_true rfl), (Nat.le_of_ble_eq_true rfl)⟩ hl.1 (Nat.le_of_ble_eq_true rfl) dL_law_854 rfl ⟨by omega, by omega⟩) (fun H Wd => ?_)
  refine W.eq (g2 := F0 m 857 ls [.int r.1]) rfl ?_
  refine c_istore hx hb dL_law_857 hl (Nat.le_of_ble_eq_true rfl) (lvKi (lvKa rfl (lvKa rfl (lvKa rfl (lvKa rfl (lvKa rfl lvK0)))))) rfl (fun ls (hl : lv_has ls 7 [(6, .int r.1), (5, .int (r.2.2 81)), (0, .ref b), (1, cv Φ (some 1)), (2, .ref mb), (3, .ref o), (4, .int i)]) => ?_)
  refine lv_aload_n hx hb dL_law_859 rfl (lv_at hl 4 rfl) ?_
  refine l_mr (l_mrun (n := 0) (rest := []) X Wd (K_thrown l Dm mb r.2 (r := r.2.2 81) rfl) ⟨w_1838, w_1839, w_1840, w_1841⟩ (hyX rfl (by decide +kernel)) rfl ⟨(Nat.le_of_ble_eq_true rfl), (Nat.le_of_ble_eq_true rfl)⟩ hl.1 (Nat.le_of_ble_eq_true rfl) dL_law_860 rfl ⟨by omega, by omega⟩) ?_
  refine lv_iload hx hb dL_law_863 (lv_at hl 1 rfl) ?_
  refine lv_icmp_eq (tgt := 870) hx hb dL_law_865 rfl (fun _ => ?_) (fun hc => absurd rfl hc)
  refine lv_iload hx hb dL_law_870 (lv_at hl 1 rfl) ?_
  refine lv_if_ne (tgt := 887) hx hb dL_law_872 rfl (fun hc => ?_) (fun hc => ?_)
  · refine lv_goto (tgt := 2797) hx hb dL_law_887 rfl ?_
    refine W.widen (k := cells + 13) (n := slots + 151) (by omega) (by omega) ?_
    exact kk _ _ _ H ls (hnx _ hn) Wd (lv_sub hl [2, 3, 4, 5, 6] rfl)
  · obtain ⟨u, hu⟩ := lcd_z1 hag.1 hc
    have hw9 := hx9 u hu
    have hw8 := hag.2 u hu
    refine lv_aload_n hx hb dL_law_875 rfl (lv_at hl 5 rfl) ?_
    refine lv_iconst (v := 0) hx hb dL_law_876 (by decide) ?_
    refine l_lald X Wd dL_law_877 ?_
    refine lv_iload hx hb dL_law_878 (lv_at hl 0 rfl) ?_
    refine lv_i2l (v := lvN r.1) hx hb dL_law_880 rfl ?_
    refine W.lcmp hx hb dL_law_881 ?_
    refine lv_if_eq (tgt := 887) hx hb dL_law_882 rfl (fun _ => ?_) (fun hc => absurd (by rw [hw9, hw8]; exact lg_cmp_self _) hc)
    refine lv_goto (tgt := 2797) hx hb dL_law_887 rfl ?_
    refine W.widen (k := cells + 13) (n := slots + 151) (by omega) (by omega) ?_
    exact kk _ _ _ H ls (hnx _ hn) Wd (lv_sub hl [2, 3, 4, 5, 6] rfl)
set_option maxRecDepth 20000 in
set_option maxHeartbeats 4000000 in
theorem L_case_10 {p : Program} {l : Launch} {e : Env} {s : State} {m : MethodId} {args : Array Value} {below : List Frame} {meth : Method} {c : Code} {H : Heap} {cells slots : Nat} {Q : State → Prop} {ls : Array Slot} {D : cD} {Φ : cG} {Dm : mD} {mb o : Nat} {cL : ClassId} {b L : Nat} {xs : Nat → Int32} {S : cS} {σ : mS} {w : Int64} {i : Int32} (hl9 : l.stackTraces = false) (X : lX p s m args meth c D Φ Dm mb o cL b L xs) {Sim Sim1 : cS → mS → Prop} (hsim : sim_isIn Sim Sim1) (hrc : rc S (some 1) 11 = some 1) (hin : lIn i L) (Wd : lWd D Φ Dm mb o cL s.heap S σ w H) (hS : Sim S σ) (hl : lv_has ls 7 (lLv Φ b mb o i)) (hf : cells + 13 ≤ 601024 ∧ slots + 151 ≤ 7293034) (kk : ∀ (S1 : cS) (σ1 : mS) (w1 : Int64) (H1 : Heap) (ls1 : Array Slot), Sim1 S1 σ1 → lWd D Φ Dm mb o cL s.heap S1 σ1 w1 H1 → lv_has ls1 7 (lLv Φ b mb o i) → W p l e lR s m args below meth c H1 [] (cells + 13) (slots + 151) Q (F0 m 2797 ls1 [])) : W p l e lR s m args below meth c H [] cells slots Q (F0 m 890 ls []) := by
  have hx := X.1.1
  have hb := X.1.2.1
  have hts := X.1.2.2.2.2.1
  have hl : lv_has ls 7 [(0, .ref b), (1, cv Φ (some 1)), (2, .ref mb), (3, .ref o), (4, .int i)] := hl
  obtain ⟨q, r, hq, hr, hag, hnx⟩ := hsim S σ (xs (i + 1).toNatClampNeg) hS 
  refine c_aload_n hx hb dL_law_890 rfl (lv_at hl 1 rfl) ?_
  refine lv_aload_n hx hb dL_law_891 rfl (lv_at hl 0 rfl) ?_
  refine lv_iload hx hb dL_law_892 (lv_at hl 4 rfl) ?_
  refine lv_iconst (v := 1) hx hb dL_law_894 (by decide) ?_
  refine lv_iadd hx hb dL_law_895 ?_
  refine l_sld X Wd hin.2.1 dL_law_896 ?_
  refine lv_aload_n hx hb dL_law_897 rfl (lv_at hl 3 rfl) ?_
  refine l_w1 (rest := []) (v := (r.2.2 81)) X Wd (K_L_isIn l hl9 D Φ S o cL w 1 (xs (i + 1).toNatClampNeg) hrc hq hag.1) ⟨w_1025, ww_L_isIn⟩ hy_L_isIn rfl ⟨(Nat.le_of_ble_eq_true rfl), (Nat.le_of_ble_eq_true rfl)⟩ hl.1 (Nat.le_of_ble_eq_true rfl) dL_law_898 rfl ⟨by omega, by omega⟩ (fun n9 w H hn hx9 Wd => ?_)
  refine c_istore hx hb dL_law_901 hl (Nat.le_of_ble_eq_true rfl) (lvKa rfl (lvKa rfl (lvKa rfl (lvKa rfl (lvKi lvK0))))) rfl (fun ls (hl : lv_has ls 7 [(5, .int (r.2.2 81)), (0, .ref b), (1, cv Φ (some 1)), (2, .ref mb), (3, .ref o), (4, .int i)]) => ?_)
  refine lv_aload_n hx hb dL_law_903 rfl (lv_at hl 3 rfl) ?_
  refine lv_aload_n hx hb dL_law_904 rfl (lv_at hl 1 rfl) ?_
  refine lv_iload hx hb dL_law_905 (lv_at hl 5 rfl) ?_
  refine lv_iconst (v := 1) hx hb dL_law_907 (by decide) ?_
  refine lv_iadd hx hb dL_law_908 ?_
  refine l_sld X Wd hin.2.1 dL_law_909 ?_
  refine l_mw X Wd (l_mrun (n := 1) (rest := []) X Wd (K_isIn l Dm mb σ (xs (i + 1).toNatClampNeg) hr) ⟨w_1982, w_1983, w_1984, w_1985⟩ (hyX rfl (by decide +kernel)) rfl ⟨(Nat.le_of_ble_eq_true rfl), (Nat.le_of_ble_eq_true rfl)⟩ hl.1 (Nat.le_of_ble_eq_true rfl) dL_law_910 rfl ⟨by omega, by omega⟩) (fun H Wd => ?_)
  refine W.eq (g2 := F0 m 913 ls [.int r.1]) rfl ?_
  refine c_istore hx hb dL_law_913 hl (Nat.le_of_ble_eq_true rfl) (lvKi (lvKa rfl (lvKa rfl (lvKa rfl (lvKa rfl (lvKa rfl lvK0)))))) rfl (fun ls (hl : lv_has ls 7 [(6, .int r.1), (5, .int (r.2.2 81)), (0, .ref b), (1, cv Φ (some 1)), (2, .ref mb), (3, .ref o), (4, .int i)]) => ?_)
  refine lv_aload_n hx hb dL_law_915 rfl (lv_at hl 4 rfl) ?_
  refine l_mr (l_mrun (n := 0) (rest := []) X Wd (K_thrown l Dm mb r.2 (r := r.2.2 81) rfl) ⟨w_1838, w_1839, w_1840, w_1841⟩ (hyX rfl (by decide +kernel)) rfl ⟨(Nat.le_of_ble_eq_true rfl), (Nat.le_of_ble_eq_true rfl)⟩ hl.1 (Nat.le_of_ble_eq_true rfl) dL_law_916 rfl ⟨by omega, by omega⟩) ?_
  refine lv_iload hx hb dL_law_919 (lv_at hl 1 rfl) ?_
  refine lv_icmp_eq (tgt := 926) hx hb dL_law_921 rfl (fun _ => ?_) (fun hc => absurd rfl hc)
  refine lv_iload hx hb dL_law_926 (lv_at hl 1 rfl) ?_
  refine lv_if_ne (tgt := 950) hx hb dL_law_928 rfl (fun hc => ?_) (fun hc => ?_)
  · refine lv_goto (tgt := 2797) hx hb dL_law_950 rfl ?_
    refine W.widen (k := cells + 13) (n := slots + 151) (by omega) (by omega) ?_
    exact kk _ _ _ H ls (hnx _ hn) Wd (lv_sub hl [2, 3, 4, 5, 6] rfl)
  · obtain ⟨u, hu⟩ := lcd_z1 hag.1 hc
    have hw9 := hx9 u hu
    have hw8 := hag.2 u hu
    refine lv_aload_n hx hb dL_law_931 rfl (lv_at hl 5 rfl) ?_
    refine lv_iconst (v := 0) hx hb dL_law_932 (by decide) ?_
    refine l_lald X Wd dL_law_933 ?_
    refine lv_iload hx hb dL_law_934 (lv_at hl 0 rfl) ?_
    refine l_ternL hx hb dL_law_936 dL_law_939 dL_law_940 dL_law_943 ?_
    refine W.lcmp hx hb dL_law_944 ?_
    refine lv_if_eq (tgt := 950) hx hb dL_law_945 rfl (fun _ => ?_) (fun hc => absurd (by rw [hw9, hw8]; exact lg_cmp_self _) hc)
    refine lv_goto (tgt := 2797) hx hb dL_law_950 rfl ?_
    refine W.widen (k := cells + 13) (n := slots + 151) (by omega) (by omega) ?_
    exact kk _ _ _ H ls (hnx _ hn) Wd (lv_sub hl [2, 3, 4, 5, 6] rfl)
set_option maxRecDepth 20000 in
set_option maxHeartbeats 4000000 in
theorem L_case_11 {p : Program} {l : Launch} {e : Env} {s : State} {m : MethodId} {args : Array Value} {below : List Frame} {meth : Method} {c : Code} {H : Heap} {cells slots : Nat} {Q : State → Prop} {ls : Array Slot} {D : cD} {Φ : cG} {Dm : mD} {mb o : Nat} {cL : ClassId} {b L : Nat} {xs : Nat → Int32} {S : cS} {σ : mS} {w : Int64} {i : Int32} (hl9 : l.stackTraces = false) (X : lX p s m args meth c D Φ Dm mb o cL b L xs) {Sim Sim1 : cS → mS → Prop} (hsim : sim_test Sim Sim1) (hrc : rc S (some 1) 11 = some 1) (hin : lIn i L) (Wd : lWd D Φ Dm mb o cL s.heap S σ w H) (hS : Sim S σ) (hl : lv_has ls 7 (lLv Φ b mb o i)) (hf : cells + 13 ≤ 601024 ∧ slots + 151 ≤ 7293034) (kk : ∀ (S1 : cS) (σ1 : mS) (w1 : Int64) (H1 : Heap) (ls1 : Array Slot), Sim1 S1 σ1 → lWd D Φ Dm mb o cL s.heap S1 σ1 w1 H1 → lv_has ls1 7 (lLv Φ b mb o i) → W p l e lR s m args below meth c H1 [] (cells + 13) (slots + 151) Q (F0 m 2797 ls1 [])) : W p l e lR s m args below meth c H [] cells slots Q (F0 m 953 ls []) := by
  have hx := X.1.1
  have hb := X.1.2.1
  have hts := X.1.2.2.2.2.1
  have hl : lv_has ls 7 [(0, .ref b), (1, cv Φ (some 1)), (2, .ref mb), (3, .ref o), (4, .int i)] := hl
  obtain ⟨q, r, hq, hr, hag, hnx⟩ := hsim S σ (xs (i + 1).toNatClampNeg) (xs (i + 2).toNatClampNeg) (xs (i + 3).toNatClampNeg) hS 
  refine c_aload_n hx hb dL_law_953 rfl (lv_at hl 1 rfl) ?_
  refine lv_aload_n hx hb dL_law_954 rfl (lv_at hl 0 rfl) ?_
  refine lv_iload hx hb dL_law_955 (lv_at hl 4 rfl) ?_
  refine lv_iconst (v := 1) hx hb dL_law_957 (by decide) ?_
  refine lv_iadd hx hb dL_law_958 ?_
  refine l_sld X Wd hin.2.1 dL_law_959 ?_
  refine lv_aload_n hx hb dL_law_960 rfl (lv_at hl 0 rfl) ?_
  refine lv_iload hx hb dL_law_961 (lv_at hl 4 rfl) ?_
  refine lv_iconst (v := 2) hx hb dL_law_963 (by decide) ?_
  refine lv_iadd hx hb dL_law_964 ?_
  refine l_sld X Wd hin.2.2.1 dL_law_965 ?_
  refine lv_aload_n hx hb dL_law_966 rfl (lv_at hl 0 rfl) ?_
  refine lv_iload hx hb dL_law_967 (lv_at hl 4 rfl) ?_
  refine lv_iconst (v := 3) hx hb dL_law_969 (by decide) ?_
  refine lv_iadd hx hb dL_law_970 ?_
  refine l_sld X Wd hin.2.2.2.1 dL_law_971 ?_
  refine lv_aload_n hx hb dL_law_972 rfl (lv_at hl 3 rfl) ?_
  refine l_w1 (rest := []) (v := (r.2.2 81)) X Wd (K_L_test l hl9 D Φ S o cL w 1 (xs (i + 1).toNatClampNeg) (xs (i + 2).toNatClampNeg) (xs (i + 3).toNatClampNeg) hrc hq hag.1) ⟨w_1033, ww_L_test⟩ hy_L_test rfl ⟨(Nat.le_of_ble_eq_true rfl), (Nat.le_of_ble_eq_true rfl)⟩ hl.1 (Nat.le_of_ble_eq_true rfl) dL_law_973 rfl ⟨by omega, by omega⟩ (fun n9 w H hn hx9 Wd => ?_)
  refine c_istore hx hb dL_law_976 hl (Nat.le_of_ble_eq_true rfl) (lvKa rfl (lvKa rfl (lvKa rfl (lvKa rfl (lvKi lvK0))))) rfl (fun ls (hl : lv_has ls 7 [(5, .int (r.2.2 81)), (0, .ref b), (1, cv Φ (some 1)), (2, .ref mb), (3, .ref o), (4, .int i)]) => ?_)
  refine lv_aload_n hx hb dL_law_978 rfl (lv_at hl 3 rfl) ?_
  refine lv_aload_n hx hb dL_law_979 rfl (lv_at hl 1 rfl) ?_
  refine lv_iload hx hb dL_law_980 (lv_at hl 5 rfl) ?_
  refine lv_iconst (v := 1) hx hb dL_law_982 (by decide) ?_
  refine lv_iadd hx hb dL_law_983 ?_
  refine l_sld X Wd hin.2.1 dL_law_984 ?_
  refine lv_aload_n hx hb dL_law_985 rfl (lv_at hl 1 rfl) ?_
  refine lv_iload hx hb dL_law_986 (lv_at hl 5 rfl) ?_
  refine lv_iconst (v := 2) hx hb dL_law_988 (by decide) ?_
  refine lv_iadd hx hb dL_law_989 ?_
  refine l_sld X Wd hin.2.2.1 dL_law_990 ?_
  refine lv_aload_n hx hb dL_law_991 rfl (lv_at hl 1 rfl) ?_
  refine lv_iload hx hb dL_law_992 (lv_at hl 5 rfl) ?_
  refine lv_iconst (v := 3) hx hb dL_law_994 (by decide) ?_
  refine lv_iadd hx hb dL_law_995 ?_
  refine l_sld X Wd hin.2.2.2.1 dL_law_996 ?_
  refine l_mw X Wd (l_mrun (n := 3) (rest := []) X Wd (K_test l Dm mb σ (xs (i + 1).toNatClampNeg) (xs (i + 2).toNatClampNeg) (xs (i + 3).toNatClampNeg) hr) ⟨w_1986, w_1987, w_1988, w_1989⟩ (hyX rfl (by decide +kernel)) rfl ⟨(Nat.le_of_ble_eq_true rfl), (Nat.le_of_ble_eq_true rfl)⟩ hl.1 (Nat.le_of_ble_eq_true rfl) dL_law_997 rfl ⟨by omega, by omega⟩) (fun H Wd => ?_)
  refine W.eq (g2 := F0 m 1000 ls [.int r.1]) rfl ?_
  refine c_istore hx hb dL_law_1000 hl (Nat.le_of_ble_eq_true rfl) (lvKi (lvKa rfl (lvKa rfl (lvKa rfl (lvKa rfl (lvKa rfl lvK0)))))) rfl (fun ls (hl : lv_has ls 7 [(6, .int r.1), (5, .int (r.2.2 81)), (0, .ref b), (1, cv Φ (some 1)), (2, .ref mb), (3, .ref o), (4, .int i)]) => ?_)
  refine lv_aload_n hx hb dL_law_1002 rfl (lv_at hl 4 rfl) ?_
  refine l_mr (l_mrun (n := 0) (rest := []) X Wd (K_thrown l Dm mb r.2 (r := r.2.2 81) rfl) ⟨w_1838, w_1839, w_1840, w_1841⟩ (hyX rfl (by decide +kernel)) rfl ⟨(Nat.le_of_ble_eq_true rfl), (Nat.le_of_ble_eq_true rfl)⟩ hl.1 (Nat.le_of_ble_eq_true rfl) dL_law_1003 rfl ⟨by omega, by omega⟩) ?_
  refine lv_iload hx hb dL_law_1006 (lv_at hl 1 rfl) ?_
  refine lv_icmp_eq (tgt := 1013) hx hb dL_law_1008 rfl (fun _ => ?_) (fun hc => absurd rfl hc)
  refine lv_iload hx hb dL_law_1013 (lv_at hl 1 rfl) ?_
  refine lv_if_ne (tgt := 1030) hx hb dL_law_1015 rfl (fun hc => ?_) (fun hc => ?_)
  · refine lv_goto (tgt := 2797) hx hb dL_law_1030 rfl ?_
    refine W.widen (k := cells + 13) (n := slots + 151) (by omega) (by omega) ?_
    exact kk _ _ _ H ls (hnx _ hn) Wd (lv_sub hl [2, 3, 4, 5, 6] rfl)
  · obtain ⟨u, hu⟩ := lcd_z3 hag.1 hc
    have hw9 := hx9 u hu
    have hw8 := hag.2 u hu
    refine lv_aload_n hx hb dL_law_1018 rfl (lv_at hl 5 rfl) ?_
    refine lv_iconst (v := 0) hx hb dL_law_1019 (by decide) ?_
    refine l_lald X Wd dL_law_1020 ?_
    refine lv_iload hx hb dL_law_1021 (lv_at hl 0 rfl) ?_
    refine lv_i2l (v := lvN r.1) hx hb dL_law_1023 rfl ?_
    refine W.lcmp hx hb dL_law_1024 ?_
    refine lv_if_eq (tgt := 1030) hx hb dL_law_1025 rfl (fun _ => ?_) (fun hc => absurd (by rw [hw9, hw8]; exact lg_cmp_self _) hc)
    refine lv_goto (tgt := 2797) hx hb dL_law_1030 rfl ?_
    refine W.widen (k := cells + 13) (n := slots + 151) (by omega) (by omega) ?_
    exact kk _ _ _ H ls (hnx _ hn) Wd (lv_sub hl [2, 3, 4, 5, 6] rfl)
set_option maxRecDepth 20000 in
set_option maxHeartbeats 4000000 in
theorem L_case_12 {p : Program} {l : Launch} {e : Env} {s : State} {m : MethodId} {args : Array Value} {below : List Frame} {meth : Method} {c : Code} {H : Heap} {cells slots : Nat} {Q : State → Prop} {ls : Array Slot} {D : cD} {Φ : cG} {Dm : mD} {mb o : Nat} {cL : ClassId} {b L : Nat} {xs : Nat → Int32} {S : cS} {σ : mS} {w : Int64} {i : Int32} (hl9 : l.stackTraces = false) (X : lX p s m args meth c D Φ Dm mb o cL b L xs) {Sim Sim1 : cS → mS → Prop} (hsim : sim_join Sim Sim1) (hrc : rc S (some 1) 11 = some 1) (hin : lIn i L) (Wd : lWd D Φ Dm mb o cL s.heap S σ w H) (hS : Sim S σ) (hl : lv_has ls 7 (lLv Φ b mb o i)) (hf : cells + 13 ≤ 601024 ∧ slots + 151 ≤ 7293034) (kk : ∀ (S1 : cS) (σ1 : mS) (w1 : Int64) (H1 : Heap) (ls1 : Array Slot), Sim1 S1 σ1 → lWd D Φ Dm mb o cL s.heap S1 σ1 w1 H1 → lv_has ls1 7 (lLv Φ b mb o i) → W p l e lR s m args below meth c H1 [] (cells + 13) (slots + 151) Q (F0 m 2797 ls1 [])) : W p l e lR s m args below meth c H [] cells slots Q (F0 m 1033 ls []) := by
  have hx := X.1.1
  have hb := X.1.2.1
  have hts := X.1.2.2.2.2.1
  have hl : lv_has ls 7 [(0, .ref b), (1, cv Φ (some 1)), (2, .ref mb), (3, .ref o), (4, .int i)] := hl
  obtain ⟨q, r, hq, hr, hag, hnx⟩ := hsim S σ (xs (i + 1).toNatClampNeg) hS 
  refine c_aload_n hx hb dL_law_1033 rfl (lv_at hl 1 rfl) ?_
  refine lv_aload_n hx hb dL_law_1034 rfl (lv_at hl 0 rfl) ?_
  refine lv_iload hx hb dL_law_1035 (lv_at hl 4 rfl) ?_
  refine lv_iconst (v := 1) hx hb dL_law_1037 (by decide) ?_
  refine lv_iadd hx hb dL_law_1038 ?_
  refine l_sld X Wd hin.2.1 dL_law_1039 ?_
  refine lv_aload_n hx hb dL_law_1040 rfl (lv_at hl 3 rfl) ?_
  refine l_w1 (rest := []) (v := (r.2.2 81)) X Wd (K_L_join l hl9 D Φ S o cL w 1 (xs (i + 1).toNatClampNeg) hrc hq hag.1) ⟨w_1060, ww_L_join⟩ hy_L_join rfl ⟨(Nat.le_of_ble_eq_true rfl), (Nat.le_of_ble_eq_true rfl)⟩ hl.1 (Nat.le_of_ble_eq_true rfl) dL_law_1041 rfl ⟨by omega, by omega⟩ (fun n9 w H hn hx9 Wd => ?_)
  refine c_istore hx hb dL_law_1044 hl (Nat.le_of_ble_eq_true rfl) (lvKa rfl (lvKa rfl (lvKa rfl (lvKa rfl (lvKi lvK0))))) rfl (fun ls (hl : lv_has ls 7 [(5, .int (r.2.2 81)), (0, .ref b), (1, cv Φ (some 1)), (2, .ref mb), (3, .ref o), (4, .int i)]) => ?_)
  refine lv_aload_n hx hb dL_law_1046 rfl (lv_at hl 3 rfl) ?_
  refine lv_aload_n hx hb dL_law_1047 rfl (lv_at hl 1 rfl) ?_
  refine lv_iload hx hb dL_law_1048 (lv_at hl 5 rfl) ?_
  refine lv_iconst (v := 1) hx hb dL_law_1050 (by decide) ?_
  refine lv_iadd hx hb dL_law_1051 ?_
  refine l_sld X Wd hin.2.1 dL_law_1052 ?_
  refine l_mw X Wd (l_mrun (n := 1) (rest := []) X Wd (K_join l Dm mb σ (xs (i + 1).toNatClampNeg) hr) ⟨w_1990, w_1991, w_1992, w_1993⟩ (hyX rfl (by decide +kernel)) rfl ⟨(Nat.le_of_ble_eq_true rfl), (Nat.le_of_ble_eq_true rfl)⟩ hl.1 (Nat.le_of_ble_eq_true rfl) dL_law_1053 rfl ⟨by omega, by omega⟩) (fun H Wd => ?_)
  refine W.eq (g2 := F0 m 1056 ls [.int r.1]) rfl ?_
  refine c_istore hx hb dL_law_1056 hl (Nat.le_of_ble_eq_true rfl) (lvKi (lvKa rfl (lvKa rfl (lvKa rfl (lvKa rfl (lvKa rfl lvK0)))))) rfl (fun ls (hl : lv_has ls 7 [(6, .int r.1), (5, .int (r.2.2 81)), (0, .ref b), (1, cv Φ (some 1)), (2, .ref mb), (3, .ref o), (4, .int i)]) => ?_)
  refine lv_aload_n hx hb dL_law_1058 rfl (lv_at hl 4 rfl) ?_
  refine l_mr (l_mrun (n := 0) (rest := []) X Wd (K_thrown l Dm mb r.2 (r := r.2.2 81) rfl) ⟨w_1838, w_1839, w_1840, w_1841⟩ (hyX rfl (by decide +kernel)) rfl ⟨(Nat.le_of_ble_eq_true rfl), (Nat.le_of_ble_eq_true rfl)⟩ hl.1 (Nat.le_of_ble_eq_true rfl) dL_law_1059 rfl ⟨by omega, by omega⟩) ?_
  refine lv_iload hx hb dL_law_1062 (lv_at hl 1 rfl) ?_
  refine lv_icmp_eq (tgt := 1069) hx hb dL_law_1064 rfl (fun _ => ?_) (fun hc => absurd rfl hc)
  refine lv_iload hx hb dL_law_1069 (lv_at hl 1 rfl) ?_
  refine lv_if_ne (tgt := 1086) hx hb dL_law_1071 rfl (fun hc => ?_) (fun hc => ?_)
  · refine lv_goto (tgt := 2797) hx hb dL_law_1086 rfl ?_
    refine W.widen (k := cells + 13) (n := slots + 151) (by omega) (by omega) ?_
    exact kk _ _ _ H ls (hnx _ hn) Wd (lv_sub hl [2, 3, 4, 5, 6] rfl)
  · obtain ⟨u, hu⟩ := lcd_z2 hag.1 hc
    have hw9 := hx9 u hu
    have hw8 := hag.2 u hu
    refine lv_aload_n hx hb dL_law_1074 rfl (lv_at hl 5 rfl) ?_
    refine lv_iconst (v := 0) hx hb dL_law_1075 (by decide) ?_
    refine l_lald X Wd dL_law_1076 ?_
    refine lv_iload hx hb dL_law_1077 (lv_at hl 0 rfl) ?_
    refine lv_i2l (v := lvN r.1) hx hb dL_law_1079 rfl ?_
    refine W.lcmp hx hb dL_law_1080 ?_
    refine lv_if_eq (tgt := 1086) hx hb dL_law_1081 rfl (fun _ => ?_) (fun hc => absurd (by rw [hw9, hw8]; exact lg_cmp_self _) hc)
    refine lv_goto (tgt := 2797) hx hb dL_law_1086 rfl ?_
    refine W.widen (k := cells + 13) (n := slots + 151) (by omega) (by omega) ?_
    exact kk _ _ _ H ls (hnx _ hn) Wd (lv_sub hl [2, 3, 4, 5, 6] rfl)
set_option maxRecDepth 20000 in
set_option maxHeartbeats 4000000 in
theorem L_case_13 {p : Program} {l : Launch} {e : Env} {s : State} {m : MethodId} {args : Array Value} {below : List Frame} {meth : Method} {c : Code} {H : Heap} {cells slots : Nat} {Q : State → Prop} {ls : Array Slot} {D : cD} {Φ : cG} {Dm : mD} {mb o : Nat} {cL : ClassId} {b L : Nat} {xs : Nat → Int32} {S : cS} {σ : mS} {w : Int64} {i : Int32} (hl9 : l.stackTraces = false) (X : lX p s m args meth c D Φ Dm mb o cL b L xs) {Sim Sim1 : cS → mS → Prop} (hsim : sim_select Sim Sim1) (hrc : rc S (some 1) 11 = some 1) (hin : lIn i L) (Wd : lWd D Φ Dm mb o cL s.heap S σ w H) (hS : Sim S σ) (hl : lv_has ls 7 (lLv Φ b mb o i)) (hf : cells + 13 ≤ 601024 ∧ slots + 151 ≤ 7293034) (kk : ∀ (S1 : cS) (σ1 : mS) (w1 : Int64) (H1 : Heap) (ls1 : Array Slot), Sim1 S1 σ1 → lWd D Φ Dm mb o cL s.heap S1 σ1 w1 H1 → lv_has ls1 7 (lLv Φ b mb o i) → W p l e lR s m args below meth c H1 [] (cells + 13) (slots + 151) Q (F0 m 2797 ls1 [])) : W p l e lR s m args below meth c H [] cells slots Q (F0 m 1089 ls []) := by
  have hx := X.1.1
  have hb := X.1.2.1
  have hts := X.1.2.2.2.2.1
  have hl : lv_has ls 7 [(0, .ref b), (1, cv Φ (some 1)), (2, .ref mb), (3, .ref o), (4, .int i)] := hl
  obtain ⟨q, r, hq, hr, hag, hnx⟩ := hsim S σ  hS 
  refine c_aload_n hx hb dL_law_1089 rfl (lv_at hl 1 rfl) ?_
  refine lv_aload_n hx hb dL_law_1090 rfl (lv_at hl 3 rfl) ?_
  refine l_w1 (rest := []) (v := (r.2.2 81)) X Wd (K_L_select l hl9 D Φ S o cL w 1  hrc hq hag.1) ⟨w_1071, ww_L_select⟩ hy_L_select rfl ⟨(Nat.le_of_ble_eq_true rfl), (Nat.le_of_ble_eq_true rfl)⟩ hl.1 (Nat.le_of_ble_eq_true rfl) dL_law_1091 rfl ⟨by omega, by omega⟩ (fun n9 w H hn hx9 Wd => ?_)
  refine c_istore hx hb dL_law_1094 hl (Nat.le_of_ble_eq_true rfl) (lvKa rfl (lvKa rfl (lvKa rfl (lvKa rfl (lvKi lvK0))))) rfl (fun ls (hl : lv_has ls 7 [(5, .int (r.2.2 81)), (0, .ref b), (1, cv Φ (some 1)), (2, .ref mb), (3, .ref o), (4, .int i)]) => ?_)
  refine lv_aload_n hx hb dL_law_1096 rfl (lv_at hl 3 rfl) ?_
  refine l_mw X Wd (l_mrun (n := 0) (rest := []) X Wd (K_select l Dm mb σ  hr) ⟨w_1994, w_1995, w_1996, w_1997⟩ (hyX rfl (by decide +kernel)) rfl ⟨(Nat.le_of_ble_eq_true rfl), (Nat.le_of_ble_eq_true rfl)⟩ hl.1 (Nat.le_of_ble_eq_true rfl) dL_law_1097 rfl ⟨by omega, by omega⟩) (fun H Wd => ?_)
  refine W.eq (g2 := F0 m 1100 ls [.int r.1]) rfl ?_
  refine c_istore hx hb dL_law_1100 hl (Nat.le_of_ble_eq_true rfl) (lvKi (lvKa rfl (lvKa rfl (lvKa rfl (lvKa rfl (lvKa rfl lvK0)))))) rfl (fun ls (hl : lv_has ls 7 [(6, .int r.1), (5, .int (r.2.2 81)), (0, .ref b), (1, cv Φ (some 1)), (2, .ref mb), (3, .ref o), (4, .int i)]) => ?_)
  refine lv_aload_n hx hb dL_law_1102 rfl (lv_at hl 4 rfl) ?_
  refine l_mr (l_mrun (n := 0) (rest := []) X Wd (K_thrown l Dm mb r.2 (r := r.2.2 81) rfl) ⟨w_1838, w_1839, w_1840, w_1841⟩ (hyX rfl (by decide +kernel)) rfl ⟨(Nat.le_of_ble_eq_true rfl), (Nat.le_of_ble_eq_true rfl)⟩ hl.1 (Nat.le_of_ble_eq_true rfl) dL_law_1103 rfl ⟨by omega, by omega⟩) ?_
  refine lv_iload hx hb dL_law_1106 (lv_at hl 1 rfl) ?_
  refine lv_icmp_eq (tgt := 1113) hx hb dL_law_1108 rfl (fun _ => ?_) (fun hc => absurd rfl hc)
  refine lv_iload hx hb dL_law_1113 (lv_at hl 1 rfl) ?_
  refine lv_if_ne (tgt := 1130) hx hb dL_law_1115 rfl (fun hc => ?_) (fun hc => ?_)
  · refine lv_goto (tgt := 2797) hx hb dL_law_1130 rfl ?_
    refine W.widen (k := cells + 13) (n := slots + 151) (by omega) (by omega) ?_
    exact kk _ _ _ H ls (hnx _ hn) Wd (lv_sub hl [2, 3, 4, 5, 6] rfl)
  · obtain ⟨u, hu⟩ := lcd_z1 hag.1 hc
    have hw9 := hx9 u hu
    have hw8 := hag.2 u hu
    refine lv_aload_n hx hb dL_law_1118 rfl (lv_at hl 5 rfl) ?_
    refine lv_iconst (v := 0) hx hb dL_law_1119 (by decide) ?_
    refine l_lald X Wd dL_law_1120 ?_
    refine lv_iload hx hb dL_law_1121 (lv_at hl 0 rfl) ?_
    refine lv_i2l (v := lvN r.1) hx hb dL_law_1123 rfl ?_
    refine W.lcmp hx hb dL_law_1124 ?_
    refine lv_if_eq (tgt := 1130) hx hb dL_law_1125 rfl (fun _ => ?_) (fun hc => absurd (by rw [hw9, hw8]; exact lg_cmp_self _) hc)
    refine lv_goto (tgt := 2797) hx hb dL_law_1130 rfl ?_
    refine W.widen (k := cells + 13) (n := slots + 151) (by omega) (by omega) ?_
    exact kk _ _ _ H ls (hnx _ hn) Wd (lv_sub hl [2, 3, 4, 5, 6] rfl)
set_option maxRecDepth 20000 in
set_option maxHeartbeats 4000000 in
theorem L_case_14 {p : Program} {l : Launch} {e : Env} {s : State} {m : MethodId} {args : Array Value} {below : List Frame} {meth : Method} {c : Code} {H : Heap} {cells slots : Nat} {Q : State → Prop} {ls : Array Slot} {D : cD} {Φ : cG} {Dm : mD} {mb o : Nat} {cL : ClassId} {b L : Nat} {xs : Nat → Int32} {S : cS} {σ : mS} {w : Int64} {i : Int32} (hl9 : l.stackTraces = false) (X : lX p s m args meth c D Φ Dm mb o cL b L xs) {Sim Sim1 : cS → mS → Prop} (hsim : sim_weight Sim Sim1) (hrc : rc S (some 1) 11 = some 1) (hin : lIn i L) (Wd : lWd D Φ Dm mb o cL s.heap S σ w H) (hS : Sim S σ) (hl : lv_has ls 7 (lLv Φ b mb o i)) (hf : cells + 13 ≤ 601024 ∧ slots + 151 ≤ 7293034) (kk : ∀ (S1 : cS) (σ1 : mS) (w1 : Int64) (H1 : Heap) (ls1 : Array Slot), Sim1 S1 σ1 → lWd D Φ Dm mb o cL s.heap S1 σ1 w1 H1 → lv_has ls1 7 (lLv Φ b mb o i) → W p l e lR s m args below meth c H1 [] (cells + 13) (slots + 151) Q (F0 m 2797 ls1 [])) : W p l e lR s m args below meth c H [] cells slots Q (F0 m 1133 ls []) := by
  have hx := X.1.1
  have hb := X.1.2.1
  have hts := X.1.2.2.2.2.1
  have hl : lv_has ls 7 [(0, .ref b), (1, cv Φ (some 1)), (2, .ref mb), (3, .ref o), (4, .int i)] := hl
  obtain ⟨q, r, hq, hr, hag, hnx⟩ := hsim S σ (xs (i + 1).toNatClampNeg) hS 
  refine c_aload_n hx hb dL_law_1133 rfl (lv_at hl 1 rfl) ?_
  refine lv_aload_n hx hb dL_law_1134 rfl (lv_at hl 0 rfl) ?_
  refine lv_iload hx hb dL_law_1135 (lv_at hl 4 rfl) ?_
  refine lv_iconst (v := 1) hx hb dL_law_1137 (by decide) ?_
  refine lv_iadd hx hb dL_law_1138 ?_
  refine l_sld X Wd hin.2.1 dL_law_1139 ?_
  refine lv_aload_n hx hb dL_law_1140 rfl (lv_at hl 3 rfl) ?_
  refine l_w1 (rest := []) (v := (r.2.2 81)) X Wd (K_L_weight l hl9 D Φ S o cL w 1 (xs (i + 1).toNatClampNeg) hrc hq hag.1) ⟨w_1087, ww_L_weight⟩ hy_L_weight rfl ⟨(Nat.le_of_ble_eq_true rfl), (Nat.le_of_ble_eq_true rfl)⟩ hl.1 (Nat.le_of_ble_eq_true rfl) dL_law_1141 rfl ⟨by omega, by omega⟩ (fun n9 w H hn hx9 Wd => ?_)
  refine c_istore hx hb dL_law_1144 hl (Nat.le_of_ble_eq_true rfl) (lvKa rfl (lvKa rfl (lvKa rfl (lvKa rfl (lvKi lvK0))))) rfl (fun ls (hl : lv_has ls 7 [(5, .int (r.2.2 81)), (0, .ref b), (1, cv Φ (some 1)), (2, .ref mb), (3, .ref o), (4, .int i)]) => ?_)
  refine lv_aload_n hx hb dL_law_1146 rfl (lv_at hl 3 rfl) ?_
  refine lv_aload_n hx hb dL_law_1147 rfl (lv_at hl 1 rfl) ?_
  refine lv_iload hx hb dL_law_1148 (lv_at hl 5 rfl) ?_
  refine lv_iconst (v := 1) hx hb dL_law_1150 (by decide) ?_
  refine lv_iadd hx hb dL_law_1151 ?_
  refine l_sld X Wd hin.2.1 dL_law_1152 ?_
  refine l_mw X Wd (l_mrun (n := 1) (rest := []) X Wd (K_weight l Dm mb σ (xs (i + 1).toNatClampNeg) hr) ⟨w_2011, w_2012, w_2013, w_2014⟩ (hyX rfl (by decide +kernel)) rfl ⟨(Nat.le_of_ble_eq_true rfl), (Nat.le_of_ble_eq_true rfl)⟩ hl.1 (Nat.le_of_ble_eq_true rfl) dL_law_1153 rfl ⟨by omega, by omega⟩) (fun H Wd => ?_)
  refine W.eq (g2 := F0 m 1156 ls [.int r.1]) rfl ?_
  refine c_istore hx hb dL_law_1156 hl (Nat.le_of_ble_eq_true rfl) (lvKi (lvKa rfl (lvKa rfl (lvKa rfl (lvKa rfl (lvKa rfl lvK0)))))) rfl (fun ls (hl : lv_has ls 7 [(6, .int r.1), (5, .int (r.2.2 81)), (0, .ref b), (1, cv Φ (some 1)), (2, .ref mb), (3, .ref o), (4, .int i)]) => ?_)
  refine lv_aload_n hx hb dL_law_1158 rfl (lv_at hl 4 rfl) ?_
  refine l_mr (l_mrun (n := 0) (rest := []) X Wd (K_thrown l Dm mb r.2 (r := r.2.2 81) rfl) ⟨w_1838, w_1839, w_1840, w_1841⟩ (hyX rfl (by decide +kernel)) rfl ⟨(Nat.le_of_ble_eq_true rfl), (Nat.le_of_ble_eq_true rfl)⟩ hl.1 (Nat.le_of_ble_eq_true rfl) dL_law_1159 rfl ⟨by omega, by omega⟩) ?_
  refine lv_iload hx hb dL_law_1162 (lv_at hl 1 rfl) ?_
  refine lv_icmp_eq (tgt := 1169) hx hb dL_law_1164 rfl (fun _ => ?_) (fun hc => absurd rfl hc)
  refine lv_iload hx hb dL_law_1169 (lv_at hl 1 rfl) ?_
  refine lv_if_ne (tgt := 1186) hx hb dL_law_1171 rfl (fun hc => ?_) (fun hc => ?_)
  · refine lv_goto (tgt := 2797) hx hb dL_law_1186 rfl ?_
    refine W.widen (k := cells + 13) (n := slots + 151) (by omega) (by omega) ?_
    exact kk _ _ _ H ls (hnx _ hn) Wd (lv_sub hl [2, 3, 4, 5, 6] rfl)
  · obtain ⟨u, hu⟩ := lcd_z1 hag.1 hc
    have hw9 := hx9 u hu
    have hw8 := hag.2 u hu
    refine lv_aload_n hx hb dL_law_1174 rfl (lv_at hl 5 rfl) ?_
    refine lv_iconst (v := 0) hx hb dL_law_1175 (by decide) ?_
    refine l_lald X Wd dL_law_1176 ?_
    refine lv_iload hx hb dL_law_1177 (lv_at hl 0 rfl) ?_
    refine lv_i2l (v := lvN r.1) hx hb dL_law_1179 rfl ?_
    refine W.lcmp hx hb dL_law_1180 ?_
    refine lv_if_eq (tgt := 1186) hx hb dL_law_1181 rfl (fun _ => ?_) (fun hc => absurd (by rw [hw9, hw8]; exact lg_cmp_self _) hc)
    refine lv_goto (tgt := 2797) hx hb dL_law_1186 rfl ?_
    refine W.widen (k := cells + 13) (n := slots + 151) (by omega) (by omega) ?_
    exact kk _ _ _ H ls (hnx _ hn) Wd (lv_sub hl [2, 3, 4, 5, 6] rfl)
set_option maxRecDepth 20000 in
set_option maxHeartbeats 4000000 in
theorem L_case_15 {p : Program} {l : Launch} {e : Env} {s : State} {m : MethodId} {args : Array Value} {below : List Frame} {meth : Method} {c : Code} {H : Heap} {cells slots : Nat} {Q : State → Prop} {ls : Array Slot} {D : cD} {Φ : cG} {Dm : mD} {mb o : Nat} {cL : ClassId} {b L : Nat} {xs : Nat → Int32} {S : cS} {σ : mS} {w : Int64} {i : Int32} (hl9 : l.stackTraces = false) (X : lX p s m args meth c D Φ Dm mb o cL b L xs) {Sim Sim1 : cS → mS → Prop} (hsim : sim_matches Sim Sim1) (hrc : rc S (some 1) 11 = some 1) (hin : lIn i L) (Wd : lWd D Φ Dm mb o cL s.heap S σ w H) (hS : Sim S σ) (hl : lv_has ls 7 (lLv Φ b mb o i)) (hf : cells + 13 ≤ 601024 ∧ slots + 151 ≤ 7293034) (kk : ∀ (S1 : cS) (σ1 : mS) (w1 : Int64) (H1 : Heap) (ls1 : Array Slot), Sim1 S1 σ1 → lWd D Φ Dm mb o cL s.heap S1 σ1 w1 H1 → lv_has ls1 7 (lLv Φ b mb o i) → W p l e lR s m args below meth c H1 [] (cells + 13) (slots + 151) Q (F0 m 2797 ls1 [])) : W p l e lR s m args below meth c H [] cells slots Q (F0 m 1189 ls []) := by
  have hx := X.1.1
  have hb := X.1.2.1
  have hts := X.1.2.2.2.2.1
  have hl : lv_has ls 7 [(0, .ref b), (1, cv Φ (some 1)), (2, .ref mb), (3, .ref o), (4, .int i)] := hl
  obtain ⟨q, r, hq, hr, hag, hnx⟩ := hsim S σ (xs (i + 1).toNatClampNeg) (xs (i + 2).toNatClampNeg) (xs (i + 3).toNatClampNeg) hS 
  refine c_aload_n hx hb dL_law_1189 rfl (lv_at hl 1 rfl) ?_
  refine lv_aload_n hx hb dL_law_1190 rfl (lv_at hl 0 rfl) ?_
  refine lv_iload hx hb dL_law_1191 (lv_at hl 4 rfl) ?_
  refine lv_iconst (v := 1) hx hb dL_law_1193 (by decide) ?_
  refine lv_iadd hx hb dL_law_1194 ?_
  refine l_sld X Wd hin.2.1 dL_law_1195 ?_
  refine lv_aload_n hx hb dL_law_1196 rfl (lv_at hl 0 rfl) ?_
  refine lv_iload hx hb dL_law_1197 (lv_at hl 4 rfl) ?_
  refine lv_iconst (v := 2) hx hb dL_law_1199 (by decide) ?_
  refine lv_iadd hx hb dL_law_1200 ?_
  refine l_sld X Wd hin.2.2.1 dL_law_1201 ?_
  refine lv_aload_n hx hb dL_law_1202 rfl (lv_at hl 0 rfl) ?_
  refine lv_iload hx hb dL_law_1203 (lv_at hl 4 rfl) ?_
  refine lv_iconst (v := 3) hx hb dL_law_1205 (by decide) ?_
  refine lv_iadd hx hb dL_law_1206 ?_
  refine l_sld X Wd hin.2.2.2.1 dL_law_1207 ?_
  refine lv_aload_n hx hb dL_law_1208 rfl (lv_at hl 3 rfl) ?_
  refine l_w1 (rest := []) (v := (r.2.2 81)) X Wd (K_L_matches l hl9 D Φ S o cL w 1 (xs (i + 1).toNatClampNeg) (xs (i + 2).toNatClampNeg) (xs (i + 3).toNatClampNeg) hrc hq hag.1) ⟨w_1098, ww_L_matches⟩ hy_L_matches rfl ⟨(Nat.le_of_ble_eq_true rfl), (Nat.le_of_ble_eq_true rfl)⟩ hl.1 (Nat.le_of_ble_eq_true rfl) dL_law_1209 rfl ⟨by omega, by omega⟩ (fun n9 w H hn hx9 Wd => ?_)
  refine c_istore hx hb dL_law_1212 hl (Nat.le_of_ble_eq_true rfl) (lvKa rfl (lvKa rfl (lvKa rfl (lvKa rfl (lvKi lvK0))))) rfl (fun ls (hl : lv_has ls 7 [(5, .int (r.2.2 81)), (0, .ref b), (1, cv Φ (some 1)), (2, .ref mb), (3, .ref o), (4, .int i)]) => ?_)
  refine lv_aload_n hx hb dL_law_1214 rfl (lv_at hl 3 rfl) ?_
  refine lv_aload_n hx hb dL_law_1215 rfl (lv_at hl 1 rfl) ?_
  refine lv_iload hx hb dL_law_1216 (lv_at hl 5 rfl) ?_
  refine lv_iconst (v := 1) hx hb dL_law_1218 (by decide) ?_
  refine lv_iadd hx hb dL_law_1219 ?_
  refine l_sld X Wd hin.2.1 dL_law_1220 ?_
  refine lv_aload_n hx hb dL_law_1221 rfl (lv_at hl 1 rfl) ?_
  refine lv_iload hx hb dL_law_1222 (lv_at hl 5 rfl) ?_
  refine lv_iconst (v := 2) hx hb dL_law_1224 (by decide) ?_
  refine lv_iadd hx hb dL_law_1225 ?_
  refine l_sld X Wd hin.2.2.1 dL_law_1226 ?_
  refine lv_aload_n hx hb dL_law_1227 rfl (lv_at hl 1 rfl) ?_
  refine lv_iload hx hb dL_law_1228 (lv_at hl 5 rfl) ?_
  refine lv_iconst (v := 3) hx hb dL_law_1230 (by decide) ?_
  refine lv_iadd hx hb dL_law_1231 ?_
  refine l_sld X Wd hin.2.2.2.1 dL_law_1232 ?_
  refine l_mw X Wd (l_mrun (n := 3) (rest := []) X Wd (K_matches l Dm mb σ (xs (i + 1).toNatClampNeg) (xs (i + 2).toNatClampNeg) (xs (i + 3).toNatClampNeg) hr) ⟨w_2019, w_2020, w_2021, w_2022⟩ (hyX rfl (by decide +kernel)) rfl ⟨(Nat.le_of_ble_eq_true rfl), (Nat.le_of_ble_eq_true rfl)⟩ hl.1 (Nat.le_of_ble_eq_true rfl) dL_law_1233 rfl ⟨by omega, by omega⟩) (fun H Wd => ?_)
  refine W.eq (g2 := F0 m 1236 ls [.int r.1]) rfl ?_
  refine c_istore hx hb dL_law_1236 hl (Nat.le_of_ble_eq_true rfl) (lvKi (lvKa rfl (lvKa rfl (lvKa rfl (lvKa rfl (lvKa rfl lvK0)))))) rfl (fun ls (hl : lv_has ls 7 [(6, .int r.1), (5, .int (r.2.2 81)), (0, .ref b), (1, cv Φ (some 1)), (2, .ref mb), (3, .ref o), (4, .int i)]) => ?_)
  refine lv_aload_n hx hb dL_law_1238 rfl (lv_at hl 4 rfl) ?_
  refine l_mr (l_mrun (n := 0) (rest := []) X Wd (K_thrown l Dm mb r.2 (r := r.2.2 81) rfl) ⟨w_1838, w_1839, w_1840, w_1841⟩ (hyX rfl (by decide +kernel)) rfl ⟨(Nat.le_of_ble_eq_true rfl), (Nat.le_of_ble_eq_true rfl)⟩ hl.1 (Nat.le_of_ble_eq_true rfl) dL_law_1239 rfl ⟨by omega, by omega⟩) ?_
  refine lv_iload hx hb dL_law_1242 (lv_at hl 1 rfl) ?_
  refine lv_icmp_eq (tgt := 1249) hx hb dL_law_1244 rfl (fun _ => ?_) (fun hc => absurd rfl hc)
  refine lv_iload hx hb dL_law_1249 (lv_at hl 1 rfl) ?_
  refine lv_if_ne (tgt := 1273) hx hb dL_law_1251 rfl (fun hc => ?_) (fun hc => ?_)
  · refine lv_goto (tgt := 2797) hx hb dL_law_1273 rfl ?_
    refine W.widen (k := cells + 13) (n := slots + 151) (by omega) (by omega) ?_
    exact kk _ _ _ H ls (hnx _ hn) Wd (lv_sub hl [2, 3, 4, 5, 6] rfl)
  · obtain ⟨u, hu⟩ := lcd_z1 hag.1 hc
    have hw9 := hx9 u hu
    have hw8 := hag.2 u hu
    refine lv_aload_n hx hb dL_law_1254 rfl (lv_at hl 5 rfl) ?_
    refine lv_iconst (v := 0) hx hb dL_law_1255 (by decide) ?_
    refine l_lald X Wd dL_law_1256 ?_
    refine lv_iload hx hb dL_law_1257 (lv_at hl 0 rfl) ?_
    refine l_ternL hx hb dL_law_1259 dL_law_1262 dL_law_1263 dL_law_1266 ?_
    refine W.lcmp hx hb dL_law_1267 ?_
    refine lv_if_eq (tgt := 1273) hx hb dL_law_1268 rfl (fun _ => ?_) (fun hc => absurd (by rw [hw9, hw8]; exact lg_cmp_self _) hc)
    refine lv_goto (tgt := 2797) hx hb dL_law_1273 rfl ?_
    refine W.widen (k := cells + 13) (n := slots + 151) (by omega) (by omega) ?_
    exact kk _ _ _ H ls (hnx _ hn) Wd (lv_sub hl [2, 3, 4, 5, 6] rfl)
set_option maxRecDepth 20000 in
set_option maxHeartbeats 4000000 in
theorem L_case_16 {p : Program} {l : Launch} {e : Env} {s : State} {m : MethodId} {args : Array Value} {below : List Frame} {meth : Method} {c : Code} {H : Heap} {cells slots : Nat} {Q : State → Prop} {ls : Array Slot} {D : cD} {Φ : cG} {Dm : mD} {mb o : Nat} {cL : ClassId} {b L : Nat} {xs : Nat → Int32} {S : cS} {σ : mS} {w : Int64} {i : Int32} (hl9 : l.stackTraces = false) (X : lX p s m args meth c D Φ Dm mb o cL b L xs) {Sim Sim1 : cS → mS → Prop} (hsim : sim_allThat Sim Sim1) (hrc : rc S (some 1) 11 = some 1) (hin : lIn i L) (Wd : lWd D Φ Dm mb o cL s.heap S σ w H) (hS : Sim S σ) (hl : lv_has ls 7 (lLv Φ b mb o i)) (hf : cells + 13 ≤ 601024 ∧ slots + 151 ≤ 7293034) (kk : ∀ (S1 : cS) (σ1 : mS) (w1 : Int64) (H1 : Heap) (ls1 : Array Slot), Sim1 S1 σ1 → lWd D Φ Dm mb o cL s.heap S1 σ1 w1 H1 → lv_has ls1 7 (lLv Φ b mb o i) → W p l e lR s m args below meth c H1 [] (cells + 13) (slots + 151) Q (F0 m 2797 ls1 [])) : W p l e lR s m args below meth c H [] cells slots Q (F0 m 1276 ls []) := by
  have hx := X.1.1
  have hb := X.1.2.1
  have hts := X.1.2.2.2.2.1
  have hl : lv_has ls 7 [(0, .ref b), (1, cv Φ (some 1)), (2, .ref mb), (3, .ref o), (4, .int i)] := hl
  obtain ⟨q, r, hq, hr, hag, hnx⟩ := hsim S σ (xs (i + 1).toNatClampNeg) (xs (i + 2).toNatClampNeg) hS 
  refine c_aload_n hx hb dL_law_1276 rfl (lv_at hl 1 rfl) ?_
  refine lv_aload_n hx hb dL_law_1277 rfl (lv_at hl 0 rfl) ?_
  refine lv_iload hx hb dL_law_1278 (lv_at hl 4 rfl) ?_
  refine lv_iconst (v := 1) hx hb dL_law_1280 (by decide) ?_
  refine lv_iadd hx hb dL_law_1281 ?_
  refine l_sld X Wd hin.2.1 dL_law_1282 ?_
  refine lv_aload_n hx hb dL_law_1283 rfl (lv_at hl 0 rfl) ?_
  refine lv_iload hx hb dL_law_1284 (lv_at hl 4 rfl) ?_
  refine lv_iconst (v := 2) hx hb dL_law_1286 (by decide) ?_
  refine lv_iadd hx hb dL_law_1287 ?_
  refine l_sld X Wd hin.2.2.1 dL_law_1288 ?_
  refine lv_aload_n hx hb dL_law_1289 rfl (lv_at hl 3 rfl) ?_
  refine l_w1 (rest := []) (v := (r.2.2 81)) X Wd (K_L_allThat l hl9 D Φ S o cL w 1 (xs (i + 1).toNatClampNeg) (xs (i + 2).toNatClampNeg) hrc hq hag.1) ⟨w_1152, ww_L_allThat⟩ hy_L_allThat rfl ⟨(Nat.le_of_ble_eq_true rfl), (Nat.le_of_ble_eq_true rfl)⟩ hl.1 (Nat.le_of_ble_eq_true rfl) dL_law_1290 rfl ⟨by omega, by omega⟩ (fun n9 w H hn hx9 Wd => ?_)
  refine c_istore hx hb dL_law_1293 hl (Nat.le_of_ble_eq_true rfl) (lvKa rfl (lvKa rfl (lvKa rfl (lvKa rfl (lvKi lvK0))))) rfl (fun ls (hl : lv_has ls 7 [(5, .int (r.2.2 81)), (0, .ref b), (1, cv Φ (some 1)), (2, .ref mb), (3, .ref o), (4, .int i)]) => ?_)
  refine lv_aload_n hx hb dL_law_1295 rfl (lv_at hl 3 rfl) ?_
  refine lv_aload_n hx hb dL_law_1296 rfl (lv_at hl 1 rfl) ?_
  refine lv_iload hx hb dL_law_1297 (lv_at hl 5 rfl) ?_
  refine lv_iconst (v := 1) hx hb dL_law_1299 (by decide) ?_
  refine lv_iadd hx hb dL_law_1300 ?_
  refine l_sld X Wd hin.2.1 dL_law_1301 ?_
  refine lv_aload_n hx hb dL_law_1302 rfl (lv_at hl 1 rfl) ?_
  refine lv_iload hx hb dL_law_1303 (lv_at hl 5 rfl) ?_
  refine lv_iconst (v := 2) hx hb dL_law_1305 (by decide) ?_
  refine lv_iadd hx hb dL_law_1306 ?_
  refine l_sld X Wd hin.2.2.1 dL_law_1307 ?_
  refine l_mw X Wd (l_mrun (n := 2) (rest := []) X Wd (K_allThat l Dm mb σ (xs (i + 1).toNatClampNeg) (xs (i + 2).toNatClampNeg) hr) ⟨w_2067, w_2068, w_2069, w_2070⟩ (hyX rfl (by decide +kernel)) rfl ⟨(Nat.le_of_ble_eq_true rfl), (Nat.le_of_ble_eq_true rfl)⟩ hl.1 (Nat.le_of_ble_eq_true rfl) dL_law_1308 rfl ⟨by omega, by omega⟩) (fun H Wd => ?_)
  refine W.eq (g2 := F0 m 1311 ls [.int r.1]) rfl ?_
  refine c_istore hx hb dL_law_1311 hl (Nat.le_of_ble_eq_true rfl) (lvKi (lvKa rfl (lvKa rfl (lvKa rfl (lvKa rfl (lvKa rfl lvK0)))))) rfl (fun ls (hl : lv_has ls 7 [(6, .int r.1), (5, .int (r.2.2 81)), (0, .ref b), (1, cv Φ (some 1)), (2, .ref mb), (3, .ref o), (4, .int i)]) => ?_)
  refine lv_aload_n hx hb dL_law_1313 rfl (lv_at hl 4 rfl) ?_
  refine l_mr (l_mrun (n := 0) (rest := []) X Wd (K_thrown l Dm mb r.2 (r := r.2.2 81) rfl) ⟨w_1838, w_1839, w_1840, w_1841⟩ (hyX rfl (by decide +kernel)) rfl ⟨(Nat.le_of_ble_eq_true rfl), (Nat.le_of_ble_eq_true rfl)⟩ hl.1 (Nat.le_of_ble_eq_true rfl) dL_law_1314 rfl ⟨by omega, by omega⟩) ?_
  refine lv_iload hx hb dL_law_1317 (lv_at hl 1 rfl) ?_
  refine lv_icmp_eq (tgt := 1324) hx hb dL_law_1319 rfl (fun _ => ?_) (fun hc => absurd rfl hc)
  refine lv_iload hx hb dL_law_1324 (lv_at hl 1 rfl) ?_
  refine lv_if_ne (tgt := 1341) hx hb dL_law_1326 rfl (fun hc => ?_) (fun hc => ?_)
  · refine lv_goto (tgt := 2797) hx hb dL_law_1341 rfl ?_
    refine W.widen (k := cells + 13) (n := slots + 151) (by omega) (by omega) ?_
    exact kk _ _ _ H ls (hnx _ hn) Wd (lv_sub hl [2, 3, 4, 5, 6] rfl)
  · obtain ⟨u, hu⟩ := lcd_z1 hag.1 hc
    have hw9 := hx9 u hu
    have hw8 := hag.2 u hu
    refine lv_aload_n hx hb dL_law_1329 rfl (lv_at hl 5 rfl) ?_
    refine lv_iconst (v := 0) hx hb dL_law_1330 (by decide) ?_
    refine l_lald X Wd dL_law_1331 ?_
    refine lv_iload hx hb dL_law_1332 (lv_at hl 0 rfl) ?_
    refine lv_i2l (v := lvN r.1) hx hb dL_law_1334 rfl ?_
    refine W.lcmp hx hb dL_law_1335 ?_
    refine lv_if_eq (tgt := 1341) hx hb dL_law_1336 rfl (fun _ => ?_) (fun hc => absurd (by rw [hw9, hw8]; exact lg_cmp_self _) hc)
    refine lv_goto (tgt := 2797) hx hb dL_law_1341 rfl ?_
    refine W.widen (k := cells + 13) (n := slots + 151) (by omega) (by omega) ?_
    exact kk _ _ _ H ls (hnx _ hn) Wd (lv_sub hl [2, 3, 4, 5, 6] rfl)
set_option maxRecDepth 20000 in
set_option maxHeartbeats 4000000 in
theorem L_case_17 {p : Program} {l : Launch} {e : Env} {s : State} {m : MethodId} {args : Array Value} {below : List Frame} {meth : Method} {c : Code} {H : Heap} {cells slots : Nat} {Q : State → Prop} {ls : Array Slot} {D : cD} {Φ : cG} {Dm : mD} {mb o : Nat} {cL : ClassId} {b L : Nat} {xs : Nat → Int32} {S : cS} {σ : mS} {w : Int64} {i : Int32} (hl9 : l.stackTraces = false) (X : lX p s m args meth c D Φ Dm mb o cL b L xs) {Sim Sim1 : cS → mS → Prop} (hsim : sim_sheet Sim Sim1) (hrc : rc S (some 1) 11 = some 1) (hin : lIn i L) (Wd : lWd D Φ Dm mb o cL s.heap S σ w H) (hS : Sim S σ) (hl : lv_has ls 7 (lLv Φ b mb o i)) (hf : cells + 13 ≤ 601024 ∧ slots + 151 ≤ 7293034) (kk : ∀ (S1 : cS) (σ1 : mS) (w1 : Int64) (H1 : Heap) (ls1 : Array Slot), Sim1 S1 σ1 → lWd D Φ Dm mb o cL s.heap S1 σ1 w1 H1 → lv_has ls1 7 (lLv Φ b mb o i) → W p l e lR s m args below meth c H1 [] (cells + 13) (slots + 151) Q (F0 m 2797 ls1 [])) : W p l e lR s m args below meth c H [] cells slots Q (F0 m 1344 ls []) := by
  have hx := X.1.1
  have hb := X.1.2.1
  have hts := X.1.2.2.2.2.1
  have hl : lv_has ls 7 [(0, .ref b), (1, cv Φ (some 1)), (2, .ref mb), (3, .ref o), (4, .int i)] := hl
  obtain ⟨q, r, hq, hr, hag, hnx⟩ := hsim S σ (xs (i + 1).toNatClampNeg) (xs (i + 2).toNatClampNeg) (xs (i + 3).toNatClampNeg) hS 
  refine c_aload_n hx hb dL_law_1344 rfl (lv_at hl 1 rfl) ?_
  refine lv_aload_n hx hb dL_law_1345 rfl (lv_at hl 0 rfl) ?_
  refine lv_iload hx hb dL_law_1346 (lv_at hl 4 rfl) ?_
  refine lv_iconst (v := 1) hx hb dL_law_1348 (by decide) ?_
  refine lv_iadd hx hb dL_law_1349 ?_
  refine l_sld X Wd hin.2.1 dL_law_1350 ?_
  refine lv_aload_n hx hb dL_law_1351 rfl (lv_at hl 0 rfl) ?_
  refine lv_iload hx hb dL_law_1352 (lv_at hl 4 rfl) ?_
  refine lv_iconst (v := 2) hx hb dL_law_1354 (by decide) ?_
  refine lv_iadd hx hb dL_law_1355 ?_
  refine l_sld X Wd hin.2.2.1 dL_law_1356 ?_
  refine lv_aload_n hx hb dL_law_1357 rfl (lv_at hl 0 rfl) ?_
  refine lv_iload hx hb dL_law_1358 (lv_at hl 4 rfl) ?_
  refine lv_iconst (v := 3) hx hb dL_law_1360 (by decide) ?_
  refine lv_iadd hx hb dL_law_1361 ?_
  refine l_sld X Wd hin.2.2.2.1 dL_law_1362 ?_
  refine lv_aload_n hx hb dL_law_1363 rfl (lv_at hl 3 rfl) ?_
  refine l_w1 (rest := []) (v := (r.2.2 81)) X Wd (K_L_sheet l hl9 D Φ S o cL w 1 (xs (i + 1).toNatClampNeg) (xs (i + 2).toNatClampNeg) (xs (i + 3).toNatClampNeg) hrc hq hag.1) ⟨w_1159, ww_L_sheet⟩ hy_L_sheet rfl ⟨(Nat.le_of_ble_eq_true rfl), (Nat.le_of_ble_eq_true rfl)⟩ hl.1 (Nat.le_of_ble_eq_true rfl) dL_law_1364 rfl ⟨by omega, by omega⟩ (fun n9 w H hn hx9 Wd => ?_)
  refine c_istore hx hb dL_law_1367 hl (Nat.le_of_ble_eq_true rfl) (lvKa rfl (lvKa rfl (lvKa rfl (lvKa rfl (lvKi lvK0))))) rfl (fun ls (hl : lv_has ls 7 [(5, .int (r.2.2 81)), (0, .ref b), (1, cv Φ (some 1)), (2, .ref mb), (3, .ref o), (4, .int i)]) => ?_)
  refine lv_aload_n hx hb dL_law_1369 rfl (lv_at hl 3 rfl) ?_
  refine lv_aload_n hx hb dL_law_1370 rfl (lv_at hl 1 rfl) ?_
  refine lv_iload hx hb dL_law_1371 (lv_at hl 5 rfl) ?_
  refine lv_iconst (v := 1) hx hb dL_law_1373 (by decide) ?_
  refine lv_iadd hx hb dL_law_1374 ?_
  refine l_sld X Wd hin.2.1 dL_law_1375 ?_
  refine lv_aload_n hx hb dL_law_1376 rfl (lv_at hl 1 rfl) ?_
  refine lv_iload hx hb dL_law_1377 (lv_at hl 5 rfl) ?_
  refine lv_iconst (v := 2) hx hb dL_law_1379 (by decide) ?_
  refine lv_iadd hx hb dL_law_1380 ?_
  refine l_sld X Wd hin.2.2.1 dL_law_1381 ?_
  refine lv_aload_n hx hb dL_law_1382 rfl (lv_at hl 1 rfl) ?_
  refine lv_iload hx hb dL_law_1383 (lv_at hl 5 rfl) ?_
  refine lv_iconst (v := 3) hx hb dL_law_1385 (by decide) ?_
  refine lv_iadd hx hb dL_law_1386 ?_
  refine l_sld X Wd hin.2.2.2.1 dL_law_1387 ?_
  refine l_mw X Wd (l_mrun (n := 3) (rest := []) X Wd (K_sheet l Dm mb σ (xs (i + 1).toNatClampNeg) (xs (i + 2).toNatClampNeg) (xs (i + 3).toNatClampNeg) hr) ⟨w_2071, w_2072, w_2073, w_2074⟩ (hyX rfl (by decide +kernel)) rfl ⟨(Nat.le_of_ble_eq_true rfl), (Nat.le_of_ble_eq_true rfl)⟩ hl.1 (Nat.le_of_ble_eq_true rfl) dL_law_1388 rfl ⟨by omega, by omega⟩) (fun H Wd => ?_)
  refine W.eq (g2 := F0 m 1391 ls [.int r.1]) rfl ?_
  refine c_istore hx hb dL_law_1391 hl (Nat.le_of_ble_eq_true rfl) (lvKi (lvKa rfl (lvKa rfl (lvKa rfl (lvKa rfl (lvKa rfl lvK0)))))) rfl (fun ls (hl : lv_has ls 7 [(6, .int r.1), (5, .int (r.2.2 81)), (0, .ref b), (1, cv Φ (some 1)), (2, .ref mb), (3, .ref o), (4, .int i)]) => ?_)
  refine lv_aload_n hx hb dL_law_1393 rfl (lv_at hl 4 rfl) ?_
  refine l_mr (l_mrun (n := 0) (rest := []) X Wd (K_thrown l Dm mb r.2 (r := r.2.2 81) rfl) ⟨w_1838, w_1839, w_1840, w_1841⟩ (hyX rfl (by decide +kernel)) rfl ⟨(Nat.le_of_ble_eq_true rfl), (Nat.le_of_ble_eq_true rfl)⟩ hl.1 (Nat.le_of_ble_eq_true rfl) dL_law_1394 rfl ⟨by omega, by omega⟩) ?_
  refine lv_iload hx hb dL_law_1397 (lv_at hl 1 rfl) ?_
  refine lv_icmp_eq (tgt := 1404) hx hb dL_law_1399 rfl (fun _ => ?_) (fun hc => absurd rfl hc)
  refine lv_iload hx hb dL_law_1404 (lv_at hl 1 rfl) ?_
  refine lv_if_ne (tgt := 1421) hx hb dL_law_1406 rfl (fun hc => ?_) (fun hc => ?_)
  · refine lv_goto (tgt := 2797) hx hb dL_law_1421 rfl ?_
    refine W.widen (k := cells + 13) (n := slots + 151) (by omega) (by omega) ?_
    exact kk _ _ _ H ls (hnx _ hn) Wd (lv_sub hl [2, 3, 4, 5, 6] rfl)
  · obtain ⟨u, hu⟩ := lcd_z3 hag.1 hc
    have hw9 := hx9 u hu
    have hw8 := hag.2 u hu
    refine lv_aload_n hx hb dL_law_1409 rfl (lv_at hl 5 rfl) ?_
    refine lv_iconst (v := 0) hx hb dL_law_1410 (by decide) ?_
    refine l_lald X Wd dL_law_1411 ?_
    refine lv_iload hx hb dL_law_1412 (lv_at hl 0 rfl) ?_
    refine lv_i2l (v := lvN r.1) hx hb dL_law_1414 rfl ?_
    refine W.lcmp hx hb dL_law_1415 ?_
    refine lv_if_eq (tgt := 1421) hx hb dL_law_1416 rfl (fun _ => ?_) (fun hc => absurd (by rw [hw9, hw8]; exact lg_cmp_self _) hc)
    refine lv_goto (tgt := 2797) hx hb dL_law_1421 rfl ?_
    refine W.widen (k := cells + 13) (n := slots + 151) (by omega) (by omega) ?_
    exact kk _ _ _ H ls (hnx _ hn) Wd (lv_sub hl [2, 3, 4, 5, 6] rfl)
set_option maxRecDepth 20000 in
set_option maxHeartbeats 4000000 in
theorem L_case_18 {p : Program} {l : Launch} {e : Env} {s : State} {m : MethodId} {args : Array Value} {below : List Frame} {meth : Method} {c : Code} {H : Heap} {cells slots : Nat} {Q : State → Prop} {ls : Array Slot} {D : cD} {Φ : cG} {Dm : mD} {mb o : Nat} {cL : ClassId} {b L : Nat} {xs : Nat → Int32} {S : cS} {σ : mS} {w : Int64} {i : Int32} (hl9 : l.stackTraces = false) (X : lX p s m args meth c D Φ Dm mb o cL b L xs) {Sim Sim1 : cS → mS → Prop} (hsim : sim_turn Sim Sim1) (hrc : rc S (some 1) 11 = some 1) (hin : lIn i L) (Wd : lWd D Φ Dm mb o cL s.heap S σ w H) (hS : Sim S σ) (hl : lv_has ls 7 (lLv Φ b mb o i)) (hf : cells + 13 ≤ 601024 ∧ slots + 151 ≤ 7293034) (kk : ∀ (S1 : cS) (σ1 : mS) (w1 : Int64) (H1 : Heap) (ls1 : Array Slot), Sim1 S1 σ1 → lWd D Φ Dm mb o cL s.heap S1 σ1 w1 H1 → lv_has ls1 7 (lLv Φ b mb o i) → W p l e lR s m args below meth c H1 [] (cells + 13) (slots + 151) Q (F0 m 2797 ls1 [])) : W p l e lR s m args below meth c H [] cells slots Q (F0 m 1424 ls []) := by
  have hx := X.1.1
  have hb := X.1.2.1
  have hts := X.1.2.2.2.2.1
  have hl : lv_has ls 7 [(0, .ref b), (1, cv Φ (some 1)), (2, .ref mb), (3, .ref o), (4, .int i)] := hl
  obtain ⟨q, r, hq, hr, hag, hnx⟩ := hsim S σ (xs (i + 1).toNatClampNeg) (lz (xs (i + 2).toNatClampNeg)) hS (lz_01 _)
  refine c_aload_n hx hb dL_law_1424 rfl (lv_at hl 1 rfl) ?_
  refine lv_aload_n hx hb dL_law_1425 rfl (lv_at hl 0 rfl) ?_
  refine lv_iload hx hb dL_law_1426 (lv_at hl 4 rfl) ?_
  refine lv_iconst (v := 1) hx hb dL_law_1428 (by decide) ?_
  refine lv_iadd hx hb dL_law_1429 ?_
  refine l_sld X Wd hin.2.1 dL_law_1430 ?_
  refine lv_aload_n hx hb dL_law_1431 rfl (lv_at hl 0 rfl) ?_
  refine lv_iload hx hb dL_law_1432 (lv_at hl 4 rfl) ?_
  refine lv_iconst (v := 2) hx hb dL_law_1434 (by decide) ?_
  refine lv_iadd hx hb dL_law_1435 ?_
  refine l_sld X Wd hin.2.2.1 dL_law_1436 ?_
  refine l_tern hx hb dL_law_1437 dL_law_1440 dL_law_1441 dL_law_1444 ?_
  refine lv_aload_n hx hb dL_law_1445 rfl (lv_at hl 3 rfl) ?_
  refine l_w1 (rest := []) (v := (r.2.2 81)) X Wd (K_L_turn l hl9 D Φ S o cL w 1 (xs (i + 1).toNatClampNeg) (lz (xs (i + 2).toNatClampNeg)) hrc hq hag.1) ⟨w_1197, ww_L_turn⟩ hy_L_turn rfl ⟨(Nat.le_of_ble_eq_true rfl), (Nat.le_of_ble_eq_true rfl)⟩ hl.1 (Nat.le_of_ble_eq_true rfl) dL_law_1446 rfl ⟨by omega, by omega⟩ (fun n9 w H hn hx9 Wd => ?_)
  refine c_istore hx hb dL_law_1449 hl (Nat.le_of_ble_eq_true rfl) (lvKa rfl (lvKa rfl (lvKa rfl (lvKa rfl (lvKi lvK0))))) rfl (fun ls (hl : lv_has ls 7 [(5, .int (r.2.2 81)), (0, .ref b), (1, cv Φ (some 1)), (2, .ref mb), (3, .ref o), (4, .int i)]) => ?_)
  refine lv_aload_n hx hb dL_law_1451 rfl (lv_at hl 3 rfl) ?_
  refine lv_aload_n hx hb dL_law_1452 rfl (lv_at hl 1 rfl) ?_
  refine lv_iload hx hb dL_law_1453 (lv_at hl 5 rfl) ?_
  refine lv_iconst (v := 1) hx hb dL_law_1455 (by decide) ?_
  refine lv_iadd hx hb dL_law_1456 ?_
  refine l_sld X Wd hin.2.1 dL_law_1457 ?_
  refine lv_aload_n hx hb dL_law_1458 rfl (lv_at hl 1 rfl) ?_
  refine lv_iload hx hb dL_law_1459 (lv_at hl 5 rfl) ?_
  refine lv_iconst (v := 2) hx hb dL_law_1461 (by decide) ?_
  refine lv_iadd hx hb dL_law_1462 ?_
  refine l_sld X Wd hin.2.2.1 dL_law_1463 ?_
  refine l_tern hx hb dL_law_1464 dL_law_1467 dL_law_1468 dL_law_1471 ?_
  refine l_mw X Wd (l_mrun (n := 2) (rest := []) X Wd (K_turn l Dm mb σ (xs (i + 1).toNatClampNeg) (lz (xs (i + 2).toNatClampNeg)) hr) ⟨w_2075, w_2076, w_2077, w_2078⟩ (hyX rfl (by decide +kernel)) rfl ⟨(Nat.le_of_ble_eq_true rfl), (Nat.le_of_ble_eq_true rfl)⟩ hl.1 (Nat.le_of_ble_eq_true rfl) dL_law_1472 rfl ⟨by omega, by omega⟩) (fun H Wd => ?_)
  refine W.eq (g2 := F0 m 1475 ls [.int r.1]) rfl ?_
  refine c_istore hx hb dL_law_1475 hl (Nat.le_of_ble_eq_true rfl) (lvKi (lvKa rfl (lvKa rfl (lvKa rfl (lvKa rfl (lvKa rfl lvK0)))))) rfl (fun ls (hl : lv_has ls 7 [(6, .int r.1), (5, .int (r.2.2 81)), (0, .ref b), (1, cv Φ (some 1)), (2, .ref mb), (3, .ref o), (4, .int i)]) => ?_)
  refine lv_aload_n hx hb dL_law_1477 rfl (lv_at hl 4 rfl) ?_
  refine l_mr (l_mrun (n := 0) (rest := []) X Wd (K_thrown l Dm mb r.2 (r := r.2.2 81) rfl) ⟨w_1838, w_1839, w_1840, w_1841⟩ (hyX rfl (by decide +kernel)) rfl ⟨(Nat.le_of_ble_eq_true rfl), (Nat.le_of_ble_eq_true rfl)⟩ hl.1 (Nat.le_of_ble_eq_true rfl) dL_law_1478 rfl ⟨by omega, by omega⟩) ?_
  refine lv_iload hx hb dL_law_1481 (lv_at hl 1 rfl) ?_
  refine lv_icmp_eq (tgt := 1488) hx hb dL_law_1483 rfl (fun _ => ?_) (fun hc => absurd rfl hc)
  refine lv_iload hx hb dL_law_1488 (lv_at hl 1 rfl) ?_
  refine lv_if_ne (tgt := 1512) hx hb dL_law_1490 rfl (fun hc => ?_) (fun hc => ?_)
  · refine lv_goto (tgt := 2797) hx hb dL_law_1512 rfl ?_
    refine W.widen (k := cells + 13) (n := slots + 151) (by omega) (by omega) ?_
    exact kk _ _ _ H ls (hnx _ hn) Wd (lv_sub hl [2, 3, 4, 5, 6] rfl)
  · obtain ⟨u, hu⟩ := lcd_z1 hag.1 hc
    have hw9 := hx9 u hu
    have hw8 := hag.2 u hu
    refine lv_aload_n hx hb dL_law_1493 rfl (lv_at hl 5 rfl) ?_
    refine lv_iconst (v := 0) hx hb dL_law_1494 (by decide) ?_
    refine l_lald X Wd dL_law_1495 ?_
    refine lv_iload hx hb dL_law_1496 (lv_at hl 0 rfl) ?_
    refine l_ternL hx hb dL_law_1498 dL_law_1501 dL_law_1502 dL_law_1505 ?_
    refine W.lcmp hx hb dL_law_1506 ?_
    refine lv_if_eq (tgt := 1512) hx hb dL_law_1507 rfl (fun _ => ?_) (fun hc => absurd (by rw [hw9, hw8]; exact lg_cmp_self _) hc)
    refine lv_goto (tgt := 2797) hx hb dL_law_1512 rfl ?_
    refine W.widen (k := cells + 13) (n := slots + 151) (by omega) (by omega) ?_
    exact kk _ _ _ H ls (hnx _ hn) Wd (lv_sub hl [2, 3, 4, 5, 6] rfl)
set_option maxRecDepth 20000 in
set_option maxHeartbeats 4000000 in
theorem L_case_19 {p : Program} {l : Launch} {e : Env} {s : State} {m : MethodId} {args : Array Value} {below : List Frame} {meth : Method} {c : Code} {H : Heap} {cells slots : Nat} {Q : State → Prop} {ls : Array Slot} {D : cD} {Φ : cG} {Dm : mD} {mb o : Nat} {cL : ClassId} {b L : Nat} {xs : Nat → Int32} {S : cS} {σ : mS} {w : Int64} {i : Int32} (hl9 : l.stackTraces = false) (X : lX p s m args meth c D Φ Dm mb o cL b L xs) {Sim Sim1 : cS → mS → Prop} (hsim : sim_rule Sim Sim1) (hrc : rc S (some 1) 11 = some 1) (hin : lIn i L) (Wd : lWd D Φ Dm mb o cL s.heap S σ w H) (hS : Sim S σ) (hl : lv_has ls 7 (lLv Φ b mb o i)) (hf : cells + 13 ≤ 601024 ∧ slots + 151 ≤ 7293034) (kk : ∀ (S1 : cS) (σ1 : mS) (w1 : Int64) (H1 : Heap) (ls1 : Array Slot), Sim1 S1 σ1 → lWd D Φ Dm mb o cL s.heap S1 σ1 w1 H1 → lv_has ls1 7 (lLv Φ b mb o i) → W p l e lR s m args below meth c H1 [] (cells + 13) (slots + 151) Q (F0 m 2797 ls1 [])) : W p l e lR s m args below meth c H [] cells slots Q (F0 m 1515 ls []) := by
  have hx := X.1.1
  have hb := X.1.2.1
  have hts := X.1.2.2.2.2.1
  have hl : lv_has ls 7 [(0, .ref b), (1, cv Φ (some 1)), (2, .ref mb), (3, .ref o), (4, .int i)] := hl
  obtain ⟨q, r, hq, hr, hag, hnx⟩ := hsim S σ (xs (i + 1).toNatClampNeg) (xs (i + 2).toNatClampNeg) hS 
  refine c_aload_n hx hb dL_law_1515 rfl (lv_at hl 1 rfl) ?_
  refine lv_aload_n hx hb dL_law_1516 rfl (lv_at hl 0 rfl) ?_
  refine lv_iload hx hb dL_law_1517 (lv_at hl 4 rfl) ?_
  refine lv_iconst (v := 1) hx hb dL_law_1519 (by decide) ?_
  refine lv_iadd hx hb dL_law_1520 ?_
  refine l_sld X Wd hin.2.1 dL_law_1521 ?_
  refine lv_aload_n hx hb dL_law_1522 rfl (lv_at hl 0 rfl) ?_
  refine lv_iload hx hb dL_law_1523 (lv_at hl 4 rfl) ?_
  refine lv_iconst (v := 2) hx hb dL_law_1525 (by decide) ?_
  refine lv_iadd hx hb dL_law_1526 ?_
  refine l_sld X Wd hin.2.2.1 dL_law_1527 ?_
  refine lv_aload_n hx hb dL_law_1528 rfl (lv_at hl 3 rfl) ?_
  refine l_w1 (rest := []) (v := (r.2.2 81)) X Wd (K_L_rule l hl9 D Φ S o cL w 1 (xs (i + 1).toNatClampNeg) (xs (i + 2).toNatClampNeg) hrc hq hag.1) ⟨w_1212, ww_L_rule⟩ hy_L_rule rfl ⟨(Nat.le_of_ble_eq_true rfl), (Nat.le_of_ble_eq_true rfl)⟩ hl.1 (Nat.le_of_ble_eq_true rfl) dL_law_1529 rfl ⟨by omega, by omega⟩ (fun n9 w H hn hx9 Wd => ?_)
  refine c_istore hx hb dL_law_1532 hl (Nat.le_of_ble_eq_true rfl) (lvKa rfl (lvKa rfl (lvKa rfl (lvKa rfl (lvKi lvK0))))) rfl (fun ls (hl : lv_has ls 7 [(5, .int (r.2.2 81)), (0, .ref b), (1, cv Φ (some 1)), (2, .ref mb), (3, .ref o), (4, .int i)]) => ?_)
  refine lv_aload_n hx hb dL_law_1534 rfl (lv_at hl 3 rfl) ?_
  refine lv_aload_n hx hb dL_law_1535 rfl (lv_at hl 1 rfl) ?_
  refine lv_iload hx hb dL_law_1536 (lv_at hl 5 rfl) ?_
  refine lv_iconst (v := 1) hx hb dL_law_1538 (by decide) ?_
  refine lv_iadd hx hb dL_law_1539 ?_
  refine l_sld X Wd hin.2.1 dL_law_1540 ?_
  refine lv_aload_n hx hb dL_law_1541 rfl (lv_at hl 1 rfl) ?_
  refine lv_iload hx hb dL_law_1542 (lv_at hl 5 rfl) ?_
  refine lv_iconst (v := 2) hx hb dL_law_1544 (by decide) ?_
  refine lv_iadd hx hb dL_law_1545 ?_
  refine l_sld X Wd hin.2.2.1 dL_law_1546 ?_
  refine l_mw X Wd (l_mrun (n := 2) (rest := []) X Wd (K_rule l Dm mb σ (xs (i + 1).toNatClampNeg) (xs (i + 2).toNatClampNeg) hr) ⟨w_2079, w_2080, w_2081, w_2082⟩ (hyX rfl (by decide +kernel)) rfl ⟨(Nat.le_of_ble_eq_true rfl), (Nat.le_of_ble_eq_true rfl)⟩ hl.1 (Nat.le_of_ble_eq_true rfl) dL_law_1547 rfl ⟨by omega, by omega⟩) (fun H Wd => ?_)
  refine W.eq (g2 := F0 m 1550 ls [.int r.1]) rfl ?_
  refine c_istore hx hb dL_law_1550 hl (Nat.le_of_ble_eq_true rfl) (lvKi (lvKa rfl (lvKa rfl (lvKa rfl (lvKa rfl (lvKa rfl lvK0)))))) rfl (fun ls (hl : lv_has ls 7 [(6, .int r.1), (5, .int (r.2.2 81)), (0, .ref b), (1, cv Φ (some 1)), (2, .ref mb), (3, .ref o), (4, .int i)]) => ?_)
  refine lv_aload_n hx hb dL_law_1552 rfl (lv_at hl 4 rfl) ?_
  refine l_mr (l_mrun (n := 0) (rest := []) X Wd (K_thrown l Dm mb r.2 (r := r.2.2 81) rfl) ⟨w_1838, w_1839, w_1840, w_1841⟩ (hyX rfl (by decide +kernel)) rfl ⟨(Nat.le_of_ble_eq_true rfl), (Nat.le_of_ble_eq_true rfl)⟩ hl.1 (Nat.le_of_ble_eq_true rfl) dL_law_1553 rfl ⟨by omega, by omega⟩) ?_
  refine lv_iload hx hb dL_law_1556 (lv_at hl 1 rfl) ?_
  refine lv_icmp_eq (tgt := 1563) hx hb dL_law_1558 rfl (fun _ => ?_) (fun hc => absurd rfl hc)
  refine lv_iload hx hb dL_law_1563 (lv_at hl 1 rfl) ?_
  refine lv_if_ne (tgt := 1580) hx hb dL_law_1565 rfl (fun hc => ?_) (fun hc => ?_)
  · refine lv_goto (tgt := 2797) hx hb dL_law_1580 rfl ?_
    refine W.widen (k := cells + 13) (n := slots + 151) (by omega) (by omega) ?_
    exact kk _ _ _ H ls (hnx _ hn) Wd (lv_sub hl [2, 3, 4, 5, 6] rfl)
  · obtain ⟨u, hu⟩ := lcd_z2 hag.1 hc
    have hw9 := hx9 u hu
    have hw8 := hag.2 u hu
    refine lv_aload_n hx hb dL_law_1568 rfl (lv_at hl 5 rfl) ?_
    refine lv_iconst (v := 0) hx hb dL_law_1569 (by decide) ?_
    refine l_lald X Wd dL_law_1570 ?_
    refine lv_iload hx hb dL_law_1571 (lv_at hl 0 rfl) ?_
    refine lv_i2l (v := lvN r.1) hx hb dL_law_1573 rfl ?_
    refine W.lcmp hx hb dL_law_1574 ?_
    refine lv_if_eq (tgt := 1580) hx hb dL_law_1575 rfl (fun _ => ?_) (fun hc => absurd (by rw [hw9, hw8]; exact lg_cmp_self _) hc)
    refine lv_goto (tgt := 2797) hx hb dL_law_1580 rfl ?_
    refine W.widen (k := cells + 13) (n := slots + 151) (by omega) (by omega) ?_
    exact kk _ _ _ H ls (hnx _ hn) Wd (lv_sub hl [2, 3, 4, 5, 6] rfl)
set_option maxRecDepth 20000 in
set_option maxHeartbeats 4000000 in
theorem L_case_20 {p : Program} {l : Launch} {e : Env} {s : State} {m : MethodId} {args : Array Value} {below : List Frame} {meth : Method} {c : Code} {H : Heap} {cells slots : Nat} {Q : State → Prop} {ls : Array Slot} {D : cD} {Φ : cG} {Dm : mD} {mb o : Nat} {cL : ClassId} {b L : Nat} {xs : Nat → Int32} {S : cS} {σ : mS} {w : Int64} {i : Int32} (hl9 : l.stackTraces = false) (X : lX p s m args meth c D Φ Dm mb o cL b L xs) {Sim Sim1 : cS → mS → Prop} (hsim : sim_when Sim Sim1) (hrc : rc S (some 1) 11 = some 1) (hin : lIn i L) (Wd : lWd D Φ Dm mb o cL s.heap S σ w H) (hS : Sim S σ) (hl : lv_has ls 7 (lLv Φ b mb o i)) (hf : cells + 13 ≤ 601024 ∧ slots + 151 ≤ 7293034) (kk : ∀ (S1 : cS) (σ1 : mS) (w1 : Int64) (H1 : Heap) (ls1 : Array Slot), Sim1 S1 σ1 → lWd D Φ Dm mb o cL s.heap S1 σ1 w1 H1 → lv_has ls1 7 (lLv Φ b mb o i) → W p l e lR s m args below meth c H1 [] (cells + 13) (slots + 151) Q (F0 m 2797 ls1 [])) : W p l e lR s m args below meth c H [] cells slots Q (F0 m 1583 ls []) := by
  have hx := X.1.1
  have hb := X.1.2.1
  have hts := X.1.2.2.2.2.1
  have hl : lv_has ls 7 [(0, .ref b), (1, cv Φ (some 1)), (2, .ref mb), (3, .ref o), (4, .int i)] := hl
  obtain ⟨q, r, hq, hr, hag, hnx⟩ := hsim S σ (xs (i + 1).toNatClampNeg) (xs (i + 2).toNatClampNeg) (xs (i + 3).toNatClampNeg) hS 
  refine c_aload_n hx hb dL_law_1583 rfl (lv_at hl 1 rfl) ?_
  refine lv_aload_n hx hb dL_law_1584 rfl (lv_at hl 0 rfl) ?_
  refine lv_iload hx hb dL_law_1585 (lv_at hl 4 rfl) ?_
  refine lv_iconst (v := 1) hx hb dL_law_1587 (by decide) ?_
  refine lv_iadd hx hb dL_law_1588 ?_
  refine l_sld X Wd hin.2.1 dL_law_1589 ?_
  refine lv_aload_n hx hb dL_law_1590 rfl (lv_at hl 0 rfl) ?_
  refine lv_iload hx hb dL_law_1591 (lv_at hl 4 rfl) ?_
  refine lv_iconst (v := 2) hx hb dL_law_1593 (by decide) ?_
  refine lv_iadd hx hb dL_law_1594 ?_
  refine l_sld X Wd hin.2.2.1 dL_law_1595 ?_
  refine lv_aload_n hx hb dL_law_1596 rfl (lv_at hl 0 rfl) ?_
  refine lv_iload hx hb dL_law_1597 (lv_at hl 4 rfl) ?_
  refine lv_iconst (v := 3) hx hb dL_law_1599 (by decide) ?_
  refine lv_iadd hx hb dL_law_1600 ?_
  refine l_sld X Wd hin.2.2.2.1 dL_law_1601 ?_
  refine l_w0 (rest := []) (v := (r.2 81)) X Wd (K_L_when l hl9 D Φ S 1 (xs (i + 1).toNatClampNeg) (xs (i + 2).toNatClampNeg) (xs (i + 3).toNatClampNeg) hrc hq hag) ⟨w_1224, ww_L_when⟩ hy_L_when rfl ⟨(Nat.le_of_ble_eq_true rfl), (Nat.le_of_ble_eq_true rfl)⟩ hl.1 (Nat.le_of_ble_eq_true rfl) dL_law_1602 rfl ⟨by omega, by omega⟩ (fun n9 H hn Wd => ?_)
  refine c_istore hx hb dL_law_1605 hl (Nat.le_of_ble_eq_true rfl) (lvKa rfl (lvKa rfl (lvKa rfl (lvKa rfl (lvKi lvK0))))) rfl (fun ls (hl : lv_has ls 7 [(5, .int (r.2 81)), (0, .ref b), (1, cv Φ (some 1)), (2, .ref mb), (3, .ref o), (4, .int i)]) => ?_)
  refine lv_aload_n hx hb dL_law_1607 rfl (lv_at hl 3 rfl) ?_
  refine lv_aload_n hx hb dL_law_1608 rfl (lv_at hl 1 rfl) ?_
  refine lv_iload hx hb dL_law_1609 (lv_at hl 5 rfl) ?_
  refine lv_iconst (v := 1) hx hb dL_law_1611 (by decide) ?_
  refine lv_iadd hx hb dL_law_1612 ?_
  refine l_sld X Wd hin.2.1 dL_law_1613 ?_
  refine lv_aload_n hx hb dL_law_1614 rfl (lv_at hl 1 rfl) ?_
  refine lv_iload hx hb dL_law_1615 (lv_at hl 5 rfl) ?_
  refine lv_iconst (v := 2) hx hb dL_law_1617 (by decide) ?_
  refine lv_iadd hx hb dL_law_1618 ?_
  refine l_sld X Wd hin.2.2.1 dL_law_1619 ?_
  refine lv_aload_n hx hb dL_law_1620 rfl (lv_at hl 1 rfl) ?_
  refine lv_iload hx hb dL_law_1621 (lv_at hl 5 rfl) ?_
  refine lv_iconst (v := 3) hx hb dL_law_1623 (by decide) ?_
  refine lv_iadd hx hb dL_law_1624 ?_
  refine l_sld X Wd hin.2.2.2.1 dL_law_1625 ?_
  refine l_mw X Wd (l_mrun (n := 3) (rest := []) X Wd (K_when l Dm mb σ (xs (i + 1).toNatClampNeg) (xs (i + 2).toNatClampNeg) (xs (i + 3).toNatClampNeg) hr) ⟨w_2083, w_2084, w_2085, w_2086⟩ (hyX rfl (by decide +kernel)) rfl ⟨(Nat.le_of_ble_eq_true rfl), (Nat.le_of_ble_eq_true rfl)⟩ hl.1 (Nat.le_of_ble_eq_true rfl) dL_law_1626 rfl ⟨by omega, by omega⟩) (fun H Wd => ?_)
  refine W.eq (g2 := F0 m 1629 ls []) rfl ?_
  refine lv_aload_n hx hb dL_law_1629 rfl (lv_at hl 3 rfl) ?_
  refine l_mr (l_mrun (n := 0) (rest := []) X Wd (K_thrown l Dm mb r (r := r.2 81) rfl) ⟨w_1838, w_1839, w_1840, w_1841⟩ (hyX rfl (by decide +kernel)) rfl ⟨(Nat.le_of_ble_eq_true rfl), (Nat.le_of_ble_eq_true rfl)⟩ hl.1 (Nat.le_of_ble_eq_true rfl) dL_law_1630 rfl ⟨by omega, by omega⟩) ?_
  refine lv_iload hx hb dL_law_1633 (lv_at hl 0 rfl) ?_
  refine lv_icmp_eq (tgt := 1640) hx hb dL_law_1635 rfl (fun _ => ?_) (fun hc => absurd rfl hc)
  refine lv_goto (tgt := 2797) hx hb dL_law_1640 rfl ?_
  refine W.widen (k := cells + 13) (n := slots + 151) (by omega) (by omega) ?_
  exact kk _ _ _ H ls (hnx _ hn) Wd (lv_sub hl [1, 2, 3, 4, 5] rfl)
set_option maxRecDepth 20000 in
set_option maxHeartbeats 4000000 in
theorem L_case_21 {p : Program} {l : Launch} {e : Env} {s : State} {m : MethodId} {args : Array Value} {below : List Frame} {meth : Method} {c : Code} {H : Heap} {cells slots : Nat} {Q : State → Prop} {ls : Array Slot} {D : cD} {Φ : cG} {Dm : mD} {mb o : Nat} {cL : ClassId} {b L : Nat} {xs : Nat → Int32} {S : cS} {σ : mS} {w : Int64} {i : Int32} (hl9 : l.stackTraces = false) (X : lX p s m args meth c D Φ Dm mb o cL b L xs) {Sim Sim1 : cS → mS → Prop} (hsim : sim_declare Sim Sim1) (hrc : rc S (some 1) 11 = some 1) (hin : lIn i L) (Wd : lWd D Φ Dm mb o cL s.heap S σ w H) (hS : Sim S σ) (hl : lv_has ls 7 (lLv Φ b mb o i)) (hf : cells + 13 ≤ 601024 ∧ slots + 151 ≤ 7293034) (kk : ∀ (S1 : cS) (σ1 : mS) (w1 : Int64) (H1 : Heap) (ls1 : Array Slot), Sim1 S1 σ1 → lWd D Φ Dm mb o cL s.heap S1 σ1 w1 H1 → lv_has ls1 7 (lLv Φ b mb o i) → W p l e lR s m args below meth c H1 [] (cells + 13) (slots + 151) Q (F0 m 2797 ls1 [])) : W p l e lR s m args below meth c H [] cells slots Q (F0 m 1643 ls []) := by
  have hx := X.1.1
  have hb := X.1.2.1
  have hts := X.1.2.2.2.2.1
  have hl : lv_has ls 7 [(0, .ref b), (1, cv Φ (some 1)), (2, .ref mb), (3, .ref o), (4, .int i)] := hl
  obtain ⟨q, r, hq, hr, hag, hnx⟩ := hsim S σ (xs (i + 1).toNatClampNeg) (xs (i + 2).toNatClampNeg) (xs (i + 3).toNatClampNeg) (xs (i + 4).toNatClampNeg) (lz (xs (i + 5).toNatClampNeg)) hS (lz_01 _)
  refine c_aload_n hx hb dL_law_1643 rfl (lv_at hl 1 rfl) ?_
  refine lv_aload_n hx hb dL_law_1644 rfl (lv_at hl 0 rfl) ?_
  refine lv_iload hx hb dL_law_1645 (lv_at hl 4 rfl) ?_
  refine lv_iconst (v := 1) hx hb dL_law_1647 (by decide) ?_
  refine lv_iadd hx hb dL_law_1648 ?_
  refine l_sld X Wd hin.2.1 dL_law_1649 ?_
  refine lv_aload_n hx hb dL_law_1650 rfl (lv_at hl 0 rfl) ?_
  refine lv_iload hx hb dL_law_1651 (lv_at hl 4 rfl) ?_
  refine lv_iconst (v := 2) hx hb dL_law_1653 (by decide) ?_
  refine lv_iadd hx hb dL_law_1654 ?_
  refine l_sld X Wd hin.2.2.1 dL_law_1655 ?_
  refine lv_aload_n hx hb dL_law_1656 rfl (lv_at hl 0 rfl) ?_
  refine lv_iload hx hb dL_law_1657 (lv_at hl 4 rfl) ?_
  refine lv_iconst (v := 3) hx hb dL_law_1659 (by decide) ?_
  refine lv_iadd hx hb dL_law_1660 ?_
  refine l_sld X Wd hin.2.2.2.1 dL_law_1661 ?_
  refine lv_aload_n hx hb dL_law_1662 rfl (lv_at hl 0 rfl) ?_
  refine lv_iload hx hb dL_law_1663 (lv_at hl 4 rfl) ?_
  refine lv_iconst (v := 4) hx hb dL_law_1665 (by decide) ?_
  refine lv_iadd hx hb dL_law_1666 ?_
  refine l_sld X Wd hin.2.2.2.2.1 dL_law_1667 ?_
  refine lv_aload_n hx hb dL_law_1668 rfl (lv_at hl 0 rfl) ?_
  refine lv_iload hx hb dL_law_1669 (lv_at hl 4 rfl) ?_
  refine lv_iconst (v := 5) hx hb dL_law_1671 (by decide) ?_
  refine lv_iadd hx hb dL_law_1672 ?_
  refine l_sld X Wd hin.2.2.2.2.2.1 dL_law_1673 ?_
  refine l_tern hx hb dL_law_1674 dL_law_1677 dL_law_1678 dL_law_1681 ?_
  refine lv_aload_n hx hb dL_law_1682 rfl (lv_at hl 3 rfl) ?_
  refine l_w1 (rest := []) (v := (r.2.2 81)) X Wd (K_L_declare l hl9 D Φ S o cL w 1 (xs (i + 1).toNatClampNeg) (xs (i + 2).toNatClampNeg) (xs (i + 3).toNatClampNeg) (xs (i + 4).toNatClampNeg) (lz (xs (i + 5).toNatClampNeg)) hrc hq hag.1) ⟨w_1242, ww_L_declare⟩ hy_L_declare rfl ⟨(Nat.le_of_ble_eq_true rfl), (Nat.le_of_ble_eq_true rfl)⟩ hl.1 (Nat.le_of_ble_eq_true rfl) dL_law_1683 rfl ⟨by omega, by omega⟩ (fun n9 w H hn hx9 Wd => ?_)
  refine c_istore hx hb dL_law_1686 hl (Nat.le_of_ble_eq_true rfl) (lvKa rfl (lvKa rfl (lvKa rfl (lvKa rfl (lvKi lvK0))))) rfl (fun ls (hl : lv_has ls 7 [(5, .int (r.2.2 81)), (0, .ref b), (1, cv Φ (some 1)), (2, .ref mb), (3, .ref o), (4, .int i)]) => ?_)
  refine lv_aload_n hx hb dL_law_1688 rfl (lv_at hl 3 rfl) ?_
  refine lv_aload_n hx hb dL_law_1689 rfl (lv_at hl 1 rfl) ?_
  refine lv_iload hx hb dL_law_1690 (lv_at hl 5 rfl) ?_
  refine lv_iconst (v := 1) hx hb dL_law_1692 (by decide) ?_
  refine lv_iadd hx hb dL_law_1693 ?_
  refine l_sld X Wd hin.2.1 dL_law_1694 ?_
  refine lv_aload_n hx hb dL_law_1695 rfl (lv_at hl 1 rfl) ?_
  refine lv_iload hx hb dL_law_1696 (lv_at hl 5 rfl) ?_
  refine lv_iconst (v := 2) hx hb dL_law_1698 (by decide) ?_
  refine lv_iadd hx hb dL_law_1699 ?_
  refine l_sld X Wd hin.2.2.1 dL_law_1700 ?_
  refine lv_aload_n hx hb dL_law_1701 rfl (lv_at hl 1 rfl) ?_
  refine lv_iload hx hb dL_law_1702 (lv_at hl 5 rfl) ?_
  refine lv_iconst (v := 3) hx hb dL_law_1704 (by decide) ?_
  refine lv_iadd hx hb dL_law_1705 ?_
  refine l_sld X Wd hin.2.2.2.1 dL_law_1706 ?_
  refine lv_aload_n hx hb dL_law_1707 rfl (lv_at hl 1 rfl) ?_
  refine lv_iload hx hb dL_law_1708 (lv_at hl 5 rfl) ?_
  refine lv_iconst (v := 4) hx hb dL_law_1710 (by decide) ?_
  refine lv_iadd hx hb dL_law_1711 ?_
  refine l_sld X Wd hin.2.2.2.2.1 dL_law_1712 ?_
  refine lv_aload_n hx hb dL_law_1713 rfl (lv_at hl 1 rfl) ?_
  refine lv_iload hx hb dL_law_1714 (lv_at hl 5 rfl) ?_
  refine lv_iconst (v := 5) hx hb dL_law_1716 (by decide) ?_
  refine lv_iadd hx hb dL_law_1717 ?_
  refine l_sld X Wd hin.2.2.2.2.2.1 dL_law_1718 ?_
  refine l_tern hx hb dL_law_1719 dL_law_1722 dL_law_1723 dL_law_1726 ?_
  refine l_mw X Wd (l_mrun (n := 5) (rest := []) X Wd (K_declare l Dm mb σ (xs (i + 1).toNatClampNeg) (xs (i + 2).toNatClampNeg) (xs (i + 3).toNatClampNeg) (xs (i + 4).toNatClampNeg) (lz (xs (i + 5).toNatClampNeg)) hr) ⟨w_2091, w_2092, w_2093, w_2094⟩ (hyX rfl (by decide +kernel)) rfl ⟨(Nat.le_of_ble_eq_true rfl), (Nat.le_of_ble_eq_true rfl)⟩ hl.1 (Nat.le_of_ble_eq_true rfl) dL_law_1727 rfl ⟨by omega, by omega⟩) (fun H Wd => ?_)
  refine W.eq (g2 := F0 m 1730 ls [.int r.1]) rfl ?_
  refine c_istore hx hb dL_law_1730 hl (Nat.le_of_ble_eq_true rfl) (lvKi (lvKa rfl (lvKa rfl (lvKa rfl (lvKa rfl (lvKa rfl lvK0)))))) rfl (fun ls (hl : lv_has ls 7 [(6, .int r.1), (5, .int (r.2.2 81)), (0, .ref b), (1, cv Φ (some 1)), (2, .ref mb), (3, .ref o), (4, .int i)]) => ?_)
  refine lv_aload_n hx hb dL_law_1732 rfl (lv_at hl 4 rfl) ?_
  refine l_mr (l_mrun (n := 0) (rest := []) X Wd (K_thrown l Dm mb r.2 (r := r.2.2 81) rfl) ⟨w_1838, w_1839, w_1840, w_1841⟩ (hyX rfl (by decide +kernel)) rfl ⟨(Nat.le_of_ble_eq_true rfl), (Nat.le_of_ble_eq_true rfl)⟩ hl.1 (Nat.le_of_ble_eq_true rfl) dL_law_1733 rfl ⟨by omega, by omega⟩) ?_
  refine lv_iload hx hb dL_law_1736 (lv_at hl 1 rfl) ?_
  refine lv_icmp_eq (tgt := 1743) hx hb dL_law_1738 rfl (fun _ => ?_) (fun hc => absurd rfl hc)
  refine lv_iload hx hb dL_law_1743 (lv_at hl 1 rfl) ?_
  refine lv_if_ne (tgt := 1760) hx hb dL_law_1745 rfl (fun hc => ?_) (fun hc => ?_)
  · refine lv_goto (tgt := 2797) hx hb dL_law_1760 rfl ?_
    refine W.widen (k := cells + 13) (n := slots + 151) (by omega) (by omega) ?_
    exact kk _ _ _ H ls (hnx _ hn) Wd (lv_sub hl [2, 3, 4, 5, 6] rfl)
  · obtain ⟨u, hu⟩ := lcd_z2 hag.1 hc
    have hw9 := hx9 u hu
    have hw8 := hag.2 u hu
    refine lv_aload_n hx hb dL_law_1748 rfl (lv_at hl 5 rfl) ?_
    refine lv_iconst (v := 0) hx hb dL_law_1749 (by decide) ?_
    refine l_lald X Wd dL_law_1750 ?_
    refine lv_iload hx hb dL_law_1751 (lv_at hl 0 rfl) ?_
    refine lv_i2l (v := lvN r.1) hx hb dL_law_1753 rfl ?_
    refine W.lcmp hx hb dL_law_1754 ?_
    refine lv_if_eq (tgt := 1760) hx hb dL_law_1755 rfl (fun _ => ?_) (fun hc => absurd (by rw [hw9, hw8]; exact lg_cmp_self _) hc)
    refine lv_goto (tgt := 2797) hx hb dL_law_1760 rfl ?_
    refine W.widen (k := cells + 13) (n := slots + 151) (by omega) (by omega) ?_
    exact kk _ _ _ H ls (hnx _ hn) Wd (lv_sub hl [2, 3, 4, 5, 6] rfl)
set_option maxRecDepth 20000 in
set_option maxHeartbeats 4000000 in
theorem L_case_22 {p : Program} {l : Launch} {e : Env} {s : State} {m : MethodId} {args : Array Value} {below : List Frame} {meth : Method} {c : Code} {H : Heap} {cells slots : Nat} {Q : State → Prop} {ls : Array Slot} {D : cD} {Φ : cG} {Dm : mD} {mb o : Nat} {cL : ClassId} {b L : Nat} {xs : Nat → Int32} {S : cS} {σ : mS} {w : Int64} {i : Int32} (hl9 : l.stackTraces = false) (X : lX p s m args meth c D Φ Dm mb o cL b L xs) {Sim Sim1 : cS → mS → Prop} (hsim : sim_declareVar Sim Sim1) (hrc : rc S (some 1) 11 = some 1) (hin : lIn i L) (Wd : lWd D Φ Dm mb o cL s.heap S σ w H) (hS : Sim S σ) (hl : lv_has ls 7 (lLv Φ b mb o i)) (hf : cells + 13 ≤ 601024 ∧ slots + 151 ≤ 7293034) (kk : ∀ (S1 : cS) (σ1 : mS) (w1 : Int64) (H1 : Heap) (ls1 : Array Slot), Sim1 S1 σ1 → lWd D Φ Dm mb o cL s.heap S1 σ1 w1 H1 → lv_has ls1 7 (lLv Φ b mb o i) → W p l e lR s m args below meth c H1 [] (cells + 13) (slots + 151) Q (F0 m 2797 ls1 [])) : W p l e lR s m args below meth c H [] cells slots Q (F0 m 1763 ls []) := by
  have hx := X.1.1
  have hb := X.1.2.1
  have hts := X.1.2.2.2.2.1
  have hl : lv_has ls 7 [(0, .ref b), (1, cv Φ (some 1)), (2, .ref mb), (3, .ref o), (4, .int i)] := hl
  obtain ⟨q, r, hq, hr, hag, hnx⟩ := hsim S σ (xs (i + 1).toNatClampNeg) (xs (i + 2).toNatClampNeg) (xs (i + 3).toNatClampNeg) (xs (i + 4).toNatClampNeg) (xs (i + 5).toNatClampNeg) (lz (xs (i + 6).toNatClampNeg)) hS (lz_01 _)
  refine c_aload_n hx hb dL_law_1763 rfl (lv_at hl 1 rfl) ?_
  refine lv_aload_n hx hb dL_law_1764 rfl (lv_at hl 0 rfl) ?_
  refine lv_iload hx hb dL_law_1765 (lv_at hl 4 rfl) ?_
  refine lv_iconst (v := 1) hx hb dL_law_1767 (by decide) ?_
  refine lv_iadd hx hb dL_law_1768 ?_
  refine l_sld X Wd hin.2.1 dL_law_1769 ?_
  refine lv_aload_n hx hb dL_law_1770 rfl (lv_at hl 0 rfl) ?_
  refine lv_iload hx hb dL_law_1771 (lv_at hl 4 rfl) ?_
  refine lv_iconst (v := 2) hx hb dL_law_1773 (by decide) ?_
  refine lv_iadd hx hb dL_law_1774 ?_
  refine l_sld X Wd hin.2.2.1 dL_law_1775 ?_
  refine lv_aload_n hx hb dL_law_1776 rfl (lv_at hl 0 rfl) ?_
  refine lv_iload hx hb dL_law_1777 (lv_at hl 4 rfl) ?_
  refine lv_iconst (v := 3) hx hb dL_law_1779 (by decide) ?_
  refine lv_iadd hx hb dL_law_1780 ?_
  refine l_sld X Wd hin.2.2.2.1 dL_law_1781 ?_
  refine lv_aload_n hx hb dL_law_1782 rfl (lv_at hl 0 rfl) ?_
  refine lv_iload hx hb dL_law_1783 (lv_at hl 4 rfl) ?_
  refine lv_iconst (v := 4) hx hb dL_law_1785 (by decide) ?_
  refine lv_iadd hx hb dL_law_1786 ?_
  refine l_sld X Wd hin.2.2.2.2.1 dL_law_1787 ?_
  refine lv_aload_n hx hb dL_law_1788 rfl (lv_at hl 0 rfl) ?_
  refine lv_iload hx hb dL_law_1789 (lv_at hl 4 rfl) ?_
  refine lv_iconst (v := 5) hx hb dL_law_1791 (by decide) ?_
  refine lv_iadd hx hb dL_law_1792 ?_
  refine l_sld X Wd hin.2.2.2.2.2.1 dL_law_1793 ?_
  refine lv_aload_n hx hb dL_law_1794 rfl (lv_at hl 0 rfl) ?_
  refine lv_iload hx hb dL_law_1795 (lv_at hl 4 rfl) ?_
  refine lv_bipush (v := 6) hx hb dL_law_1797 (by decide) ?_
  refine lv_iadd hx hb dL_law_1799 ?_
  refine l_sld X Wd hin.2.2.2.2.2.2 dL_law_1800 ?_
  refine l_tern hx hb dL_law_1801 dL_law_1804 dL_law_1805 dL_law_1808 ?_
  refine lv_aload_n hx hb dL_law_1809 rfl (lv_at hl 3 rfl) ?_
  refine l_w1 (rest := []) (v := (r.2.2 81)) X Wd (K_L_declareVar l hl9 D Φ S o cL w 1 (xs (i + 1).toNatClampNeg) (xs (i + 2).toNatClampNeg) (xs (i + 3).toNatClampNeg) (xs (i + 4).toNatClampNeg) (xs (i + 5).toNatClampNeg) (lz (xs (i + 6).toNatClampNeg)) hrc hq hag.1) ⟨w_1281, ww_L_declareVar⟩ hy_L_declareVar rfl ⟨(Nat.le_of_ble_eq_true rfl), (Nat.le_of_ble_eq_true rfl)⟩ hl.1 (Nat.le_of_ble_eq_true rfl) dL_law_1810 rfl ⟨by omega, by omega⟩ (fun n9 w H hn hx9 Wd => ?_)
  refine c_istore hx hb dL_law_1813 hl (Nat.le_of_ble_eq_true rfl) (lvKa rfl (lvKa rfl (lvKa rfl (lvKa rfl (lvKi lvK0))))) rfl (fun ls (hl : lv_has ls 7 [(5, .int (r.2.2 81)), (0, .ref b), (1, cv Φ (some 1)), (2, .ref mb), (3, .ref o), (4, .int i)]) => ?_)
  refine lv_aload_n hx hb dL_law_1815 rfl (lv_at hl 3 rfl) ?_
  refine lv_aload_n hx hb dL_law_1816 rfl (lv_at hl 1 rfl) ?_
  refine lv_iload hx hb dL_law_1817 (lv_at hl 5 rfl) ?_
  refine lv_iconst (v := 1) hx hb dL_law_1819 (by decide) ?_
  refine lv_iadd hx hb dL_law_1820 ?_
  refine l_sld X Wd hin.2.1 dL_law_1821 ?_
  refine lv_aload_n hx hb dL_law_1822 rfl (lv_at hl 1 rfl) ?_
  refine lv_iload hx hb dL_law_1823 (lv_at hl 5 rfl) ?_
  refine lv_iconst (v := 2) hx hb dL_law_1825 (by decide) ?_
  refine lv_iadd hx hb dL_law_1826 ?_
  refine l_sld X Wd hin.2.2.1 dL_law_1827 ?_
  refine lv_aload_n hx hb dL_law_1828 rfl (lv_at hl 1 rfl) ?_
  refine lv_iload hx hb dL_law_1829 (lv_at hl 5 rfl) ?_
  refine lv_iconst (v := 3) hx hb dL_law_1831 (by decide) ?_
  refine lv_iadd hx hb dL_law_1832 ?_
  refine l_sld X Wd hin.2.2.2.1 dL_law_1833 ?_
  refine lv_aload_n hx hb dL_law_1834 rfl (lv_at hl 1 rfl) ?_
  refine lv_iload hx hb dL_law_1835 (lv_at hl 5 rfl) ?_
  refine lv_iconst (v := 4) hx hb dL_law_1837 (by decide) ?_
  refine lv_iadd hx hb dL_law_1838 ?_
  refine l_sld X Wd hin.2.2.2.2.1 dL_law_1839 ?_
  refine lv_aload_n hx hb dL_law_1840 rfl (lv_at hl 1 rfl) ?_
  refine lv_iload hx hb dL_law_1841 (lv_at hl 5 rfl) ?_
  refine lv_iconst (v := 5) hx hb dL_law_1843 (by decide) ?_
  refine lv_iadd hx hb dL_law_1844 ?_
  refine l_sld X Wd hin.2.2.2.2.2.1 dL_law_1845 ?_
  refine lv_aload_n hx hb dL_law_1846 rfl (lv_at hl 1 rfl) ?_
  refine lv_iload hx hb dL_law_1847 (lv_at hl 5 rfl) ?_
  refine lv_bipush (v := 6) hx hb dL_law_1849 (by decide) ?_
  refine lv_iadd hx hb dL_law_1851 ?_
  refine l_sld X Wd hin.2.2.2.2.2.2 dL_law_1852 ?_
  refine l_tern hx hb dL_law_1853 dL_law_1856 dL_law_1857 dL_law_1860 ?_
  refine l_mw X Wd (l_mrun (n := 6) (rest := []) X Wd (K_declareVar l Dm mb σ (xs (i + 1).toNatClampNeg) (xs (i + 2).toNatClampNeg) (xs (i + 3).toNatClampNeg) (xs (i + 4).toNatClampNeg) (xs (i + 5).toNatClampNeg) (lz (xs (i + 6).toNatClampNeg)) hr) ⟨w_2115, w_2116, w_2117, w_2118⟩ (hyX rfl (by decide +kernel)) rfl ⟨(Nat.le_of_ble_eq_true rfl), (Nat.le_of_ble_eq_true rfl)⟩ hl.1 (Nat.le_of_ble_eq_true rfl) dL_law_1861 rfl ⟨by omega, by omega⟩) (fun H Wd => ?_)
  refine W.eq (g2 := F0 m 1864 ls [.int r.1]) rfl ?_
  refine c_istore hx hb dL_law_1864 hl (Nat.le_of_ble_eq_true rfl) (lvKi (lvKa rfl (lvKa rfl (lvKa rfl (lvKa rfl (lvKa rfl lvK0)))))) rfl (fun ls (hl : lv_has ls 7 [(6, .int r.1), (5, .int (r.2.2 81)), (0, .ref b), (1, cv Φ (some 1)), (2, .ref mb), (3, .ref o), (4, .int i)]) => ?_)
  refine lv_aload_n hx hb dL_law_1866 rfl (lv_at hl 4 rfl) ?_
  refine l_mr (l_mrun (n := 0) (rest := []) X Wd (K_thrown l Dm mb r.2 (r := r.2.2 81) rfl) ⟨w_1838, w_1839, w_1840, w_1841⟩ (hyX rfl (by decide +kernel)) rfl ⟨(Nat.le_of_ble_eq_true rfl), (Nat.le_of_ble_eq_true rfl)⟩ hl.1 (Nat.le_of_ble_eq_true rfl) dL_law_1867 rfl ⟨by omega, by omega⟩) ?_
  refine lv_iload hx hb dL_law_1870 (lv_at hl 1 rfl) ?_
  refine lv_icmp_eq (tgt := 1877) hx hb dL_law_1872 rfl (fun _ => ?_) (fun hc => absurd rfl hc)
  refine lv_iload hx hb dL_law_1877 (lv_at hl 1 rfl) ?_
  refine lv_if_ne (tgt := 1894) hx hb dL_law_1879 rfl (fun hc => ?_) (fun hc => ?_)
  · refine lv_goto (tgt := 2797) hx hb dL_law_1894 rfl ?_
    refine W.widen (k := cells + 13) (n := slots + 151) (by omega) (by omega) ?_
    exact kk _ _ _ H ls (hnx _ hn) Wd (lv_sub hl [2, 3, 4, 5, 6] rfl)
  · obtain ⟨u, hu⟩ := lcd_z2 hag.1 hc
    have hw9 := hx9 u hu
    have hw8 := hag.2 u hu
    refine lv_aload_n hx hb dL_law_1882 rfl (lv_at hl 5 rfl) ?_
    refine lv_iconst (v := 0) hx hb dL_law_1883 (by decide) ?_
    refine l_lald X Wd dL_law_1884 ?_
    refine lv_iload hx hb dL_law_1885 (lv_at hl 0 rfl) ?_
    refine lv_i2l (v := lvN r.1) hx hb dL_law_1887 rfl ?_
    refine W.lcmp hx hb dL_law_1888 ?_
    refine lv_if_eq (tgt := 1894) hx hb dL_law_1889 rfl (fun _ => ?_) (fun hc => absurd (by rw [hw9, hw8]; exact lg_cmp_self _) hc)
    refine lv_goto (tgt := 2797) hx hb dL_law_1894 rfl ?_
    refine W.widen (k := cells + 13) (n := slots + 151) (by omega) (by omega) ?_
    exact kk _ _ _ H ls (hnx _ hn) Wd (lv_sub hl [2, 3, 4, 5, 6] rfl)
set_option maxRecDepth 20000 in
set_option maxHeartbeats 4000000 in
theorem L_case_23 {p : Program} {l : Launch} {e : Env} {s : State} {m : MethodId} {args : Array Value} {below : List Frame} {meth : Method} {c : Code} {H : Heap} {cells slots : Nat} {Q : State → Prop} {ls : Array Slot} {D : cD} {Φ : cG} {Dm : mD} {mb o : Nat} {cL : ClassId} {b L : Nat} {xs : Nat → Int32} {S : cS} {σ : mS} {w : Int64} {i : Int32} (hl9 : l.stackTraces = false) (X : lX p s m args meth c D Φ Dm mb o cL b L xs) {Sim Sim1 : cS → mS → Prop} (hsim : sim_undeclare Sim Sim1) (hrc : rc S (some 1) 11 = some 1) (hin : lIn i L) (Wd : lWd D Φ Dm mb o cL s.heap S σ w H) (hS : Sim S σ) (hl : lv_has ls 7 (lLv Φ b mb o i)) (hf : cells + 13 ≤ 601024 ∧ slots + 151 ≤ 7293034) (kk : ∀ (S1 : cS) (σ1 : mS) (w1 : Int64) (H1 : Heap) (ls1 : Array Slot), Sim1 S1 σ1 → lWd D Φ Dm mb o cL s.heap S1 σ1 w1 H1 → lv_has ls1 7 (lLv Φ b mb o i) → W p l e lR s m args below meth c H1 [] (cells + 13) (slots + 151) Q (F0 m 2797 ls1 [])) : W p l e lR s m args below meth c H [] cells slots Q (F0 m 1897 ls []) := by
  have hx := X.1.1
  have hb := X.1.2.1
  have hts := X.1.2.2.2.2.1
  have hl : lv_has ls 7 [(0, .ref b), (1, cv Φ (some 1)), (2, .ref mb), (3, .ref o), (4, .int i)] := hl
  obtain ⟨q, r, hq, hr, hag, hnx⟩ := hsim S σ (xs (i + 1).toNatClampNeg) (xs (i + 2).toNatClampNeg) hS 
  refine c_aload_n hx hb dL_law_1897 rfl (lv_at hl 1 rfl) ?_
  refine lv_aload_n hx hb dL_law_1898 rfl (lv_at hl 0 rfl) ?_
  refine lv_iload hx hb dL_law_1899 (lv_at hl 4 rfl) ?_
  refine lv_iconst (v := 1) hx hb dL_law_1901 (by decide) ?_
  refine lv_iadd hx hb dL_law_1902 ?_
  refine l_sld X Wd hin.2.1 dL_law_1903 ?_
  refine lv_aload_n hx hb dL_law_1904 rfl (lv_at hl 0 rfl) ?_
  refine lv_iload hx hb dL_law_1905 (lv_at hl 4 rfl) ?_
  refine lv_iconst (v := 2) hx hb dL_law_1907 (by decide) ?_
  refine lv_iadd hx hb dL_law_1908 ?_
  refine l_sld X Wd hin.2.2.1 dL_law_1909 ?_
  refine lv_aload_n hx hb dL_law_1910 rfl (lv_at hl 3 rfl) ?_
  refine l_w1 (rest := []) (v := (r.2.2 81)) X Wd (K_L_undeclare l hl9 D Φ S o cL w 1 (xs (i + 1).toNatClampNeg) (xs (i + 2).toNatClampNeg) hrc hq hag.1) ⟨w_1292, ww_L_undeclare⟩ hy_L_undeclare rfl ⟨(Nat.le_of_ble_eq_true rfl), (Nat.le_of_ble_eq_true rfl)⟩ hl.1 (Nat.le_of_ble_eq_true rfl) dL_law_1911 rfl ⟨by omega, by omega⟩ (fun n9 w H hn hx9 Wd => ?_)
  refine c_istore hx hb dL_law_1914 hl (Nat.le_of_ble_eq_true rfl) (lvKa rfl (lvKa rfl (lvKa rfl (lvKa rfl (lvKi lvK0))))) rfl (fun ls (hl : lv_has ls 7 [(5, .int (r.2.2 81)), (0, .ref b), (1, cv Φ (some 1)), (2, .ref mb), (3, .ref o), (4, .int i)]) => ?_)
  refine lv_aload_n hx hb dL_law_1916 rfl (lv_at hl 3 rfl) ?_
  refine lv_aload_n hx hb dL_law_1917 rfl (lv_at hl 1 rfl) ?_
  refine lv_iload hx hb dL_law_1918 (lv_at hl 5 rfl) ?_
  refine lv_iconst (v := 1) hx hb dL_law_1920 (by decide) ?_
  refine lv_iadd hx hb dL_law_1921 ?_
  refine l_sld X Wd hin.2.1 dL_law_1922 ?_
  refine lv_aload_n hx hb dL_law_1923 rfl (lv_at hl 1 rfl) ?_
  refine lv_iload hx hb dL_law_1924 (lv_at hl 5 rfl) ?_
  refine lv_iconst (v := 2) hx hb dL_law_1926 (by decide) ?_
  refine lv_iadd hx hb dL_law_1927 ?_
  refine l_sld X Wd hin.2.2.1 dL_law_1928 ?_
  refine l_mw X Wd (l_mrun (n := 2) (rest := []) X Wd (K_undeclare l Dm mb σ (xs (i + 1).toNatClampNeg) (xs (i + 2).toNatClampNeg) hr) ⟨w_2119, w_2120, w_2121, w_2122⟩ (hyX rfl (by decide +kernel)) rfl ⟨(Nat.le_of_ble_eq_true rfl), (Nat.le_of_ble_eq_true rfl)⟩ hl.1 (Nat.le_of_ble_eq_true rfl) dL_law_1929 rfl ⟨by omega, by omega⟩) (fun H Wd => ?_)
  refine W.eq (g2 := F0 m 1932 ls [.int r.1]) rfl ?_
  refine c_istore hx hb dL_law_1932 hl (Nat.le_of_ble_eq_true rfl) (lvKi (lvKa rfl (lvKa rfl (lvKa rfl (lvKa rfl (lvKa rfl lvK0)))))) rfl (fun ls (hl : lv_has ls 7 [(6, .int r.1), (5, .int (r.2.2 81)), (0, .ref b), (1, cv Φ (some 1)), (2, .ref mb), (3, .ref o), (4, .int i)]) => ?_)
  refine lv_aload_n hx hb dL_law_1934 rfl (lv_at hl 4 rfl) ?_
  refine l_mr (l_mrun (n := 0) (rest := []) X Wd (K_thrown l Dm mb r.2 (r := r.2.2 81) rfl) ⟨w_1838, w_1839, w_1840, w_1841⟩ (hyX rfl (by decide +kernel)) rfl ⟨(Nat.le_of_ble_eq_true rfl), (Nat.le_of_ble_eq_true rfl)⟩ hl.1 (Nat.le_of_ble_eq_true rfl) dL_law_1935 rfl ⟨by omega, by omega⟩) ?_
  refine lv_iload hx hb dL_law_1938 (lv_at hl 1 rfl) ?_
  refine lv_icmp_eq (tgt := 1945) hx hb dL_law_1940 rfl (fun _ => ?_) (fun hc => absurd rfl hc)
  refine lv_iload hx hb dL_law_1945 (lv_at hl 1 rfl) ?_
  refine lv_if_ne (tgt := 1962) hx hb dL_law_1947 rfl (fun hc => ?_) (fun hc => ?_)
  · refine lv_goto (tgt := 2797) hx hb dL_law_1962 rfl ?_
    refine W.widen (k := cells + 13) (n := slots + 151) (by omega) (by omega) ?_
    exact kk _ _ _ H ls (hnx _ hn) Wd (lv_sub hl [2, 3, 4, 5, 6] rfl)
  · obtain ⟨u, hu⟩ := lcd_z2 hag.1 hc
    have hw9 := hx9 u hu
    have hw8 := hag.2 u hu
    refine lv_aload_n hx hb dL_law_1950 rfl (lv_at hl 5 rfl) ?_
    refine lv_iconst (v := 0) hx hb dL_law_1951 (by decide) ?_
    refine l_lald X Wd dL_law_1952 ?_
    refine lv_iload hx hb dL_law_1953 (lv_at hl 0 rfl) ?_
    refine lv_i2l (v := lvN r.1) hx hb dL_law_1955 rfl ?_
    refine W.lcmp hx hb dL_law_1956 ?_
    refine lv_if_eq (tgt := 1962) hx hb dL_law_1957 rfl (fun _ => ?_) (fun hc => absurd (by rw [hw9, hw8]; exact lg_cmp_self _) hc)
    refine lv_goto (tgt := 2797) hx hb dL_law_1962 rfl ?_
    refine W.widen (k := cells + 13) (n := slots + 151) (by omega) (by omega) ?_
    exact kk _ _ _ H ls (hnx _ hn) Wd (lv_sub hl [2, 3, 4, 5, 6] rfl)
set_option maxRecDepth 20000 in
set_option maxHeartbeats 4000000 in
theorem L_case_24 {p : Program} {l : Launch} {e : Env} {s : State} {m : MethodId} {args : Array Value} {below : List Frame} {meth : Method} {c : Code} {H : Heap} {cells slots : Nat} {Q : State → Prop} {ls : Array Slot} {D : cD} {Φ : cG} {Dm : mD} {mb o : Nat} {cL : ClassId} {b L : Nat} {xs : Nat → Int32} {S : cS} {σ : mS} {w : Int64} {i : Int32} (hl9 : l.stackTraces = false) (X : lX p s m args meth c D Φ Dm mb o cL b L xs) {Sim Sim1 : cS → mS → Prop} (hsim : sim_setWidth Sim Sim1) (hrc : rc S (some 1) 11 = some 1) (hin : lIn i L) (Wd : lWd D Φ Dm mb o cL s.heap S σ w H) (hS : Sim S σ) (hl : lv_has ls 7 (lLv Φ b mb o i)) (hf : cells + 13 ≤ 601024 ∧ slots + 151 ≤ 7293034) (kk : ∀ (S1 : cS) (σ1 : mS) (w1 : Int64) (H1 : Heap) (ls1 : Array Slot), Sim1 S1 σ1 → lWd D Φ Dm mb o cL s.heap S1 σ1 w1 H1 → lv_has ls1 7 (lLv Φ b mb o i) → W p l e lR s m args below meth c H1 [] (cells + 13) (slots + 151) Q (F0 m 2797 ls1 [])) : W p l e lR s m args below meth c H [] cells slots Q (F0 m 1965 ls []) := by
  have hx := X.1.1
  have hb := X.1.2.1
  have hts := X.1.2.2.2.2.1
  have hl : lv_has ls 7 [(0, .ref b), (1, cv Φ (some 1)), (2, .ref mb), (3, .ref o), (4, .int i)] := hl
  obtain ⟨q, r, hq, hr, hag, hnx⟩ := hsim S σ (xs (i + 1).toNatClampNeg) hS 
  refine c_aload_n hx hb dL_law_1965 rfl (lv_at hl 1 rfl) ?_
  refine lv_aload_n hx hb dL_law_1966 rfl (lv_at hl 0 rfl) ?_
  refine lv_iload hx hb dL_law_1967 (lv_at hl 4 rfl) ?_
  refine lv_iconst (v := 1) hx hb dL_law_1969 (by decide) ?_
  refine lv_iadd hx hb dL_law_1970 ?_
  refine l_sld X Wd hin.2.1 dL_law_1971 ?_
  refine lv_aload_n hx hb dL_law_1972 rfl (lv_at hl 3 rfl) ?_
  refine l_w1 (rest := []) (v := (r.2.2 81)) X Wd (K_L_setWidth l hl9 D Φ S o cL w 1 (xs (i + 1).toNatClampNeg) hrc hq hag.1) ⟨w_1299, ww_L_setWidth⟩ hy_L_setWidth rfl ⟨(Nat.le_of_ble_eq_true rfl), (Nat.le_of_ble_eq_true rfl)⟩ hl.1 (Nat.le_of_ble_eq_true rfl) dL_law_1973 rfl ⟨by omega, by omega⟩ (fun n9 w H hn hx9 Wd => ?_)
  refine c_istore hx hb dL_law_1976 hl (Nat.le_of_ble_eq_true rfl) (lvKa rfl (lvKa rfl (lvKa rfl (lvKa rfl (lvKi lvK0))))) rfl (fun ls (hl : lv_has ls 7 [(5, .int (r.2.2 81)), (0, .ref b), (1, cv Φ (some 1)), (2, .ref mb), (3, .ref o), (4, .int i)]) => ?_)
  refine lv_aload_n hx hb dL_law_1978 rfl (lv_at hl 3 rfl) ?_
  refine lv_aload_n hx hb dL_law_1979 rfl (lv_at hl 1 rfl) ?_
  refine lv_iload hx hb dL_law_1980 (lv_at hl 5 rfl) ?_
  refine lv_iconst (v := 1) hx hb dL_law_1982 (by decide) ?_
  refine lv_iadd hx hb dL_law_1983 ?_
  refine l_sld X Wd hin.2.1 dL_law_1984 ?_
  refine l_mw X Wd (l_mrun (n := 1) (rest := []) X Wd (K_setWidth l Dm mb σ (xs (i + 1).toNatClampNeg) hr) ⟨w_2123, w_2124, w_2125, w_2126⟩ (hyX rfl (by decide +kernel)) rfl ⟨(Nat.le_of_ble_eq_true rfl), (Nat.le_of_ble_eq_true rfl)⟩ hl.1 (Nat.le_of_ble_eq_true rfl) dL_law_1985 rfl ⟨by omega, by omega⟩) (fun H Wd => ?_)
  refine W.eq (g2 := F0 m 1988 ls [.int r.1]) rfl ?_
  refine c_istore hx hb dL_law_1988 hl (Nat.le_of_ble_eq_true rfl) (lvKi (lvKa rfl (lvKa rfl (lvKa rfl (lvKa rfl (lvKa rfl lvK0)))))) rfl (fun ls (hl : lv_has ls 7 [(6, .int r.1), (5, .int (r.2.2 81)), (0, .ref b), (1, cv Φ (some 1)), (2, .ref mb), (3, .ref o), (4, .int i)]) => ?_)
  refine lv_aload_n hx hb dL_law_1990 rfl (lv_at hl 4 rfl) ?_
  refine l_mr (l_mrun (n := 0) (rest := []) X Wd (K_thrown l Dm mb r.2 (r := r.2.2 81) rfl) ⟨w_1838, w_1839, w_1840, w_1841⟩ (hyX rfl (by decide +kernel)) rfl ⟨(Nat.le_of_ble_eq_true rfl), (Nat.le_of_ble_eq_true rfl)⟩ hl.1 (Nat.le_of_ble_eq_true rfl) dL_law_1991 rfl ⟨by omega, by omega⟩) ?_
  refine lv_iload hx hb dL_law_1994 (lv_at hl 1 rfl) ?_
  refine lv_icmp_eq (tgt := 2001) hx hb dL_law_1996 rfl (fun _ => ?_) (fun hc => absurd rfl hc)
  refine lv_iload hx hb dL_law_2001 (lv_at hl 1 rfl) ?_
  refine lv_if_ne (tgt := 2018) hx hb dL_law_2003 rfl (fun hc => ?_) (fun hc => ?_)
  · refine lv_goto (tgt := 2797) hx hb dL_law_2018 rfl ?_
    refine W.widen (k := cells + 13) (n := slots + 151) (by omega) (by omega) ?_
    exact kk _ _ _ H ls (hnx _ hn) Wd (lv_sub hl [2, 3, 4, 5, 6] rfl)
  · obtain ⟨u, hu⟩ := lcd_z1 hag.1 hc
    have hw9 := hx9 u hu
    have hw8 := hag.2 u hu
    refine lv_aload_n hx hb dL_law_2006 rfl (lv_at hl 5 rfl) ?_
    refine lv_iconst (v := 0) hx hb dL_law_2007 (by decide) ?_
    refine l_lald X Wd dL_law_2008 ?_
    refine lv_iload hx hb dL_law_2009 (lv_at hl 0 rfl) ?_
    refine lv_i2l (v := lvN r.1) hx hb dL_law_2011 rfl ?_
    refine W.lcmp hx hb dL_law_2012 ?_
    refine lv_if_eq (tgt := 2018) hx hb dL_law_2013 rfl (fun _ => ?_) (fun hc => absurd (by rw [hw9, hw8]; exact lg_cmp_self _) hc)
    refine lv_goto (tgt := 2797) hx hb dL_law_2018 rfl ?_
    refine W.widen (k := cells + 13) (n := slots + 151) (by omega) (by omega) ?_
    exact kk _ _ _ H ls (hnx _ hn) Wd (lv_sub hl [2, 3, 4, 5, 6] rfl)
set_option maxRecDepth 20000 in
set_option maxHeartbeats 4000000 in
theorem L_case_25 {p : Program} {l : Launch} {e : Env} {s : State} {m : MethodId} {args : Array Value} {below : List Frame} {meth : Method} {c : Code} {H : Heap} {cells slots : Nat} {Q : State → Prop} {ls : Array Slot} {D : cD} {Φ : cG} {Dm : mD} {mb o : Nat} {cL : ClassId} {b L : Nat} {xs : Nat → Int32} {S : cS} {σ : mS} {w : Int64} {i : Int32} (hl9 : l.stackTraces = false) (X : lX p s m args meth c D Φ Dm mb o cL b L xs) {Sim Sim1 : cS → mS → Prop} (hsim : sim_value Sim Sim1) (hrc : rc S (some 1) 11 = some 1) (hin : lIn i L) (Wd : lWd D Φ Dm mb o cL s.heap S σ w H) (hS : Sim S σ) (hl : lv_has ls 7 (lLv Φ b mb o i)) (hf : cells + 13 ≤ 601024 ∧ slots + 151 ≤ 7293034) (kk : ∀ (S1 : cS) (σ1 : mS) (w1 : Int64) (H1 : Heap) (ls1 : Array Slot), Sim1 S1 σ1 → lWd D Φ Dm mb o cL s.heap S1 σ1 w1 H1 → lv_has ls1 7 (lLv Φ b mb o i) → W p l e lR s m args below meth c H1 [] (cells + 13) (slots + 151) Q (F0 m 2797 ls1 [])) : W p l e lR s m args below meth c H [] cells slots Q (F0 m 2021 ls []) := by
  have hx := X.1.1
  have hb := X.1.2.1
  have hts := X.1.2.2.2.2.1
  have hl : lv_has ls 7 [(0, .ref b), (1, cv Φ (some 1)), (2, .ref mb), (3, .ref o), (4, .int i)] := hl
  obtain ⟨q, r, hq, hr, hag, hnx⟩ := hsim S σ (xs (i + 1).toNatClampNeg) (xs (i + 2).toNatClampNeg) hS 
  refine c_aload_n hx hb dL_law_2021 rfl (lv_at hl 1 rfl) ?_
  refine lv_aload_n hx hb dL_law_2022 rfl (lv_at hl 0 rfl) ?_
  refine lv_iload hx hb dL_law_2023 (lv_at hl 4 rfl) ?_
  refine lv_iconst (v := 1) hx hb dL_law_2025 (by decide) ?_
  refine lv_iadd hx hb dL_law_2026 ?_
  refine l_sld X Wd hin.2.1 dL_law_2027 ?_
  refine lv_aload_n hx hb dL_law_2028 rfl (lv_at hl 0 rfl) ?_
  refine lv_iload hx hb dL_law_2029 (lv_at hl 4 rfl) ?_
  refine lv_iconst (v := 2) hx hb dL_law_2031 (by decide) ?_
  refine lv_iadd hx hb dL_law_2032 ?_
  refine l_sld X Wd hin.2.2.1 dL_law_2033 ?_
  refine lv_aload_n hx hb dL_law_2034 rfl (lv_at hl 3 rfl) ?_
  refine l_w1 (rest := []) (v := (r.2.2 81)) X Wd (K_L_value l hl9 D Φ S o cL w 1 (xs (i + 1).toNatClampNeg) (xs (i + 2).toNatClampNeg) hrc hq hag.1) ⟨w_1306, ww_L_value⟩ hy_L_value rfl ⟨(Nat.le_of_ble_eq_true rfl), (Nat.le_of_ble_eq_true rfl)⟩ hl.1 (Nat.le_of_ble_eq_true rfl) dL_law_2035 rfl ⟨by omega, by omega⟩ (fun n9 w H hn hx9 Wd => ?_)
  refine c_istore hx hb dL_law_2038 hl (Nat.le_of_ble_eq_true rfl) (lvKa rfl (lvKa rfl (lvKa rfl (lvKa rfl (lvKi lvK0))))) rfl (fun ls (hl : lv_has ls 7 [(5, .int (r.2.2 81)), (0, .ref b), (1, cv Φ (some 1)), (2, .ref mb), (3, .ref o), (4, .int i)]) => ?_)
  refine lv_aload_n hx hb dL_law_2040 rfl (lv_at hl 3 rfl) ?_
  refine lv_aload_n hx hb dL_law_2041 rfl (lv_at hl 1 rfl) ?_
  refine lv_iload hx hb dL_law_2042 (lv_at hl 5 rfl) ?_
  refine lv_iconst (v := 1) hx hb dL_law_2044 (by decide) ?_
  refine lv_iadd hx hb dL_law_2045 ?_
  refine l_sld X Wd hin.2.1 dL_law_2046 ?_
  refine lv_aload_n hx hb dL_law_2047 rfl (lv_at hl 1 rfl) ?_
  refine lv_iload hx hb dL_law_2048 (lv_at hl 5 rfl) ?_
  refine lv_iconst (v := 2) hx hb dL_law_2050 (by decide) ?_
  refine lv_iadd hx hb dL_law_2051 ?_
  refine l_sld X Wd hin.2.2.1 dL_law_2052 ?_
  refine l_mw X Wd (l_mrun (n := 2) (rest := []) X Wd (K_value l Dm mb σ (xs (i + 1).toNatClampNeg) (xs (i + 2).toNatClampNeg) hr) ⟨w_2127, w_2128, w_2129, w_2130⟩ (hyX rfl (by decide +kernel)) rfl ⟨(Nat.le_of_ble_eq_true rfl), (Nat.le_of_ble_eq_true rfl)⟩ hl.1 (Nat.le_of_ble_eq_true rfl) dL_law_2053 rfl ⟨by omega, by omega⟩) (fun H Wd => ?_)
  refine W.eq (g2 := F0 m 2056 ls [.int r.1]) rfl ?_
  refine c_istore hx hb dL_law_2056 hl (Nat.le_of_ble_eq_true rfl) (lvKi (lvKa rfl (lvKa rfl (lvKa rfl (lvKa rfl (lvKa rfl lvK0)))))) rfl (fun ls (hl : lv_has ls 7 [(6, .int r.1), (5, .int (r.2.2 81)), (0, .ref b), (1, cv Φ (some 1)), (2, .ref mb), (3, .ref o), (4, .int i)]) => ?_)
  refine lv_aload_n hx hb dL_law_2058 rfl (lv_at hl 4 rfl) ?_
  refine l_mr (l_mrun (n := 0) (rest := []) X Wd (K_thrown l Dm mb r.2 (r := r.2.2 81) rfl) ⟨w_1838, w_1839, w_1840, w_1841⟩ (hyX rfl (by decide +kernel)) rfl ⟨(Nat.le_of_ble_eq_true rfl), (Nat.le_of_ble_eq_true rfl)⟩ hl.1 (Nat.le_of_ble_eq_true rfl) dL_law_2059 rfl ⟨by omega, by omega⟩) ?_
  refine lv_iload hx hb dL_law_2062 (lv_at hl 1 rfl) ?_
  refine lv_icmp_eq (tgt := 2069) hx hb dL_law_2064 rfl (fun _ => ?_) (fun hc => absurd rfl hc)
  refine lv_iload hx hb dL_law_2069 (lv_at hl 1 rfl) ?_
  refine lv_if_ne (tgt := 2086) hx hb dL_law_2071 rfl (fun hc => ?_) (fun hc => ?_)
  · refine lv_goto (tgt := 2797) hx hb dL_law_2086 rfl ?_
    refine W.widen (k := cells + 13) (n := slots + 151) (by omega) (by omega) ?_
    exact kk _ _ _ H ls (hnx _ hn) Wd (lv_sub hl [2, 3, 4, 5, 6] rfl)
  · obtain ⟨u, hu⟩ := lcd_z3 hag.1 hc
    have hw9 := hx9 u hu
    have hw8 := hag.2 u hu
    refine lv_aload_n hx hb dL_law_2074 rfl (lv_at hl 5 rfl) ?_
    refine lv_iconst (v := 0) hx hb dL_law_2075 (by decide) ?_
    refine l_lald X Wd dL_law_2076 ?_
    refine lv_iload hx hb dL_law_2077 (lv_at hl 0 rfl) ?_
    refine lv_i2l (v := lvN r.1) hx hb dL_law_2079 rfl ?_
    refine W.lcmp hx hb dL_law_2080 ?_
    refine lv_if_eq (tgt := 2086) hx hb dL_law_2081 rfl (fun _ => ?_) (fun hc => absurd (by rw [hw9, hw8]; exact lg_cmp_self _) hc)
    refine lv_goto (tgt := 2797) hx hb dL_law_2086 rfl ?_
    refine W.widen (k := cells + 13) (n := slots + 151) (by omega) (by omega) ?_
    exact kk _ _ _ H ls (hnx _ hn) Wd (lv_sub hl [2, 3, 4, 5, 6] rfl)
set_option maxRecDepth 20000 in
set_option maxHeartbeats 4000000 in
theorem L_case_26 {p : Program} {l : Launch} {e : Env} {s : State} {m : MethodId} {args : Array Value} {below : List Frame} {meth : Method} {c : Code} {H : Heap} {cells slots : Nat} {Q : State → Prop} {ls : Array Slot} {D : cD} {Φ : cG} {Dm : mD} {mb o : Nat} {cL : ClassId} {b L : Nat} {xs : Nat → Int32} {S : cS} {σ : mS} {w : Int64} {i : Int32} (hl9 : l.stackTraces = false) (X : lX p s m args meth c D Φ Dm mb o cL b L xs) {Sim Sim1 : cS → mS → Prop} (hsim : sim_size Sim Sim1) (hrc : rc S (some 1) 11 = some 1) (hin : lIn i L) (Wd : lWd D Φ Dm mb o cL s.heap S σ w H) (hS : Sim S σ) (hl : lv_has ls 7 (lLv Φ b mb o i)) (hf : cells + 13 ≤ 601024 ∧ slots + 151 ≤ 7293034) (kk : ∀ (S1 : cS) (σ1 : mS) (w1 : Int64) (H1 : Heap) (ls1 : Array Slot), Sim1 S1 σ1 → lWd D Φ Dm mb o cL s.heap S1 σ1 w1 H1 → lv_has ls1 7 (lLv Φ b mb o i) → W p l e lR s m args below meth c H1 [] (cells + 13) (slots + 151) Q (F0 m 2797 ls1 [])) : W p l e lR s m args below meth c H [] cells slots Q (F0 m 2089 ls []) := by
  have hx := X.1.1
  have hb := X.1.2.1
  have hts := X.1.2.2.2.2.1
  have hl : lv_has ls 7 [(0, .ref b), (1, cv Φ (some 1)), (2, .ref mb), (3, .ref o), (4, .int i)] := hl
  obtain ⟨q, r, hq, hr, hag, hnx⟩ := hsim S σ (xs (i + 1).toNatClampNeg) hS 
  refine c_aload_n hx hb dL_law_2089 rfl (lv_at hl 1 rfl) ?_
  refine lv_aload_n hx hb dL_law_2090 rfl (lv_at hl 0 rfl) ?_
  refine lv_iload hx hb dL_law_2091 (lv_at hl 4 rfl) ?_
  refine lv_iconst (v := 1) hx hb dL_law_2093 (by decide) ?_
  refine lv_iadd hx hb dL_law_2094 ?_
  refine l_sld X Wd hin.2.1 dL_law_2095 ?_
  refine lv_aload_n hx hb dL_law_2096 rfl (lv_at hl 3 rfl) ?_
  refine l_w1 (rest := []) (v := (r.2.2 81)) X Wd (K_L_size l hl9 D Φ S o cL w 1 (xs (i + 1).toNatClampNeg) hrc hq hag.1) ⟨w_1457, ww_L_size⟩ hy_L_size rfl ⟨(Nat.le_of_ble_eq_true rfl), (Nat.le_of_ble_eq_true rfl)⟩ hl.1 (Nat.le_of_ble_eq_true rfl) dL_law_2097 rfl ⟨by omega, by omega⟩ (fun n9 w H hn hx9 Wd => ?_)
  refine c_istore hx hb dL_law_2100 hl (Nat.le_of_ble_eq_true rfl) (lvKa rfl (lvKa rfl (lvKa rfl (lvKa rfl (lvKi lvK0))))) rfl (fun ls (hl : lv_has ls 7 [(5, .int (r.2.2 81)), (0, .ref b), (1, cv Φ (some 1)), (2, .ref mb), (3, .ref o), (4, .int i)]) => ?_)
  refine lv_aload_n hx hb dL_law_2102 rfl (lv_at hl 3 rfl) ?_
  refine lv_aload_n hx hb dL_law_2103 rfl (lv_at hl 1 rfl) ?_
  refine lv_iload hx hb dL_law_2104 (lv_at hl 5 rfl) ?_
  refine lv_iconst (v := 1) hx hb dL_law_2106 (by decide) ?_
  refine lv_iadd hx hb dL_law_2107 ?_
  refine l_sld X Wd hin.2.1 dL_law_2108 ?_
  refine l_mw X Wd (l_mrun (n := 1) (rest := []) X Wd (K_size l Dm mb σ (xs (i + 1).toNatClampNeg) hr) ⟨w_2298, w_2299, w_2300, w_2301⟩ (hyX rfl (by decide +kernel)) rfl ⟨(Nat.le_of_ble_eq_true rfl), (Nat.le_of_ble_eq_true rfl)⟩ hl.1 (Nat.le_of_ble_eq_true rfl) dL_law_2109 rfl ⟨by omega, by omega⟩) (fun H Wd => ?_)
  refine W.eq (g2 := F0 m 2112 ls [.int r.1]) rfl ?_
  refine c_istore hx hb dL_law_2112 hl (Nat.le_of_ble_eq_true rfl) (lvKi (lvKa rfl (lvKa rfl (lvKa rfl (lvKa rfl (lvKa rfl lvK0)))))) rfl (fun ls (hl : lv_has ls 7 [(6, .int r.1), (5, .int (r.2.2 81)), (0, .ref b), (1, cv Φ (some 1)), (2, .ref mb), (3, .ref o), (4, .int i)]) => ?_)
  refine lv_aload_n hx hb dL_law_2114 rfl (lv_at hl 4 rfl) ?_
  refine l_mr (l_mrun (n := 0) (rest := []) X Wd (K_thrown l Dm mb r.2 (r := r.2.2 81) rfl) ⟨w_1838, w_1839, w_1840, w_1841⟩ (hyX rfl (by decide +kernel)) rfl ⟨(Nat.le_of_ble_eq_true rfl), (Nat.le_of_ble_eq_true rfl)⟩ hl.1 (Nat.le_of_ble_eq_true rfl) dL_law_2115 rfl ⟨by omega, by omega⟩) ?_
  refine lv_iload hx hb dL_law_2118 (lv_at hl 1 rfl) ?_
  refine lv_icmp_eq (tgt := 2125) hx hb dL_law_2120 rfl (fun _ => ?_) (fun hc => absurd rfl hc)
  refine lv_iload hx hb dL_law_2125 (lv_at hl 1 rfl) ?_
  refine lv_if_ne (tgt := 2142) hx hb dL_law_2127 rfl (fun hc => ?_) (fun hc => ?_)
  · refine lv_goto (tgt := 2797) hx hb dL_law_2142 rfl ?_
    refine W.widen (k := cells + 13) (n := slots + 151) (by omega) (by omega) ?_
    exact kk _ _ _ H ls (hnx _ hn) Wd (lv_sub hl [2, 3, 4, 5, 6] rfl)
  · obtain ⟨u, hu⟩ := lcd_z2 hag.1 hc
    have hw9 := hx9 u hu
    have hw8 := hag.2 u hu
    refine lv_aload_n hx hb dL_law_2130 rfl (lv_at hl 5 rfl) ?_
    refine lv_iconst (v := 0) hx hb dL_law_2131 (by decide) ?_
    refine l_lald X Wd dL_law_2132 ?_
    refine lv_iload hx hb dL_law_2133 (lv_at hl 0 rfl) ?_
    refine lv_i2l (v := lvN r.1) hx hb dL_law_2135 rfl ?_
    refine W.lcmp hx hb dL_law_2136 ?_
    refine lv_if_eq (tgt := 2142) hx hb dL_law_2137 rfl (fun _ => ?_) (fun hc => absurd (by rw [hw9, hw8]; exact lg_cmp_self _) hc)
    refine lv_goto (tgt := 2797) hx hb dL_law_2142 rfl ?_
    refine W.widen (k := cells + 13) (n := slots + 151) (by omega) (by omega) ?_
    exact kk _ _ _ H ls (hnx _ hn) Wd (lv_sub hl [2, 3, 4, 5, 6] rfl)
set_option maxRecDepth 20000 in
set_option maxHeartbeats 4000000 in
theorem L_case_27 {p : Program} {l : Launch} {e : Env} {s : State} {m : MethodId} {args : Array Value} {below : List Frame} {meth : Method} {c : Code} {H : Heap} {cells slots : Nat} {Q : State → Prop} {ls : Array Slot} {D : cD} {Φ : cG} {Dm : mD} {mb o : Nat} {cL : ClassId} {b L : Nat} {xs : Nat → Int32} {S : cS} {σ : mS} {w : Int64} {i : Int32} (hl9 : l.stackTraces = false) (X : lX p s m args meth c D Φ Dm mb o cL b L xs) {Sim Sim1 : cS → mS → Prop} (hsim : sim_seen Sim Sim1) (hrc : rc S (some 1) 11 = some 1) (hin : lIn i L) (Wd : lWd D Φ Dm mb o cL s.heap S σ w H) (hS : Sim S σ) (hl : lv_has ls 7 (lLv Φ b mb o i)) (hf : cells + 13 ≤ 601024 ∧ slots + 151 ≤ 7293034) (kk : ∀ (S1 : cS) (σ1 : mS) (w1 : Int64) (H1 : Heap) (ls1 : Array Slot), Sim1 S1 σ1 → lWd D Φ Dm mb o cL s.heap S1 σ1 w1 H1 → lv_has ls1 7 (lLv Φ b mb o i) → W p l e lR s m args below meth c H1 [] (cells + 13) (slots + 151) Q (F0 m 2797 ls1 [])) : W p l e lR s m args below meth c H [] cells slots Q (F0 m 2145 ls []) := by
  have hx := X.1.1
  have hb := X.1.2.1
  have hts := X.1.2.2.2.2.1
  have hl : lv_has ls 7 [(0, .ref b), (1, cv Φ (some 1)), (2, .ref mb), (3, .ref o), (4, .int i)] := hl
  obtain ⟨q, r, hq, hr, hag, hnx⟩ := hsim S σ (xs (i + 1).toNatClampNeg) (xs (i + 2).toNatClampNeg) hS 
  refine c_aload_n hx hb dL_law_2145 rfl (lv_at hl 1 rfl) ?_
  refine lv_aload_n hx hb dL_law_2146 rfl (lv_at hl 0 rfl) ?_
  refine lv_iload hx hb dL_law_2147 (lv_at hl 4 rfl) ?_
  refine lv_iconst (v := 1) hx hb dL_law_2149 (by decide) ?_
  refine lv_iadd hx hb dL_law_2150 ?_
  refine l_sld X Wd hin.2.1 dL_law_2151 ?_
  refine lv_aload_n hx hb dL_law_2152 rfl (lv_at hl 0 rfl) ?_
  refine lv_iload hx hb dL_law_2153 (lv_at hl 4 rfl) ?_
  refine lv_iconst (v := 2) hx hb dL_law_2155 (by decide) ?_
  refine lv_iadd hx hb dL_law_2156 ?_
  refine l_sld X Wd hin.2.2.1 dL_law_2157 ?_
  refine lv_aload_n hx hb dL_law_2158 rfl (lv_at hl 3 rfl) ?_
  refine l_w1 (rest := []) (v := (r.2.2 81)) X Wd (K_L_seen l hl9 D Φ S o cL w 1 (xs (i + 1).toNatClampNeg) (xs (i + 2).toNatClampNeg) hrc hq hag.1) ⟨w_1464, ww_L_seen⟩ hy_L_seen rfl ⟨(Nat.le_of_ble_eq_true rfl), (Nat.le_of_ble_eq_true rfl)⟩ hl.1 (Nat.le_of_ble_eq_true rfl) dL_law_2159 rfl ⟨by omega, by omega⟩ (fun n9 w H hn hx9 Wd => ?_)
  refine c_istore hx hb dL_law_2162 hl (Nat.le_of_ble_eq_true rfl) (lvKa rfl (lvKa rfl (lvKa rfl (lvKa rfl (lvKi lvK0))))) rfl (fun ls (hl : lv_has ls 7 [(5, .int (r.2.2 81)), (0, .ref b), (1, cv Φ (some 1)), (2, .ref mb), (3, .ref o), (4, .int i)]) => ?_)
  refine lv_aload_n hx hb dL_law_2164 rfl (lv_at hl 3 rfl) ?_
  refine lv_aload_n hx hb dL_law_2165 rfl (lv_at hl 1 rfl) ?_
  refine lv_iload hx hb dL_law_2166 (lv_at hl 5 rfl) ?_
  refine lv_iconst (v := 1) hx hb dL_law_2168 (by decide) ?_
  refine lv_iadd hx hb dL_law_2169 ?_
  refine l_sld X Wd hin.2.1 dL_law_2170 ?_
  refine lv_aload_n hx hb dL_law_2171 rfl (lv_at hl 1 rfl) ?_
  refine lv_iload hx hb dL_law_2172 (lv_at hl 5 rfl) ?_
  refine lv_iconst (v := 2) hx hb dL_law_2174 (by decide) ?_
  refine lv_iadd hx hb dL_law_2175 ?_
  refine l_sld X Wd hin.2.2.1 dL_law_2176 ?_
  refine l_mw X Wd (l_mrun (n := 2) (rest := []) X Wd (K_seen l Dm mb σ (xs (i + 1).toNatClampNeg) (xs (i + 2).toNatClampNeg) hr) ⟨w_2302, w_2303, w_2304, w_2305⟩ (hyX rfl (by decide +kernel)) rfl ⟨(Nat.le_of_ble_eq_true rfl), (Nat.le_of_ble_eq_true rfl)⟩ hl.1 (Nat.le_of_ble_eq_true rfl) dL_law_2177 rfl ⟨by omega, by omega⟩) (fun H Wd => ?_)
  refine W.eq (g2 := F0 m 2180 ls [.int r.1]) rfl ?_
  refine c_istore hx hb dL_law_2180 hl (Nat.le_of_ble_eq_true rfl) (lvKi (lvKa rfl (lvKa rfl (lvKa rfl (lvKa rfl (lvKa rfl lvK0)))))) rfl (fun ls (hl : lv_has ls 7 [(6, .int r.1), (5, .int (r.2.2 81)), (0, .ref b), (1, cv Φ (some 1)), (2, .ref mb), (3, .ref o), (4, .int i)]) => ?_)
  refine lv_aload_n hx hb dL_law_2182 rfl (lv_at hl 4 rfl) ?_
  refine l_mr (l_mrun (n := 0) (rest := []) X Wd (K_thrown l Dm mb r.2 (r := r.2.2 81) rfl) ⟨w_1838, w_1839, w_1840, w_1841⟩ (hyX rfl (by decide +kernel)) rfl ⟨(Nat.le_of_ble_eq_true rfl), (Nat.le_of_ble_eq_true rfl)⟩ hl.1 (Nat.le_of_ble_eq_true rfl) dL_law_2183 rfl ⟨by omega, by omega⟩) ?_
  refine lv_iload hx hb dL_law_2186 (lv_at hl 1 rfl) ?_
  refine lv_icmp_eq (tgt := 2193) hx hb dL_law_2188 rfl (fun _ => ?_) (fun hc => absurd rfl hc)
  refine lv_iload hx hb dL_law_2193 (lv_at hl 1 rfl) ?_
  refine lv_if_ne (tgt := 2210) hx hb dL_law_2195 rfl (fun hc => ?_) (fun hc => ?_)
  · refine lv_goto (tgt := 2797) hx hb dL_law_2210 rfl ?_
    refine W.widen (k := cells + 13) (n := slots + 151) (by omega) (by omega) ?_
    exact kk _ _ _ H ls (hnx _ hn) Wd (lv_sub hl [2, 3, 4, 5, 6] rfl)
  · obtain ⟨u, hu⟩ := lcd_z3 hag.1 hc
    have hw9 := hx9 u hu
    have hw8 := hag.2 u hu
    refine lv_aload_n hx hb dL_law_2198 rfl (lv_at hl 5 rfl) ?_
    refine lv_iconst (v := 0) hx hb dL_law_2199 (by decide) ?_
    refine l_lald X Wd dL_law_2200 ?_
    refine lv_iload hx hb dL_law_2201 (lv_at hl 0 rfl) ?_
    refine lv_i2l (v := lvN r.1) hx hb dL_law_2203 rfl ?_
    refine W.lcmp hx hb dL_law_2204 ?_
    refine lv_if_eq (tgt := 2210) hx hb dL_law_2205 rfl (fun _ => ?_) (fun hc => absurd (by rw [hw9, hw8]; exact lg_cmp_self _) hc)
    refine lv_goto (tgt := 2797) hx hb dL_law_2210 rfl ?_
    refine W.widen (k := cells + 13) (n := slots + 151) (by omega) (by omega) ?_
    exact kk _ _ _ H ls (hnx _ hn) Wd (lv_sub hl [2, 3, 4, 5, 6] rfl)
set_option maxRecDepth 20000 in
set_option maxHeartbeats 4000000 in
theorem L_case_28 {p : Program} {l : Launch} {e : Env} {s : State} {m : MethodId} {args : Array Value} {below : List Frame} {meth : Method} {c : Code} {H : Heap} {cells slots : Nat} {Q : State → Prop} {ls : Array Slot} {D : cD} {Φ : cG} {Dm : mD} {mb o : Nat} {cL : ClassId} {b L : Nat} {xs : Nat → Int32} {S : cS} {σ : mS} {w : Int64} {i : Int32} (hl9 : l.stackTraces = false) (X : lX p s m args meth c D Φ Dm mb o cL b L xs) {Sim Sim1 : cS → mS → Prop} (hsim : sim_made Sim Sim1) (hrc : rc S (some 1) 11 = some 1) (hin : lIn i L) (Wd : lWd D Φ Dm mb o cL s.heap S σ w H) (hS : Sim S σ) (hl : lv_has ls 7 (lLv Φ b mb o i)) (hf : cells + 13 ≤ 601024 ∧ slots + 151 ≤ 7293034) (kk : ∀ (S1 : cS) (σ1 : mS) (w1 : Int64) (H1 : Heap) (ls1 : Array Slot), Sim1 S1 σ1 → lWd D Φ Dm mb o cL s.heap S1 σ1 w1 H1 → lv_has ls1 7 (lLv Φ b mb o i) → W p l e lR s m args below meth c H1 [] (cells + 13) (slots + 151) Q (F0 m 2797 ls1 [])) : W p l e lR s m args below meth c H [] cells slots Q (F0 m 2213 ls []) := by
  have hx := X.1.1
  have hb := X.1.2.1
  have hts := X.1.2.2.2.2.1
  have hl : lv_has ls 7 [(0, .ref b), (1, cv Φ (some 1)), (2, .ref mb), (3, .ref o), (4, .int i)] := hl
  obtain ⟨q, r, hq, hr, hag, hnx⟩ := hsim S σ (xs (i + 1).toNatClampNeg) hS 
  refine c_aload_n hx hb dL_law_2213 rfl (lv_at hl 1 rfl) ?_
  refine lv_aload_n hx hb dL_law_2214 rfl (lv_at hl 0 rfl) ?_
  refine lv_iload hx hb dL_law_2215 (lv_at hl 4 rfl) ?_
  refine lv_iconst (v := 1) hx hb dL_law_2217 (by decide) ?_
  refine lv_iadd hx hb dL_law_2218 ?_
  refine l_sld X Wd hin.2.1 dL_law_2219 ?_
  refine lv_aload_n hx hb dL_law_2220 rfl (lv_at hl 3 rfl) ?_
  refine l_w1 (rest := []) (v := (r.2.2 81)) X Wd (K_L_made l hl9 D Φ S o cL w 1 (xs (i + 1).toNatClampNeg) hrc hq hag.1) ⟨w_1472, ww_L_made⟩ hy_L_made rfl ⟨(Nat.le_of_ble_eq_true rfl), (Nat.le_of_ble_eq_true rfl)⟩ hl.1 (Nat.le_of_ble_eq_true rfl) dL_law_2221 rfl ⟨by omega, by omega⟩ (fun n9 w H hn hx9 Wd => ?_)
  refine c_istore hx hb dL_law_2224 hl (Nat.le_of_ble_eq_true rfl) (lvKa rfl (lvKa rfl (lvKa rfl (lvKa rfl (lvKi lvK0))))) rfl (fun ls (hl : lv_has ls 7 [(5, .int (r.2.2 81)), (0, .ref b), (1, cv Φ (some 1)), (2, .ref mb), (3, .ref o), (4, .int i)]) => ?_)
  refine lv_aload_n hx hb dL_law_2226 rfl (lv_at hl 3 rfl) ?_
  refine lv_aload_n hx hb dL_law_2227 rfl (lv_at hl 1 rfl) ?_
  refine lv_iload hx hb dL_law_2228 (lv_at hl 5 rfl) ?_
  refine lv_iconst (v := 1) hx hb dL_law_2230 (by decide) ?_
  refine lv_iadd hx hb dL_law_2231 ?_
  refine l_sld X Wd hin.2.1 dL_law_2232 ?_
  refine l_mw X Wd (l_mrun (n := 1) (rest := []) X Wd (K_made l Dm mb σ (xs (i + 1).toNatClampNeg) hr) ⟨w_2306, w_2307, w_2308, w_2309⟩ (hyX rfl (by decide +kernel)) rfl ⟨(Nat.le_of_ble_eq_true rfl), (Nat.le_of_ble_eq_true rfl)⟩ hl.1 (Nat.le_of_ble_eq_true rfl) dL_law_2233 rfl ⟨by omega, by omega⟩) (fun H Wd => ?_)
  refine W.eq (g2 := F0 m 2236 ls [.int r.1]) rfl ?_
  refine c_istore hx hb dL_law_2236 hl (Nat.le_of_ble_eq_true rfl) (lvKi (lvKa rfl (lvKa rfl (lvKa rfl (lvKa rfl (lvKa rfl lvK0)))))) rfl (fun ls (hl : lv_has ls 7 [(6, .int r.1), (5, .int (r.2.2 81)), (0, .ref b), (1, cv Φ (some 1)), (2, .ref mb), (3, .ref o), (4, .int i)]) => ?_)
  refine lv_aload_n hx hb dL_law_2238 rfl (lv_at hl 4 rfl) ?_
  refine l_mr (l_mrun (n := 0) (rest := []) X Wd (K_thrown l Dm mb r.2 (r := r.2.2 81) rfl) ⟨w_1838, w_1839, w_1840, w_1841⟩ (hyX rfl (by decide +kernel)) rfl ⟨(Nat.le_of_ble_eq_true rfl), (Nat.le_of_ble_eq_true rfl)⟩ hl.1 (Nat.le_of_ble_eq_true rfl) dL_law_2239 rfl ⟨by omega, by omega⟩) ?_
  refine lv_iload hx hb dL_law_2242 (lv_at hl 1 rfl) ?_
  refine lv_icmp_eq (tgt := 2249) hx hb dL_law_2244 rfl (fun _ => ?_) (fun hc => absurd rfl hc)
  refine lv_iload hx hb dL_law_2249 (lv_at hl 1 rfl) ?_
  refine lv_if_ne (tgt := 2266) hx hb dL_law_2251 rfl (fun hc => ?_) (fun hc => ?_)
  · refine lv_goto (tgt := 2797) hx hb dL_law_2266 rfl ?_
    refine W.widen (k := cells + 13) (n := slots + 151) (by omega) (by omega) ?_
    exact kk _ _ _ H ls (hnx _ hn) Wd (lv_sub hl [2, 3, 4, 5, 6] rfl)
  · obtain ⟨u, hu⟩ := lcd_z2 hag.1 hc
    have hw9 := hx9 u hu
    have hw8 := hag.2 u hu
    refine lv_aload_n hx hb dL_law_2254 rfl (lv_at hl 5 rfl) ?_
    refine lv_iconst (v := 0) hx hb dL_law_2255 (by decide) ?_
    refine l_lald X Wd dL_law_2256 ?_
    refine lv_iload hx hb dL_law_2257 (lv_at hl 0 rfl) ?_
    refine lv_i2l (v := lvN r.1) hx hb dL_law_2259 rfl ?_
    refine W.lcmp hx hb dL_law_2260 ?_
    refine lv_if_eq (tgt := 2266) hx hb dL_law_2261 rfl (fun _ => ?_) (fun hc => absurd (by rw [hw9, hw8]; exact lg_cmp_self _) hc)
    refine lv_goto (tgt := 2797) hx hb dL_law_2266 rfl ?_
    refine W.widen (k := cells + 13) (n := slots + 151) (by omega) (by omega) ?_
    exact kk _ _ _ H ls (hnx _ hn) Wd (lv_sub hl [2, 3, 4, 5, 6] rfl)
set_option maxRecDepth 20000 in
set_option maxHeartbeats 4000000 in
theorem L_case_29 {p : Program} {l : Launch} {e : Env} {s : State} {m : MethodId} {args : Array Value} {below : List Frame} {meth : Method} {c : Code} {H : Heap} {cells slots : Nat} {Q : State → Prop} {ls : Array Slot} {D : cD} {Φ : cG} {Dm : mD} {mb o : Nat} {cL : ClassId} {b L : Nat} {xs : Nat → Int32} {S : cS} {σ : mS} {w : Int64} {i : Int32} (hl9 : l.stackTraces = false) (X : lX p s m args meth c D Φ Dm mb o cL b L xs) {Sim Sim1 : cS → mS → Prop} (hsim : sim_why Sim Sim1) (hrc : rc S (some 1) 11 = some 1) (hin : lIn i L) (Wd : lWd D Φ Dm mb o cL s.heap S σ w H) (hS : Sim S σ) (hl : lv_has ls 7 (lLv Φ b mb o i)) (hf : cells + 13 ≤ 601024 ∧ slots + 151 ≤ 7293034) (kk : ∀ (S1 : cS) (σ1 : mS) (w1 : Int64) (H1 : Heap) (ls1 : Array Slot), Sim1 S1 σ1 → lWd D Φ Dm mb o cL s.heap S1 σ1 w1 H1 → lv_has ls1 7 (lLv Φ b mb o i) → W p l e lR s m args below meth c H1 [] (cells + 13) (slots + 151) Q (F0 m 2797 ls1 [])) : W p l e lR s m args below meth c H [] cells slots Q (F0 m 2269 ls []) := by
  have hx := X.1.1
  have hb := X.1.2.1
  have hts := X.1.2.2.2.2.1
  have hl : lv_has ls 7 [(0, .ref b), (1, cv Φ (some 1)), (2, .ref mb), (3, .ref o), (4, .int i)] := hl
  obtain ⟨q, r, hq, hr, hag, hnx⟩ := hsim S σ (xs (i + 1).toNatClampNeg) (xs (i + 2).toNatClampNeg) (xs (i + 3).toNatClampNeg) hS 
  refine c_aload_n hx hb dL_law_2269 rfl (lv_at hl 1 rfl) ?_
  refine lv_aload_n hx hb dL_law_2270 rfl (lv_at hl 0 rfl) ?_
  refine lv_iload hx hb dL_law_2271 (lv_at hl 4 rfl) ?_
  refine lv_iconst (v := 1) hx hb dL_law_2273 (by decide) ?_
  refine lv_iadd hx hb dL_law_2274 ?_
  refine l_sld X Wd hin.2.1 dL_law_2275 ?_
  refine lv_aload_n hx hb dL_law_2276 rfl (lv_at hl 0 rfl) ?_
  refine lv_iload hx hb dL_law_2277 (lv_at hl 4 rfl) ?_
  refine lv_iconst (v := 2) hx hb dL_law_2279 (by decide) ?_
  refine lv_iadd hx hb dL_law_2280 ?_
  refine l_sld X Wd hin.2.2.1 dL_law_2281 ?_
  refine lv_aload_n hx hb dL_law_2282 rfl (lv_at hl 0 rfl) ?_
  refine lv_iload hx hb dL_law_2283 (lv_at hl 4 rfl) ?_
  refine lv_iconst (v := 3) hx hb dL_law_2285 (by decide) ?_
  refine lv_iadd hx hb dL_law_2286 ?_
  refine l_sld X Wd hin.2.2.2.1 dL_law_2287 ?_
  refine lv_aload_n hx hb dL_law_2288 rfl (lv_at hl 3 rfl) ?_
  refine l_w1 (rest := []) (v := (r.2.2 81)) X Wd (K_L_why l hl9 D Φ S o cL w 1 (xs (i + 1).toNatClampNeg) (xs (i + 2).toNatClampNeg) (xs (i + 3).toNatClampNeg) hrc hq hag.1) ⟨w_1483, ww_L_why⟩ hy_L_why rfl ⟨(Nat.le_of_ble_eq_true rfl), (Nat.le_of_ble_eq_true rfl)⟩ hl.1 (Nat.le_of_ble_eq_true rfl) dL_law_2289 rfl ⟨by omega, by omega⟩ (fun n9 w H hn hx9 Wd => ?_)
  refine c_istore hx hb dL_law_2292 hl (Nat.le_of_ble_eq_true rfl) (lvKa rfl (lvKa rfl (lvKa rfl (lvKa rfl (lvKi lvK0))))) rfl (fun ls (hl : lv_has ls 7 [(5, .int (r.2.2 81)), (0, .ref b), (1, cv Φ (some 1)), (2, .ref mb), (3, .ref o), (4, .int i)]) => ?_)
  refine lv_aload_n hx hb dL_law_2294 rfl (lv_at hl 3 rfl) ?_
  refine lv_aload_n hx hb dL_law_2295 rfl (lv_at hl 1 rfl) ?_
  refine lv_iload hx hb dL_law_2296 (lv_at hl 5 rfl) ?_
  refine lv_iconst (v := 1) hx hb dL_law_2298 (by decide) ?_
  refine lv_iadd hx hb dL_law_2299 ?_
  refine l_sld X Wd hin.2.1 dL_law_2300 ?_
  refine lv_aload_n hx hb dL_law_2301 rfl (lv_at hl 1 rfl) ?_
  refine lv_iload hx hb dL_law_2302 (lv_at hl 5 rfl) ?_
  refine lv_iconst (v := 2) hx hb dL_law_2304 (by decide) ?_
  refine lv_iadd hx hb dL_law_2305 ?_
  refine l_sld X Wd hin.2.2.1 dL_law_2306 ?_
  refine lv_aload_n hx hb dL_law_2307 rfl (lv_at hl 1 rfl) ?_
  refine lv_iload hx hb dL_law_2308 (lv_at hl 5 rfl) ?_
  refine lv_iconst (v := 3) hx hb dL_law_2310 (by decide) ?_
  refine lv_iadd hx hb dL_law_2311 ?_
  refine l_sld X Wd hin.2.2.2.1 dL_law_2312 ?_
  refine l_mw X Wd (l_mrun (n := 3) (rest := []) X Wd (K_why l Dm mb σ (xs (i + 1).toNatClampNeg) (xs (i + 2).toNatClampNeg) (xs (i + 3).toNatClampNeg) hr) ⟨w_2310, w_2311, w_2312, w_2313⟩ (hyX rfl (by decide +kernel)) rfl ⟨(Nat.le_of_ble_eq_true rfl), (Nat.le_of_ble_eq_true rfl)⟩ hl.1 (Nat.le_of_ble_eq_true rfl) dL_law_2313 rfl ⟨by omega, by omega⟩) (fun H Wd => ?_)
  refine W.eq (g2 := F0 m 2316 ls [.int r.1]) rfl ?_
  refine c_istore hx hb dL_law_2316 hl (Nat.le_of_ble_eq_true rfl) (lvKi (lvKa rfl (lvKa rfl (lvKa rfl (lvKa rfl (lvKa rfl lvK0)))))) rfl (fun ls (hl : lv_has ls 7 [(6, .int r.1), (5, .int (r.2.2 81)), (0, .ref b), (1, cv Φ (some 1)), (2, .ref mb), (3, .ref o), (4, .int i)]) => ?_)
  refine lv_aload_n hx hb dL_law_2318 rfl (lv_at hl 4 rfl) ?_
  refine l_mr (l_mrun (n := 0) (rest := []) X Wd (K_thrown l Dm mb r.2 (r := r.2.2 81) rfl) ⟨w_1838, w_1839, w_1840, w_1841⟩ (hyX rfl (by decide +kernel)) rfl ⟨(Nat.le_of_ble_eq_true rfl), (Nat.le_of_ble_eq_true rfl)⟩ hl.1 (Nat.le_of_ble_eq_true rfl) dL_law_2319 rfl ⟨by omega, by omega⟩) ?_
  refine lv_iload hx hb dL_law_2322 (lv_at hl 1 rfl) ?_
  refine lv_icmp_eq (tgt := 2329) hx hb dL_law_2324 rfl (fun _ => ?_) (fun hc => absurd rfl hc)
  refine lv_iload hx hb dL_law_2329 (lv_at hl 1 rfl) ?_
  refine lv_if_ne (tgt := 2346) hx hb dL_law_2331 rfl (fun hc => ?_) (fun hc => ?_)
  · refine lv_goto (tgt := 2797) hx hb dL_law_2346 rfl ?_
    refine W.widen (k := cells + 13) (n := slots + 151) (by omega) (by omega) ?_
    exact kk _ _ _ H ls (hnx _ hn) Wd (lv_sub hl [2, 3, 4, 5, 6] rfl)
  · obtain ⟨u, hu⟩ := lcd_z3 hag.1 hc
    have hw9 := hx9 u hu
    have hw8 := hag.2 u hu
    refine lv_aload_n hx hb dL_law_2334 rfl (lv_at hl 5 rfl) ?_
    refine lv_iconst (v := 0) hx hb dL_law_2335 (by decide) ?_
    refine l_lald X Wd dL_law_2336 ?_
    refine lv_iload hx hb dL_law_2337 (lv_at hl 0 rfl) ?_
    refine lv_i2l (v := lvN r.1) hx hb dL_law_2339 rfl ?_
    refine W.lcmp hx hb dL_law_2340 ?_
    refine lv_if_eq (tgt := 2346) hx hb dL_law_2341 rfl (fun _ => ?_) (fun hc => absurd (by rw [hw9, hw8]; exact lg_cmp_self _) hc)
    refine lv_goto (tgt := 2797) hx hb dL_law_2346 rfl ?_
    refine W.widen (k := cells + 13) (n := slots + 151) (by omega) (by omega) ?_
    exact kk _ _ _ H ls (hnx _ hn) Wd (lv_sub hl [2, 3, 4, 5, 6] rfl)
set_option maxRecDepth 20000 in
set_option maxHeartbeats 4000000 in
theorem L_case_30 {p : Program} {l : Launch} {e : Env} {s : State} {m : MethodId} {args : Array Value} {below : List Frame} {meth : Method} {c : Code} {H : Heap} {cells slots : Nat} {Q : State → Prop} {ls : Array Slot} {D : cD} {Φ : cG} {Dm : mD} {mb o : Nat} {cL : ClassId} {b L : Nat} {xs : Nat → Int32} {S : cS} {σ : mS} {w : Int64} {i : Int32} (hl9 : l.stackTraces = false) (X : lX p s m args meth c D Φ Dm mb o cL b L xs) {Sim Sim1 : cS → mS → Prop} (hsim : sim_valueAnew Sim Sim1) (hrc : rc S (some 1) 11 = some 1) (hin : lIn i L) (Wd : lWd D Φ Dm mb o cL s.heap S σ w H) (hS : Sim S σ) (hl : lv_has ls 7 (lLv Φ b mb o i)) (hf : cells + 13 ≤ 601024 ∧ slots + 151 ≤ 7293034) (kk : ∀ (S1 : cS) (σ1 : mS) (w1 : Int64) (H1 : Heap) (ls1 : Array Slot), Sim1 S1 σ1 → lWd D Φ Dm mb o cL s.heap S1 σ1 w1 H1 → lv_has ls1 7 (lLv Φ b mb o i) → W p l e lR s m args below meth c H1 [] (cells + 13) (slots + 151) Q (F0 m 2797 ls1 [])) : W p l e lR s m args below meth c H [] cells slots Q (F0 m 2349 ls []) := by
  have hx := X.1.1
  have hb := X.1.2.1
  have hts := X.1.2.2.2.2.1
  have hl : lv_has ls 7 [(0, .ref b), (1, cv Φ (some 1)), (2, .ref mb), (3, .ref o), (4, .int i)] := hl
  obtain ⟨q, r, hq, hr, hag, hnx⟩ := hsim S σ (xs (i + 1).toNatClampNeg) (xs (i + 2).toNatClampNeg) hS 
  refine c_aload_n hx hb dL_law_2349 rfl (lv_at hl 1 rfl) ?_
  refine lv_aload_n hx hb dL_law_2350 rfl (lv_at hl 0 rfl) ?_
  refine lv_iload hx hb dL_law_2351 (lv_at hl 4 rfl) ?_
  refine lv_iconst (v := 1) hx hb dL_law_2353 (by decide) ?_
  refine lv_iadd hx hb dL_law_2354 ?_
  refine l_sld X Wd hin.2.1 dL_law_2355 ?_
  refine lv_aload_n hx hb dL_law_2356 rfl (lv_at hl 0 rfl) ?_
  refine lv_iload hx hb dL_law_2357 (lv_at hl 4 rfl) ?_
  refine lv_iconst (v := 2) hx hb dL_law_2359 (by decide) ?_
  refine lv_iadd hx hb dL_law_2360 ?_
  refine l_sld X Wd hin.2.2.1 dL_law_2361 ?_
  refine lv_aload_n hx hb dL_law_2362 rfl (lv_at hl 3 rfl) ?_
  refine l_w1 (rest := []) (v := (r.2.2 81)) X Wd (K_L_valueAnew l hl9 D Φ S o cL w 1 (xs (i + 1).toNatClampNeg) (xs (i + 2).toNatClampNeg) hrc hq hag.1) ⟨w_1498, ww_L_valueAnew⟩ hy_L_valueAnew rfl ⟨(Nat.le_of_ble_eq_true rfl), (Nat.le_of_ble_eq_true rfl)⟩ hl.1 (Nat.le_of_ble_eq_true rfl) dL_law_2363 rfl ⟨by omega, by omega⟩ (fun n9 w H hn hx9 Wd => ?_)
  refine c_istore hx hb dL_law_2366 hl (Nat.le_of_ble_eq_true rfl) (lvKa rfl (lvKa rfl (lvKa rfl (lvKa rfl (lvKi lvK0))))) rfl (fun ls (hl : lv_has ls 7 [(5, .int (r.2.2 81)), (0, .ref b), (1, cv Φ (some 1)), (2, .ref mb), (3, .ref o), (4, .int i)]) => ?_)
  refine lv_aload_n hx hb dL_law_2368 rfl (lv_at hl 3 rfl) ?_
  refine lv_aload_n hx hb dL_law_2369 rfl (lv_at hl 1 rfl) ?_
  refine lv_iload hx hb dL_law_2370 (lv_at hl 5 rfl) ?_
  refine lv_iconst (v := 1) hx hb dL_law_2372 (by decide) ?_
  refine lv_iadd hx hb dL_law_2373 ?_
  refine l_sld X Wd hin.2.1 dL_law_2374 ?_
  refine lv_aload_n hx hb dL_law_2375 rfl (lv_at hl 1 rfl) ?_
  refine lv_iload hx hb dL_law_2376 (lv_at hl 5 rfl) ?_
  refine lv_iconst (v := 2) hx hb dL_law_2378 (by decide) ?_
  refine lv_iadd hx hb dL_law_2379 ?_
  refine l_sld X Wd hin.2.2.1 dL_law_2380 ?_
  refine l_mw X Wd (l_mrun (n := 2) (rest := []) X Wd (K_valueAnew l Dm mb σ (xs (i + 1).toNatClampNeg) (xs (i + 2).toNatClampNeg) hr) ⟨w_2314, w_2315, w_2316, w_2317⟩ (hyX rfl (by decide +kernel)) rfl ⟨(Nat.le_of_ble_eq_true rfl), (Nat.le_of_ble_eq_true rfl)⟩ hl.1 (Nat.le_of_ble_eq_true rfl) dL_law_2381 rfl ⟨by omega, by omega⟩) (fun H Wd => ?_)
  refine W.eq (g2 := F0 m 2384 ls [.int r.1]) rfl ?_
  refine c_istore hx hb dL_law_2384 hl (Nat.le_of_ble_eq_true rfl) (lvKi (lvKa rfl (lvKa rfl (lvKa rfl (lvKa rfl (lvKa rfl lvK0)))))) rfl (fun ls (hl : lv_has ls 7 [(6, .int r.1), (5, .int (r.2.2 81)), (0, .ref b), (1, cv Φ (some 1)), (2, .ref mb), (3, .ref o), (4, .int i)]) => ?_)
  refine lv_aload_n hx hb dL_law_2386 rfl (lv_at hl 4 rfl) ?_
  refine l_mr (l_mrun (n := 0) (rest := []) X Wd (K_thrown l Dm mb r.2 (r := r.2.2 81) rfl) ⟨w_1838, w_1839, w_1840, w_1841⟩ (hyX rfl (by decide +kernel)) rfl ⟨(Nat.le_of_ble_eq_true rfl), (Nat.le_of_ble_eq_true rfl)⟩ hl.1 (Nat.le_of_ble_eq_true rfl) dL_law_2387 rfl ⟨by omega, by omega⟩) ?_
  refine lv_iload hx hb dL_law_2390 (lv_at hl 1 rfl) ?_
  refine lv_icmp_eq (tgt := 2397) hx hb dL_law_2392 rfl (fun _ => ?_) (fun hc => absurd rfl hc)
  refine lv_iload hx hb dL_law_2397 (lv_at hl 1 rfl) ?_
  refine lv_if_ne (tgt := 2414) hx hb dL_law_2399 rfl (fun hc => ?_) (fun hc => ?_)
  · refine lv_goto (tgt := 2797) hx hb dL_law_2414 rfl ?_
    refine W.widen (k := cells + 13) (n := slots + 151) (by omega) (by omega) ?_
    exact kk _ _ _ H ls (hnx _ hn) Wd (lv_sub hl [2, 3, 4, 5, 6] rfl)
  · obtain ⟨u, hu⟩ := lcd_z3 hag.1 hc
    have hw9 := hx9 u hu
    have hw8 := hag.2 u hu
    refine lv_aload_n hx hb dL_law_2402 rfl (lv_at hl 5 rfl) ?_
    refine lv_iconst (v := 0) hx hb dL_law_2403 (by decide) ?_
    refine l_lald X Wd dL_law_2404 ?_
    refine lv_iload hx hb dL_law_2405 (lv_at hl 0 rfl) ?_
    refine lv_i2l (v := lvN r.1) hx hb dL_law_2407 rfl ?_
    refine W.lcmp hx hb dL_law_2408 ?_
    refine lv_if_eq (tgt := 2414) hx hb dL_law_2409 rfl (fun _ => ?_) (fun hc => absurd (by rw [hw9, hw8]; exact lg_cmp_self _) hc)
    refine lv_goto (tgt := 2797) hx hb dL_law_2414 rfl ?_
    refine W.widen (k := cells + 13) (n := slots + 151) (by omega) (by omega) ?_
    exact kk _ _ _ H ls (hnx _ hn) Wd (lv_sub hl [2, 3, 4, 5, 6] rfl)
set_option maxRecDepth 20000 in
set_option maxHeartbeats 4000000 in
theorem L_case_31 {p : Program} {l : Launch} {e : Env} {s : State} {m : MethodId} {args : Array Value} {below : List Frame} {meth : Method} {c : Code} {H : Heap} {cells slots : Nat} {Q : State → Prop} {ls : Array Slot} {D : cD} {Φ : cG} {Dm : mD} {mb o : Nat} {cL : ClassId} {b L : Nat} {xs : Nat → Int32} {S : cS} {σ : mS} {w : Int64} {i : Int32} (hl9 : l.stackTraces = false) (X : lX p s m args meth c D Φ Dm mb o cL b L xs) {Sim Sim1 : cS → mS → Prop} (hsim : sim_marked Sim Sim1) (hrc : rc S (some 1) 11 = some 1) (hin : lIn i L) (Wd : lWd D Φ Dm mb o cL s.heap S σ w H) (hS : Sim S σ) (hl : lv_has ls 7 (lLv Φ b mb o i)) (hf : cells + 13 ≤ 601024 ∧ slots + 151 ≤ 7293034) (kk : ∀ (S1 : cS) (σ1 : mS) (w1 : Int64) (H1 : Heap) (ls1 : Array Slot), Sim1 S1 σ1 → lWd D Φ Dm mb o cL s.heap S1 σ1 w1 H1 → lv_has ls1 7 (lLv Φ b mb o i) → W p l e lR s m args below meth c H1 [] (cells + 13) (slots + 151) Q (F0 m 2797 ls1 [])) : W p l e lR s m args below meth c H [] cells slots Q (F0 m 2417 ls []) := by
  have hx := X.1.1
  have hb := X.1.2.1
  have hts := X.1.2.2.2.2.1
  have hl : lv_has ls 7 [(0, .ref b), (1, cv Φ (some 1)), (2, .ref mb), (3, .ref o), (4, .int i)] := hl
  obtain ⟨hS, r, hq, hr⟩ := hsim S σ hS
  refine c_aload_n hx hb dL_law_2417 rfl (lv_at hl 1 rfl) ?_
  refine c_cr (c_runV (rest := []) X.1 (K_X11_marked l D Φ S 1 hq) hrc (Nat.le_of_ble_eq_true rfl) ⟨w_715, ww_X11_marked⟩ rfl hy_X11_marked rfl ⟨(Nat.le_of_ble_eq_true rfl), (Nat.le_of_ble_eq_true rfl)⟩ Wd.1 (Wd.S X) hl.1 (Nat.le_of_ble_eq_true rfl) dL_law_2418 rfl ⟨by omega, by omega⟩) ?_
  refine lv_aload_n hx hb dL_law_2421 rfl (lv_at hl 2 rfl) ?_
  refine l_mr (l_mrun (n := 0) (rest := [.int r]) X Wd (K_marked l Dm mb σ hr) ⟨w_2318, w_2319, w_2320, w_2321⟩ (hyX rfl (by decide +kernel)) rfl ⟨(Nat.le_of_ble_eq_true rfl), (Nat.le_of_ble_eq_true rfl)⟩ hl.1 (Nat.le_of_ble_eq_true rfl) dL_law_2422 rfl ⟨by omega, by omega⟩) ?_
  refine lv_icmp_eq (tgt := 2797) hx hb dL_law_2425 rfl (fun _ => ?_) (fun hc => absurd rfl hc)
  refine W.widen (k := cells + 13) (n := slots + 151) (by omega) (by omega) ?_
  exact kk S σ w H ls hS Wd (lv_sub hl [0, 1, 2, 3, 4] rfl)
set_option maxRecDepth 20000 in
set_option maxHeartbeats 4000000 in
theorem L_case_32 {p : Program} {l : Launch} {e : Env} {s : State} {m : MethodId} {args : Array Value} {below : List Frame} {meth : Method} {c : Code} {H : Heap} {cells slots : Nat} {Q : State → Prop} {ls : Array Slot} {D : cD} {Φ : cG} {Dm : mD} {mb o : Nat} {cL : ClassId} {b L : Nat} {xs : Nat → Int32} {S : cS} {σ : mS} {w : Int64} {i : Int32} (hl9 : l.stackTraces = false) (X : lX p s m args meth c D Φ Dm mb o cL b L xs) {Sim Sim1 : cS → mS → Prop} (hsim : sim_flushes Sim Sim1) (hrc : rc S (some 1) 11 = some 1) (hin : lIn i L) (Wd : lWd D Φ Dm mb o cL s.heap S σ w H) (hS : Sim S σ) (hl : lv_has ls 7 (lLv Φ b mb o i)) (hf : cells + 13 ≤ 601024 ∧ slots + 151 ≤ 7293034) (kk : ∀ (S1 : cS) (σ1 : mS) (w1 : Int64) (H1 : Heap) (ls1 : Array Slot), Sim1 S1 σ1 → lWd D Φ Dm mb o cL s.heap S1 σ1 w1 H1 → lv_has ls1 7 (lLv Φ b mb o i) → W p l e lR s m args below meth c H1 [] (cells + 13) (slots + 151) Q (F0 m 2797 ls1 [])) : W p l e lR s m args below meth c H [] cells slots Q (F0 m 2430 ls []) := by
  have hx := X.1.1
  have hb := X.1.2.1
  have hts := X.1.2.2.2.2.1
  have hl : lv_has ls 7 [(0, .ref b), (1, cv Φ (some 1)), (2, .ref mb), (3, .ref o), (4, .int i)] := hl
  obtain ⟨hS, r, hq, hr⟩ := hsim S σ hS
  refine c_aload_n hx hb dL_law_2430 rfl (lv_at hl 1 rfl) ?_
  refine c_cr (c_runV (rest := []) X.1 (K_X11_flushes l D Φ S 1 hq) hrc (Nat.le_of_ble_eq_true rfl) ⟨w_719, ww_X11_flushes⟩ rfl hy_X11_flushes rfl ⟨(Nat.le_of_ble_eq_true rfl), (Nat.le_of_ble_eq_true rfl)⟩ Wd.1 (Wd.S X) hl.1 (Nat.le_of_ble_eq_true rfl) dL_law_2431 rfl ⟨by omega, by omega⟩) ?_
  refine lv_aload_n hx hb dL_law_2434 rfl (lv_at hl 2 rfl) ?_
  refine l_mr (l_mrun (n := 0) (rest := [.int r]) X Wd (K_flushes l Dm mb σ hr) ⟨w_2322, w_2323, w_2324, w_2325⟩ (hyX rfl (by decide +kernel)) rfl ⟨(Nat.le_of_ble_eq_true rfl), (Nat.le_of_ble_eq_true rfl)⟩ hl.1 (Nat.le_of_ble_eq_true rfl) dL_law_2435 rfl ⟨by omega, by omega⟩) ?_
  refine lv_icmp_eq (tgt := 2797) hx hb dL_law_2438 rfl (fun _ => ?_) (fun hc => absurd rfl hc)
  refine W.widen (k := cells + 13) (n := slots + 151) (by omega) (by omega) ?_
  exact kk S σ w H ls hS Wd (lv_sub hl [0, 1, 2, 3, 4] rfl)
set_option maxRecDepth 20000 in
set_option maxHeartbeats 4000000 in
theorem L_case_33 {p : Program} {l : Launch} {e : Env} {s : State} {m : MethodId} {args : Array Value} {below : List Frame} {meth : Method} {c : Code} {H : Heap} {cells slots : Nat} {Q : State → Prop} {ls : Array Slot} {D : cD} {Φ : cG} {Dm : mD} {mb o : Nat} {cL : ClassId} {b L : Nat} {xs : Nat → Int32} {S : cS} {σ : mS} {w : Int64} {i : Int32} (hl9 : l.stackTraces = false) (X : lX p s m args meth c D Φ Dm mb o cL b L xs) {Sim Sim1 : cS → mS → Prop} (hsim : sim_restyled Sim Sim1) (hrc : rc S (some 1) 11 = some 1) (hin : lIn i L) (Wd : lWd D Φ Dm mb o cL s.heap S σ w H) (hS : Sim S σ) (hl : lv_has ls 7 (lLv Φ b mb o i)) (hf : cells + 13 ≤ 601024 ∧ slots + 151 ≤ 7293034) (kk : ∀ (S1 : cS) (σ1 : mS) (w1 : Int64) (H1 : Heap) (ls1 : Array Slot), Sim1 S1 σ1 → lWd D Φ Dm mb o cL s.heap S1 σ1 w1 H1 → lv_has ls1 7 (lLv Φ b mb o i) → W p l e lR s m args below meth c H1 [] (cells + 13) (slots + 151) Q (F0 m 2797 ls1 [])) : W p l e lR s m args below meth c H [] cells slots Q (F0 m 2443 ls []) := by
  have hx := X.1.1
  have hb := X.1.2.1
  have hts := X.1.2.2.2.2.1
  have hl : lv_has ls 7 [(0, .ref b), (1, cv Φ (some 1)), (2, .ref mb), (3, .ref o), (4, .int i)] := hl
  obtain ⟨hS, r, hq, hr⟩ := hsim S σ hS
  refine c_aload_n hx hb dL_law_2443 rfl (lv_at hl 1 rfl) ?_
  refine c_cr (c_runV (rest := []) X.1 (K_X11_restyled l D Φ S 1 hq) hrc (Nat.le_of_ble_eq_true rfl) ⟨w_723, ww_X11_restyled⟩ rfl hy_X11_restyled rfl ⟨(Nat.le_of_ble_eq_true rfl), (Nat.le_of_ble_eq_true rfl)⟩ Wd.1 (Wd.S X) hl.1 (Nat.le_of_ble_eq_true rfl) dL_law_2444 rfl ⟨by omega, by omega⟩) ?_
  refine lv_aload_n hx hb dL_law_2447 rfl (lv_at hl 2 rfl) ?_
  refine l_mr (l_mrun (n := 0) (rest := [.int r]) X Wd (K_restyled l Dm mb σ hr) ⟨w_2326, w_2327, w_2328, w_2329⟩ (hyX rfl (by decide +kernel)) rfl ⟨(Nat.le_of_ble_eq_true rfl), (Nat.le_of_ble_eq_true rfl)⟩ hl.1 (Nat.le_of_ble_eq_true rfl) dL_law_2448 rfl ⟨by omega, by omega⟩) ?_
  refine lv_icmp_eq (tgt := 2797) hx hb dL_law_2451 rfl (fun _ => ?_) (fun hc => absurd rfl hc)
  refine W.widen (k := cells + 13) (n := slots + 151) (by omega) (by omega) ?_
  exact kk S σ w H ls hS Wd (lv_sub hl [0, 1, 2, 3, 4] rfl)
set_option maxRecDepth 20000 in
set_option maxHeartbeats 4000000 in
theorem L_case_34 {p : Program} {l : Launch} {e : Env} {s : State} {m : MethodId} {args : Array Value} {below : List Frame} {meth : Method} {c : Code} {H : Heap} {cells slots : Nat} {Q : State → Prop} {ls : Array Slot} {D : cD} {Φ : cG} {Dm : mD} {mb o : Nat} {cL : ClassId} {b L : Nat} {xs : Nat → Int32} {S : cS} {σ : mS} {w : Int64} {i : Int32} (hl9 : l.stackTraces = false) (X : lX p s m args meth c D Φ Dm mb o cL b L xs) {Sim Sim1 : cS → mS → Prop} (hsim : sim_shared Sim Sim1) (hrc : rc S (some 1) 11 = some 1) (hin : lIn i L) (Wd : lWd D Φ Dm mb o cL s.heap S σ w H) (hS : Sim S σ) (hl : lv_has ls 7 (lLv Φ b mb o i)) (hf : cells + 13 ≤ 601024 ∧ slots + 151 ≤ 7293034) (kk : ∀ (S1 : cS) (σ1 : mS) (w1 : Int64) (H1 : Heap) (ls1 : Array Slot), Sim1 S1 σ1 → lWd D Φ Dm mb o cL s.heap S1 σ1 w1 H1 → lv_has ls1 7 (lLv Φ b mb o i) → W p l e lR s m args below meth c H1 [] (cells + 13) (slots + 151) Q (F0 m 2797 ls1 [])) : W p l e lR s m args below meth c H [] cells slots Q (F0 m 2456 ls []) := by
  have hx := X.1.1
  have hb := X.1.2.1
  have hts := X.1.2.2.2.2.1
  have hl : lv_has ls 7 [(0, .ref b), (1, cv Φ (some 1)), (2, .ref mb), (3, .ref o), (4, .int i)] := hl
  obtain ⟨hS, r, hq, hr⟩ := hsim S σ hS
  refine c_aload_n hx hb dL_law_2456 rfl (lv_at hl 1 rfl) ?_
  refine c_cr (c_runV (rest := []) X.1 (K_X11_shared l D Φ S 1 hq) hrc (Nat.le_of_ble_eq_true rfl) ⟨w_727, ww_X11_shared⟩ rfl hy_X11_shared rfl ⟨(Nat.le_of_ble_eq_true rfl), (Nat.le_of_ble_eq_true rfl)⟩ Wd.1 (Wd.S X) hl.1 (Nat.le_of_ble_eq_true rfl) dL_law_2457 rfl ⟨by omega, by omega⟩) ?_
  refine lv_aload_n hx hb dL_law_2460 rfl (lv_at hl 2 rfl) ?_
  refine l_mr (l_mrun (n := 0) (rest := [.int r]) X Wd (K_shared l Dm mb σ hr) ⟨w_2330, w_2331, w_2332, w_2333⟩ (hyX rfl (by decide +kernel)) rfl ⟨(Nat.le_of_ble_eq_true rfl), (Nat.le_of_ble_eq_true rfl)⟩ hl.1 (Nat.le_of_ble_eq_true rfl) dL_law_2461 rfl ⟨by omega, by omega⟩) ?_
  refine lv_icmp_eq (tgt := 2797) hx hb dL_law_2464 rfl (fun _ => ?_) (fun hc => absurd rfl hc)
  refine W.widen (k := cells + 13) (n := slots + 151) (by omega) (by omega) ?_
  exact kk S σ w H ls hS Wd (lv_sub hl [0, 1, 2, 3, 4] rfl)
set_option maxRecDepth 20000 in
set_option maxHeartbeats 4000000 in
theorem L_case_35 {p : Program} {l : Launch} {e : Env} {s : State} {m : MethodId} {args : Array Value} {below : List Frame} {meth : Method} {c : Code} {H : Heap} {cells slots : Nat} {Q : State → Prop} {ls : Array Slot} {D : cD} {Φ : cG} {Dm : mD} {mb o : Nat} {cL : ClassId} {b L : Nat} {xs : Nat → Int32} {S : cS} {σ : mS} {w : Int64} {i : Int32} (hl9 : l.stackTraces = false) (X : lX p s m args meth c D Φ Dm mb o cL b L xs) {Sim Sim1 : cS → mS → Prop} (hsim : sim_tick Sim Sim1) (hrc : rc S (some 1) 11 = some 1) (hin : lIn i L) (Wd : lWd D Φ Dm mb o cL s.heap S σ w H) (hS : Sim S σ) (hl : lv_has ls 7 (lLv Φ b mb o i)) (hf : cells + 13 ≤ 601024 ∧ slots + 151 ≤ 7293034) (kk : ∀ (S1 : cS) (σ1 : mS) (w1 : Int64) (H1 : Heap) (ls1 : Array Slot), Sim1 S1 σ1 → lWd D Φ Dm mb o cL s.heap S1 σ1 w1 H1 → lv_has ls1 7 (lLv Φ b mb o i) → W p l e lR s m args below meth c H1 [] (cells + 13) (slots + 151) Q (F0 m 2797 ls1 [])) : W p l e lR s m args below meth c H [] cells slots Q (F0 m 2469 ls []) := by
  have hx := X.1.1
  have hb := X.1.2.1
  have hts := X.1.2.2.2.2.1
  have hl : lv_has ls 7 [(0, .ref b), (1, cv Φ (some 1)), (2, .ref mb), (3, .ref o), (4, .int i)] := hl
  obtain ⟨q, r, hq, hr, hag, hnx⟩ := hsim S σ (xs (i + 1).toNatClampNeg) hS 
  refine c_aload_n hx hb dL_law_2469 rfl (lv_at hl 1 rfl) ?_
  refine lv_aload_n hx hb dL_law_2470 rfl (lv_at hl 0 rfl) ?_
  refine lv_iload hx hb dL_law_2471 (lv_at hl 4 rfl) ?_
  refine lv_iconst (v := 1) hx hb dL_law_2473 (by decide) ?_
  refine lv_iadd hx hb dL_law_2474 ?_
  refine l_sld X Wd hin.2.1 dL_law_2475 ?_
  refine lv_aload_n hx hb dL_law_2476 rfl (lv_at hl 3 rfl) ?_
  refine l_w1 (rest := []) (v := (r.2.2 81)) X Wd (K_L_tick l hl9 D Φ S o cL w 1 (xs (i + 1).toNatClampNeg) hrc hq hag.1) ⟨w_1509, ww_L_tick⟩ hy_L_tick rfl ⟨(Nat.le_of_ble_eq_true rfl), (Nat.le_of_ble_eq_true rfl)⟩ hl.1 (Nat.le_of_ble_eq_true rfl) dL_law_2477 rfl ⟨by omega, by omega⟩ (fun n9 w H hn hx9 Wd => ?_)
  refine c_istore hx hb dL_law_2480 hl (Nat.le_of_ble_eq_true rfl) (lvKa rfl (lvKa rfl (lvKa rfl (lvKa rfl (lvKi lvK0))))) rfl (fun ls (hl : lv_has ls 7 [(5, .int (r.2.2 81)), (0, .ref b), (1, cv Φ (some 1)), (2, .ref mb), (3, .ref o), (4, .int i)]) => ?_)
  refine lv_aload_n hx hb dL_law_2482 rfl (lv_at hl 3 rfl) ?_
  refine lv_aload_n hx hb dL_law_2483 rfl (lv_at hl 1 rfl) ?_
  refine lv_iload hx hb dL_law_2484 (lv_at hl 5 rfl) ?_
  refine lv_iconst (v := 1) hx hb dL_law_2486 (by decide) ?_
  refine lv_iadd hx hb dL_law_2487 ?_
  refine l_sld X Wd hin.2.1 dL_law_2488 ?_
  refine l_mw X Wd (l_mrun (n := 1) (rest := []) X Wd (K_tick l Dm mb σ (xs (i + 1).toNatClampNeg) hr) ⟨w_2334, w_2335, w_2336, w_2337⟩ (hyX rfl (by decide +kernel)) rfl ⟨(Nat.le_of_ble_eq_true rfl), (Nat.le_of_ble_eq_true rfl)⟩ hl.1 (Nat.le_of_ble_eq_true rfl) dL_law_2489 rfl ⟨by omega, by omega⟩) (fun H Wd => ?_)
  refine W.eq (g2 := F0 m 2492 ls [.int r.1]) rfl ?_
  refine c_istore hx hb dL_law_2492 hl (Nat.le_of_ble_eq_true rfl) (lvKi (lvKa rfl (lvKa rfl (lvKa rfl (lvKa rfl (lvKa rfl lvK0)))))) rfl (fun ls (hl : lv_has ls 7 [(6, .int r.1), (5, .int (r.2.2 81)), (0, .ref b), (1, cv Φ (some 1)), (2, .ref mb), (3, .ref o), (4, .int i)]) => ?_)
  refine lv_aload_n hx hb dL_law_2494 rfl (lv_at hl 4 rfl) ?_
  refine l_mr (l_mrun (n := 0) (rest := []) X Wd (K_thrown l Dm mb r.2 (r := r.2.2 81) rfl) ⟨w_1838, w_1839, w_1840, w_1841⟩ (hyX rfl (by decide +kernel)) rfl ⟨(Nat.le_of_ble_eq_true rfl), (Nat.le_of_ble_eq_true rfl)⟩ hl.1 (Nat.le_of_ble_eq_true rfl) dL_law_2495 rfl ⟨by omega, by omega⟩) ?_
  refine lv_iload hx hb dL_law_2498 (lv_at hl 1 rfl) ?_
  refine lv_icmp_eq (tgt := 2505) hx hb dL_law_2500 rfl (fun _ => ?_) (fun hc => absurd rfl hc)
  refine lv_iload hx hb dL_law_2505 (lv_at hl 1 rfl) ?_
  refine lv_if_ne (tgt := 2522) hx hb dL_law_2507 rfl (fun hc => ?_) (fun hc => ?_)
  · refine lv_goto (tgt := 2797) hx hb dL_law_2522 rfl ?_
    refine W.widen (k := cells + 13) (n := slots + 151) (by omega) (by omega) ?_
    exact kk _ _ _ H ls (hnx _ hn) Wd (lv_sub hl [2, 3, 4, 5, 6] rfl)
  · obtain ⟨u, hu⟩ := lcd_z1 hag.1 hc
    have hw9 := hx9 u hu
    have hw8 := hag.2 u hu
    refine lv_aload_n hx hb dL_law_2510 rfl (lv_at hl 5 rfl) ?_
    refine lv_iconst (v := 0) hx hb dL_law_2511 (by decide) ?_
    refine l_lald X Wd dL_law_2512 ?_
    refine lv_iload hx hb dL_law_2513 (lv_at hl 0 rfl) ?_
    refine lv_i2l (v := lvN r.1) hx hb dL_law_2515 rfl ?_
    refine W.lcmp hx hb dL_law_2516 ?_
    refine lv_if_eq (tgt := 2522) hx hb dL_law_2517 rfl (fun _ => ?_) (fun hc => absurd (by rw [hw9, hw8]; exact lg_cmp_self _) hc)
    refine lv_goto (tgt := 2797) hx hb dL_law_2522 rfl ?_
    refine W.widen (k := cells + 13) (n := slots + 151) (by omega) (by omega) ?_
    exact kk _ _ _ H ls (hnx _ hn) Wd (lv_sub hl [2, 3, 4, 5, 6] rfl)
set_option maxRecDepth 20000 in
set_option maxHeartbeats 4000000 in
theorem L_case_36 {p : Program} {l : Launch} {e : Env} {s : State} {m : MethodId} {args : Array Value} {below : List Frame} {meth : Method} {c : Code} {H : Heap} {cells slots : Nat} {Q : State → Prop} {ls : Array Slot} {D : cD} {Φ : cG} {Dm : mD} {mb o : Nat} {cL : ClassId} {b L : Nat} {xs : Nat → Int32} {S : cS} {σ : mS} {w : Int64} {i : Int32} (hl9 : l.stackTraces = false) (X : lX p s m args meth c D Φ Dm mb o cL b L xs) {Sim Sim1 : cS → mS → Prop} (hsim : sim_animation Sim Sim1) (hrc : rc S (some 1) 11 = some 1) (hin : lIn i L) (Wd : lWd D Φ Dm mb o cL s.heap S σ w H) (hS : Sim S σ) (hl : lv_has ls 7 (lLv Φ b mb o i)) (hf : cells + 13 ≤ 601024 ∧ slots + 151 ≤ 7293034) (kk : ∀ (S1 : cS) (σ1 : mS) (w1 : Int64) (H1 : Heap) (ls1 : Array Slot), Sim1 S1 σ1 → lWd D Φ Dm mb o cL s.heap S1 σ1 w1 H1 → lv_has ls1 7 (lLv Φ b mb o i) → W p l e lR s m args below meth c H1 [] (cells + 13) (slots + 151) Q (F0 m 2797 ls1 [])) : W p l e lR s m args below meth c H [] cells slots Q (F0 m 2525 ls []) := by
  have hx := X.1.1
  have hb := X.1.2.1
  have hts := X.1.2.2.2.2.1
  have hl : lv_has ls 7 [(0, .ref b), (1, cv Φ (some 1)), (2, .ref mb), (3, .ref o), (4, .int i)] := hl
  obtain ⟨q, r, hq, hr, hag, hnx⟩ := hsim S σ (xs (i + 1).toNatClampNeg) (xs (i + 2).toNatClampNeg) (xs (i + 3).toNatClampNeg) (lz (xs (i + 4).toNatClampNeg)) hS (lz_01 _)
  refine c_aload_n hx hb dL_law_2525 rfl (lv_at hl 1 rfl) ?_
  refine lv_aload_n hx hb dL_law_2526 rfl (lv_at hl 0 rfl) ?_
  refine lv_iload hx hb dL_law_2527 (lv_at hl 4 rfl) ?_
  refine lv_iconst (v := 1) hx hb dL_law_2529 (by decide) ?_
  refine lv_iadd hx hb dL_law_2530 ?_
  refine l_sld X Wd hin.2.1 dL_law_2531 ?_
  refine lv_aload_n hx hb dL_law_2532 rfl (lv_at hl 0 rfl) ?_
  refine lv_iload hx hb dL_law_2533 (lv_at hl 4 rfl) ?_
  refine lv_iconst (v := 2) hx hb dL_law_2535 (by decide) ?_
  refine lv_iadd hx hb dL_law_2536 ?_
  refine l_sld X Wd hin.2.2.1 dL_law_2537 ?_
  refine lv_aload_n hx hb dL_law_2538 rfl (lv_at hl 0 rfl) ?_
  refine lv_iload hx hb dL_law_2539 (lv_at hl 4 rfl) ?_
  refine lv_iconst (v := 3) hx hb dL_law_2541 (by decide) ?_
  refine lv_iadd hx hb dL_law_2542 ?_
  refine l_sld X Wd hin.2.2.2.1 dL_law_2543 ?_
  refine lv_aload_n hx hb dL_law_2544 rfl (lv_at hl 0 rfl) ?_
  refine lv_iload hx hb dL_law_2545 (lv_at hl 4 rfl) ?_
  refine lv_iconst (v := 4) hx hb dL_law_2547 (by decide) ?_
  refine lv_iadd hx hb dL_law_2548 ?_
  refine l_sld X Wd hin.2.2.2.2.1 dL_law_2549 ?_
  refine l_tern hx hb dL_law_2550 dL_law_2553 dL_law_2554 dL_law_2557 ?_
  refine l_w0 (rest := []) (v := (r.2 81)) X Wd (K_L_animation l hl9 D Φ S 1 (xs (i + 1).toNatClampNeg) (xs (i + 2).toNatClampNeg) (xs (i + 3).toNatClampNeg) (lz (xs (i + 4).toNatClampNeg)) hrc hq hag) ⟨w_1516, ww_L_animation⟩ hy_L_animation rfl ⟨(Nat.le_of_ble_eq_true rfl), (Nat.le_of_ble_eq_true rfl)⟩ hl.1 (Nat.le_of_ble_eq_true rfl) dL_law_2558 rfl ⟨by omega, by omega⟩ (fun n9 H hn Wd => ?_)
  refine c_istore hx hb dL_law_2561 hl (Nat.le_of_ble_eq_true rfl) (lvKa rfl (lvKa rfl (lvKa rfl (lvKa rfl (lvKi lvK0))))) rfl (fun ls (hl : lv_has ls 7 [(5, .int (r.2 81)), (0, .ref b), (1, cv Φ (some 1)), (2, .ref mb), (3, .ref o), (4, .int i)]) => ?_)
  refine lv_aload_n hx hb dL_law_2563 rfl (lv_at hl 3 rfl) ?_
  refine lv_aload_n hx hb dL_law_2564 rfl (lv_at hl 1 rfl) ?_
  refine lv_iload hx hb dL_law_2565 (lv_at hl 5 rfl) ?_
  refine lv_iconst (v := 1) hx hb dL_law_2567 (by decide) ?_
  refine lv_iadd hx hb dL_law_2568 ?_
  refine l_sld X Wd hin.2.1 dL_law_2569 ?_
  refine lv_aload_n hx hb dL_law_2570 rfl (lv_at hl 1 rfl) ?_
  refine lv_iload hx hb dL_law_2571 (lv_at hl 5 rfl) ?_
  refine lv_iconst (v := 2) hx hb dL_law_2573 (by decide) ?_
  refine lv_iadd hx hb dL_law_2574 ?_
  refine l_sld X Wd hin.2.2.1 dL_law_2575 ?_
  refine lv_aload_n hx hb dL_law_2576 rfl (lv_at hl 1 rfl) ?_
  refine lv_iload hx hb dL_law_2577 (lv_at hl 5 rfl) ?_
  refine lv_iconst (v := 3) hx hb dL_law_2579 (by decide) ?_
  refine lv_iadd hx hb dL_law_2580 ?_
  refine l_sld X Wd hin.2.2.2.1 dL_law_2581 ?_
  refine lv_aload_n hx hb dL_law_2582 rfl (lv_at hl 1 rfl) ?_
  refine lv_iload hx hb dL_law_2583 (lv_at hl 5 rfl) ?_
  refine lv_iconst (v := 4) hx hb dL_law_2585 (by decide) ?_
  refine lv_iadd hx hb dL_law_2586 ?_
  refine l_sld X Wd hin.2.2.2.2.1 dL_law_2587 ?_
  refine l_tern hx hb dL_law_2588 dL_law_2591 dL_law_2592 dL_law_2595 ?_
  refine l_mw X Wd (l_mrun (n := 4) (rest := []) X Wd (K_animation l Dm mb σ (xs (i + 1).toNatClampNeg) (xs (i + 2).toNatClampNeg) (xs (i + 3).toNatClampNeg) (lz (xs (i + 4).toNatClampNeg)) hr) ⟨w_2338, w_2339, w_2340, w_2341⟩ (hyX rfl (by decide +kernel)) rfl ⟨(Nat.le_of_ble_eq_true rfl), (Nat.le_of_ble_eq_true rfl)⟩ hl.1 (Nat.le_of_ble_eq_true rfl) dL_law_2596 rfl ⟨by omega, by omega⟩) (fun H Wd => ?_)
  refine W.eq (g2 := F0 m 2599 ls []) rfl ?_
  refine lv_aload_n hx hb dL_law_2599 rfl (lv_at hl 3 rfl) ?_
  refine l_mr (l_mrun (n := 0) (rest := []) X Wd (K_thrown l Dm mb r (r := r.2 81) rfl) ⟨w_1838, w_1839, w_1840, w_1841⟩ (hyX rfl (by decide +kernel)) rfl ⟨(Nat.le_of_ble_eq_true rfl), (Nat.le_of_ble_eq_true rfl)⟩ hl.1 (Nat.le_of_ble_eq_true rfl) dL_law_2600 rfl ⟨by omega, by omega⟩) ?_
  refine lv_iload hx hb dL_law_2603 (lv_at hl 0 rfl) ?_
  refine lv_icmp_eq (tgt := 2610) hx hb dL_law_2605 rfl (fun _ => ?_) (fun hc => absurd rfl hc)
  refine lv_goto (tgt := 2797) hx hb dL_law_2610 rfl ?_
  refine W.widen (k := cells + 13) (n := slots + 151) (by omega) (by omega) ?_
  exact kk _ _ _ H ls (hnx _ hn) Wd (lv_sub hl [1, 2, 3, 4, 5] rfl)
set_option maxRecDepth 20000 in
set_option maxHeartbeats 4000000 in
theorem L_case_37 {p : Program} {l : Launch} {e : Env} {s : State} {m : MethodId} {args : Array Value} {below : List Frame} {meth : Method} {c : Code} {H : Heap} {cells slots : Nat} {Q : State → Prop} {ls : Array Slot} {D : cD} {Φ : cG} {Dm : mD} {mb o : Nat} {cL : ClassId} {b L : Nat} {xs : Nat → Int32} {S : cS} {σ : mS} {w : Int64} {i : Int32} (hl9 : l.stackTraces = false) (X : lX p s m args meth c D Φ Dm mb o cL b L xs) {Sim Sim1 : cS → mS → Prop} (hsim : sim_frame Sim Sim1) (hrc : rc S (some 1) 11 = some 1) (hin : lIn i L) (Wd : lWd D Φ Dm mb o cL s.heap S σ w H) (hS : Sim S σ) (hl : lv_has ls 7 (lLv Φ b mb o i)) (hf : cells + 13 ≤ 601024 ∧ slots + 151 ≤ 7293034) (kk : ∀ (S1 : cS) (σ1 : mS) (w1 : Int64) (H1 : Heap) (ls1 : Array Slot), Sim1 S1 σ1 → lWd D Φ Dm mb o cL s.heap S1 σ1 w1 H1 → lv_has ls1 7 (lLv Φ b mb o i) → W p l e lR s m args below meth c H1 [] (cells + 13) (slots + 151) Q (F0 m 2797 ls1 [])) : W p l e lR s m args below meth c H [] cells slots Q (F0 m 2613 ls []) := by
  have hx := X.1.1
  have hb := X.1.2.1
  have hts := X.1.2.2.2.2.1
  have hl : lv_has ls 7 [(0, .ref b), (1, cv Φ (some 1)), (2, .ref mb), (3, .ref o), (4, .int i)] := hl
  obtain ⟨q, r, hq, hr, hag, hnx⟩ := hsim S σ (xs (i + 1).toNatClampNeg) (xs (i + 2).toNatClampNeg) (xs (i + 3).toNatClampNeg) (xs (i + 4).toNatClampNeg) hS 
  refine c_aload_n hx hb dL_law_2613 rfl (lv_at hl 1 rfl) ?_
  refine lv_aload_n hx hb dL_law_2614 rfl (lv_at hl 0 rfl) ?_
  refine lv_iload hx hb dL_law_2615 (lv_at hl 4 rfl) ?_
  refine lv_iconst (v := 1) hx hb dL_law_2617 (by decide) ?_
  refine lv_iadd hx hb dL_law_2618 ?_
  refine l_sld X Wd hin.2.1 dL_law_2619 ?_
  refine lv_aload_n hx hb dL_law_2620 rfl (lv_at hl 0 rfl) ?_
  refine lv_iload hx hb dL_law_2621 (lv_at hl 4 rfl) ?_
  refine lv_iconst (v := 2) hx hb dL_law_2623 (by decide) ?_
  refine lv_iadd hx hb dL_law_2624 ?_
  refine l_sld X Wd hin.2.2.1 dL_law_2625 ?_
  refine lv_aload_n hx hb dL_law_2626 rfl (lv_at hl 0 rfl) ?_
  refine lv_iload hx hb dL_law_2627 (lv_at hl 4 rfl) ?_
  refine lv_iconst (v := 3) hx hb dL_law_2629 (by decide) ?_
  refine lv_iadd hx hb dL_law_2630 ?_
  refine l_sld X Wd hin.2.2.2.1 dL_law_2631 ?_
  refine lv_aload_n hx hb dL_law_2632 rfl (lv_at hl 0 rfl) ?_
  refine lv_iload hx hb dL_law_2633 (lv_at hl 4 rfl) ?_
  refine lv_iconst (v := 4) hx hb dL_law_2635 (by decide) ?_
  refine lv_iadd hx hb dL_law_2636 ?_
  refine l_sld X Wd hin.2.2.2.2.1 dL_law_2637 ?_
  refine lv_aload_n hx hb dL_law_2638 rfl (lv_at hl 3 rfl) ?_
  refine l_w1 (rest := []) (v := (r.2.2 81)) X Wd (K_L_frame l hl9 D Φ S o cL w 1 (xs (i + 1).toNatClampNeg) (xs (i + 2).toNatClampNeg) (xs (i + 3).toNatClampNeg) (xs (i + 4).toNatClampNeg) hrc hq hag.1) ⟨w_1523, ww_L_frame⟩ hy_L_frame rfl ⟨(Nat.le_of_ble_eq_true rfl), (Nat.le_of_ble_eq_true rfl)⟩ hl.1 (Nat.le_of_ble_eq_true rfl) dL_law_2639 rfl ⟨by omega, by omega⟩ (fun n9 w H hn hx9 Wd => ?_)
  refine c_istore hx hb dL_law_2642 hl (Nat.le_of_ble_eq_true rfl) (lvKa rfl (lvKa rfl (lvKa rfl (lvKa rfl (lvKi lvK0))))) rfl (fun ls (hl : lv_has ls 7 [(5, .int (r.2.2 81)), (0, .ref b), (1, cv Φ (some 1)), (2, .ref mb), (3, .ref o), (4, .int i)]) => ?_)
  refine lv_aload_n hx hb dL_law_2644 rfl (lv_at hl 3 rfl) ?_
  refine lv_aload_n hx hb dL_law_2645 rfl (lv_at hl 1 rfl) ?_
  refine lv_iload hx hb dL_law_2646 (lv_at hl 5 rfl) ?_
  refine lv_iconst (v := 1) hx hb dL_law_2648 (by decide) ?_
  refine lv_iadd hx hb dL_law_2649 ?_
  refine l_sld X Wd hin.2.1 dL_law_2650 ?_
  refine lv_aload_n hx hb dL_law_2651 rfl (lv_at hl 1 rfl) ?_
  refine lv_iload hx hb dL_law_2652 (lv_at hl 5 rfl) ?_
  refine lv_iconst (v := 2) hx hb dL_law_2654 (by decide) ?_
  refine lv_iadd hx hb dL_law_2655 ?_
  refine l_sld X Wd hin.2.2.1 dL_law_2656 ?_
  refine lv_aload_n hx hb dL_law_2657 rfl (lv_at hl 1 rfl) ?_
  refine lv_iload hx hb dL_law_2658 (lv_at hl 5 rfl) ?_
  refine lv_iconst (v := 3) hx hb dL_law_2660 (by decide) ?_
  refine lv_iadd hx hb dL_law_2661 ?_
  refine l_sld X Wd hin.2.2.2.1 dL_law_2662 ?_
  refine lv_aload_n hx hb dL_law_2663 rfl (lv_at hl 1 rfl) ?_
  refine lv_iload hx hb dL_law_2664 (lv_at hl 5 rfl) ?_
  refine lv_iconst (v := 4) hx hb dL_law_2666 (by decide) ?_
  refine lv_iadd hx hb dL_law_2667 ?_
  refine l_sld X Wd hin.2.2.2.2.1 dL_law_2668 ?_
  refine l_mw X Wd (l_mrun (n := 4) (rest := []) X Wd (K_frame l Dm mb σ (xs (i + 1).toNatClampNeg) (xs (i + 2).toNatClampNeg) (xs (i + 3).toNatClampNeg) (xs (i + 4).toNatClampNeg) hr) ⟨w_2342, w_2343, w_2344, w_2345⟩ (hyX rfl (by decide +kernel)) rfl ⟨(Nat.le_of_ble_eq_true rfl), (Nat.le_of_ble_eq_true rfl)⟩ hl.1 (Nat.le_of_ble_eq_true rfl) dL_law_2669 rfl ⟨by omega, by omega⟩) (fun H Wd => ?_)
  refine W.eq (g2 := F0 m 2672 ls [.int r.1]) rfl ?_
  refine c_istore hx hb dL_law_2672 hl (Nat.le_of_ble_eq_true rfl) (lvKi (lvKa rfl (lvKa rfl (lvKa rfl (lvKa rfl (lvKa rfl lvK0)))))) rfl (fun ls (hl : lv_has ls 7 [(6, .int r.1), (5, .int (r.2.2 81)), (0, .ref b), (1, cv Φ (some 1)), (2, .ref mb), (3, .ref o), (4, .int i)]) => ?_)
  refine lv_aload_n hx hb dL_law_2674 rfl (lv_at hl 4 rfl) ?_
  refine l_mr (l_mrun (n := 0) (rest := []) X Wd (K_thrown l Dm mb r.2 (r := r.2.2 81) rfl) ⟨w_1838, w_1839, w_1840, w_1841⟩ (hyX rfl (by decide +kernel)) rfl ⟨(Nat.le_of_ble_eq_true rfl), (Nat.le_of_ble_eq_true rfl)⟩ hl.1 (Nat.le_of_ble_eq_true rfl) dL_law_2675 rfl ⟨by omega, by omega⟩) ?_
  refine lv_iload hx hb dL_law_2678 (lv_at hl 1 rfl) ?_
  refine lv_icmp_eq (tgt := 2685) hx hb dL_law_2680 rfl (fun _ => ?_) (fun hc => absurd rfl hc)
  refine lv_iload hx hb dL_law_2685 (lv_at hl 1 rfl) ?_
  refine lv_if_ne (tgt := 2702) hx hb dL_law_2687 rfl (fun hc => ?_) (fun hc => ?_)
  · refine lv_goto (tgt := 2797) hx hb dL_law_2702 rfl ?_
    refine W.widen (k := cells + 13) (n := slots + 151) (by omega) (by omega) ?_
    exact kk _ _ _ H ls (hnx _ hn) Wd (lv_sub hl [2, 3, 4, 5, 6] rfl)
  · obtain ⟨u, hu⟩ := lcd_z1 hag.1 hc
    have hw9 := hx9 u hu
    have hw8 := hag.2 u hu
    refine lv_aload_n hx hb dL_law_2690 rfl (lv_at hl 5 rfl) ?_
    refine lv_iconst (v := 0) hx hb dL_law_2691 (by decide) ?_
    refine l_lald X Wd dL_law_2692 ?_
    refine lv_iload hx hb dL_law_2693 (lv_at hl 0 rfl) ?_
    refine lv_i2l (v := lvN r.1) hx hb dL_law_2695 rfl ?_
    refine W.lcmp hx hb dL_law_2696 ?_
    refine lv_if_eq (tgt := 2702) hx hb dL_law_2697 rfl (fun _ => ?_) (fun hc => absurd (by rw [hw9, hw8]; exact lg_cmp_self _) hc)
    refine lv_goto (tgt := 2797) hx hb dL_law_2702 rfl ?_
    refine W.widen (k := cells + 13) (n := slots + 151) (by omega) (by omega) ?_
    exact kk _ _ _ H ls (hnx _ hn) Wd (lv_sub hl [2, 3, 4, 5, 6] rfl)
set_option maxRecDepth 20000 in
set_option maxHeartbeats 4000000 in
theorem L_case_38 {p : Program} {l : Launch} {e : Env} {s : State} {m : MethodId} {args : Array Value} {below : List Frame} {meth : Method} {c : Code} {H : Heap} {cells slots : Nat} {Q : State → Prop} {ls : Array Slot} {D : cD} {Φ : cG} {Dm : mD} {mb o : Nat} {cL : ClassId} {b L : Nat} {xs : Nat → Int32} {S : cS} {σ : mS} {w : Int64} {i : Int32} (hl9 : l.stackTraces = false) (X : lX p s m args meth c D Φ Dm mb o cL b L xs) {Sim Sim1 : cS → mS → Prop} (hsim : sim_listen Sim Sim1) (hrc : rc S (some 1) 11 = some 1) (hin : lIn i L) (Wd : lWd D Φ Dm mb o cL s.heap S σ w H) (hS : Sim S σ) (hl : lv_has ls 7 (lLv Φ b mb o i)) (hf : cells + 13 ≤ 601024 ∧ slots + 151 ≤ 7293034) (kk : ∀ (S1 : cS) (σ1 : mS) (w1 : Int64) (H1 : Heap) (ls1 : Array Slot), Sim1 S1 σ1 → lWd D Φ Dm mb o cL s.heap S1 σ1 w1 H1 → lv_has ls1 7 (lLv Φ b mb o i) → W p l e lR s m args below meth c H1 [] (cells + 13) (slots + 151) Q (F0 m 2797 ls1 [])) : W p l e lR s m args below meth c H [] cells slots Q (F0 m 2705 ls []) := by
  have hx := X.1.1
  have hb := X.1.2.1
  have hts := X.1.2.2.2.2.1
  have hl : lv_has ls 7 [(0, .ref b), (1, cv Φ (some 1)), (2, .ref mb), (3, .ref o), (4, .int i)] := hl
  obtain ⟨q, r, hq, hr, hag, hnx⟩ := hsim S σ (xs (i + 1).toNatClampNeg) (xs (i + 2).toNatClampNeg) (xs (i + 3).toNatClampNeg) (xs (i + 4).toNatClampNeg) hS 
  refine c_aload_n hx hb dL_law_2705 rfl (lv_at hl 1 rfl) ?_
  refine lv_aload_n hx hb dL_law_2706 rfl (lv_at hl 0 rfl) ?_
  refine lv_iload hx hb dL_law_2707 (lv_at hl 4 rfl) ?_
  refine lv_iconst (v := 1) hx hb dL_law_2709 (by decide) ?_
  refine lv_iadd hx hb dL_law_2710 ?_
  refine l_sld X Wd hin.2.1 dL_law_2711 ?_
  refine lv_aload_n hx hb dL_law_2712 rfl (lv_at hl 0 rfl) ?_
  refine lv_iload hx hb dL_law_2713 (lv_at hl 4 rfl) ?_
  refine lv_iconst (v := 2) hx hb dL_law_2715 (by decide) ?_
  refine lv_iadd hx hb dL_law_2716 ?_
  refine l_sld X Wd hin.2.2.1 dL_law_2717 ?_
  refine lv_aload_n hx hb dL_law_2718 rfl (lv_at hl 0 rfl) ?_
  refine lv_iload hx hb dL_law_2719 (lv_at hl 4 rfl) ?_
  refine lv_iconst (v := 3) hx hb dL_law_2721 (by decide) ?_
  refine lv_iadd hx hb dL_law_2722 ?_
  refine l_sld X Wd hin.2.2.2.1 dL_law_2723 ?_
  refine lv_aload_n hx hb dL_law_2724 rfl (lv_at hl 0 rfl) ?_
  refine lv_iload hx hb dL_law_2725 (lv_at hl 4 rfl) ?_
  refine lv_iconst (v := 4) hx hb dL_law_2727 (by decide) ?_
  refine lv_iadd hx hb dL_law_2728 ?_
  refine l_sld X Wd hin.2.2.2.2.1 dL_law_2729 ?_
  refine lv_aload_n hx hb dL_law_2730 rfl (lv_at hl 3 rfl) ?_
  refine l_w1 (rest := []) (v := (r.2.2 81)) X Wd (K_L_listen l hl9 D Φ S o cL w 1 (xs (i + 1).toNatClampNeg) (xs (i + 2).toNatClampNeg) (xs (i + 3).toNatClampNeg) (xs (i + 4).toNatClampNeg) hrc hq hag.1) ⟨w_1540, ww_L_listen⟩ hy_L_listen rfl ⟨(Nat.le_of_ble_eq_true rfl), (Nat.le_of_ble_eq_true rfl)⟩ hl.1 (Nat.le_of_ble_eq_true rfl) dL_law_2731 rfl ⟨by omega, by omega⟩ (fun n9 w H hn hx9 Wd => ?_)
  refine c_istore hx hb dL_law_2734 hl (Nat.le_of_ble_eq_true rfl) (lvKa rfl (lvKa rfl (lvKa rfl (lvKa rfl (lvKi lvK0))))) rfl (fun ls (hl : lv_has ls 7 [(5, .int (r.2.2 81)), (0, .ref b), (1, cv Φ (some 1)), (2, .ref mb), (3, .ref o), (4, .int i)]) => ?_)
  refine lv_aload_n hx hb dL_law_2736 rfl (lv_at hl 3 rfl) ?_
  refine lv_aload_n hx hb dL_law_2737 rfl (lv_at hl 1 rfl) ?_
  refine lv_iload hx hb dL_law_2738 (lv_at hl 5 rfl) ?_
  refine lv_iconst (v := 1) hx hb dL_law_2740 (by decide) ?_
  refine lv_iadd hx hb dL_law_2741 ?_
  refine l_sld X Wd hin.2.1 dL_law_2742 ?_
  refine lv_aload_n hx hb dL_law_2743 rfl (lv_at hl 1 rfl) ?_
  refine lv_iload hx hb dL_law_2744 (lv_at hl 5 rfl) ?_
  refine lv_iconst (v := 2) hx hb dL_law_2746 (by decide) ?_
  refine lv_iadd hx hb dL_law_2747 ?_
  refine l_sld X Wd hin.2.2.1 dL_law_2748 ?_
  refine lv_aload_n hx hb dL_law_2749 rfl (lv_at hl 1 rfl) ?_
  refine lv_iload hx hb dL_law_2750 (lv_at hl 5 rfl) ?_
  refine lv_iconst (v := 3) hx hb dL_law_2752 (by decide) ?_
  refine lv_iadd hx hb dL_law_2753 ?_
  refine l_sld X Wd hin.2.2.2.1 dL_law_2754 ?_
  refine lv_aload_n hx hb dL_law_2755 rfl (lv_at hl 1 rfl) ?_
  refine lv_iload hx hb dL_law_2756 (lv_at hl 5 rfl) ?_
  refine lv_iconst (v := 4) hx hb dL_law_2758 (by decide) ?_
  refine lv_iadd hx hb dL_law_2759 ?_
  refine l_sld X Wd hin.2.2.2.2.1 dL_law_2760 ?_
  refine l_mw X Wd (l_mrun (n := 4) (rest := []) X Wd (K_listen l Dm mb σ (xs (i + 1).toNatClampNeg) (xs (i + 2).toNatClampNeg) (xs (i + 3).toNatClampNeg) (xs (i + 4).toNatClampNeg) hr) ⟨w_2346, w_2347, w_2348, w_2349⟩ (hyX rfl (by decide +kernel)) rfl ⟨(Nat.le_of_ble_eq_true rfl), (Nat.le_of_ble_eq_true rfl)⟩ hl.1 (Nat.le_of_ble_eq_true rfl) dL_law_2761 rfl ⟨by omega, by omega⟩) (fun H Wd => ?_)
  refine W.eq (g2 := F0 m 2764 ls [.int r.1]) rfl ?_
  refine c_istore hx hb dL_law_2764 hl (Nat.le_of_ble_eq_true rfl) (lvKi (lvKa rfl (lvKa rfl (lvKa rfl (lvKa rfl (lvKa rfl lvK0)))))) rfl (fun ls (hl : lv_has ls 7 [(6, .int r.1), (5, .int (r.2.2 81)), (0, .ref b), (1, cv Φ (some 1)), (2, .ref mb), (3, .ref o), (4, .int i)]) => ?_)
  refine lv_aload_n hx hb dL_law_2766 rfl (lv_at hl 4 rfl) ?_
  refine l_mr (l_mrun (n := 0) (rest := []) X Wd (K_thrown l Dm mb r.2 (r := r.2.2 81) rfl) ⟨w_1838, w_1839, w_1840, w_1841⟩ (hyX rfl (by decide +kernel)) rfl ⟨(Nat.le_of_ble_eq_true rfl), (Nat.le_of_ble_eq_true rfl)⟩ hl.1 (Nat.le_of_ble_eq_true rfl) dL_law_2767 rfl ⟨by omega, by omega⟩) ?_
  refine lv_iload hx hb dL_law_2770 (lv_at hl 1 rfl) ?_
  refine lv_icmp_eq (tgt := 2777) hx hb dL_law_2772 rfl (fun _ => ?_) (fun hc => absurd rfl hc)
  refine lv_iload hx hb dL_law_2777 (lv_at hl 1 rfl) ?_
  refine lv_if_ne (tgt := 2794) hx hb dL_law_2779 rfl (fun hc => ?_) (fun hc => ?_)
  · refine lv_goto (tgt := 2797) hx hb dL_law_2794 rfl ?_
    refine W.widen (k := cells + 13) (n := slots + 151) (by omega) (by omega) ?_
    exact kk _ _ _ H ls (hnx _ hn) Wd (lv_sub hl [2, 3, 4, 5, 6] rfl)
  · obtain ⟨u, hu⟩ := lcd_z3 hag.1 hc
    have hw9 := hx9 u hu
    have hw8 := hag.2 u hu
    refine lv_aload_n hx hb dL_law_2782 rfl (lv_at hl 5 rfl) ?_
    refine lv_iconst (v := 0) hx hb dL_law_2783 (by decide) ?_
    refine l_lald X Wd dL_law_2784 ?_
    refine lv_iload hx hb dL_law_2785 (lv_at hl 0 rfl) ?_
    refine lv_i2l (v := lvN r.1) hx hb dL_law_2787 rfl ?_
    refine W.lcmp hx hb dL_law_2788 ?_
    refine lv_if_eq (tgt := 2794) hx hb dL_law_2789 rfl (fun _ => ?_) (fun hc => absurd (by rw [hw9, hw8]; exact lg_cmp_self _) hc)
    refine lv_goto (tgt := 2797) hx hb dL_law_2794 rfl ?_
    refine W.widen (k := cells + 13) (n := slots + 151) (by omega) (by omega) ?_
    exact kk _ _ _ H ls (hnx _ hn) Wd (lv_sub hl [2, 3, 4, 5, 6] rfl)
