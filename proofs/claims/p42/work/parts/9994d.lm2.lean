set_option maxRecDepth 100000 in
theorem w_1176 : Cond.methodLink "CascaderyLaw" 106 yX11_why ∈ BG := bg_in 1176 (by decide +kernel) (by decide +kernel)
set_option maxRecDepth 100000 in
theorem w_1167 : Cond.methodLink "CascaderyLaw" 100 yX11_seen ∈ BG := bg_in 1167 (by decide +kernel) (by decide +kernel)
set_option maxRecDepth 100000 in
theorem w_1172 : Cond.methodLink "CascaderyLaw" 103 yX11_size ∈ BG := bg_in 1172 (by decide +kernel) (by decide +kernel)
set_option maxRecDepth 100000 in
theorem w_890 : Cond.methodLink "CascaderyLaw" 95 yL_value ∈ BG := bg_in 890 (by decide +kernel) (by decide +kernel)
set_option maxRecDepth 100000 in
theorem w_1166 : Cond.code yL_asks cL_asks 7 (some .boolean) ∈ BG := bg_in 1166 (by rfl) (by decide +kernel)
set_option maxRecDepth 100000 in
theorem w_1165 : Cond.static yL_asks ∈ BG := bg_in 1165 (by decide +kernel) (by decide +kernel)
theorem dL_asks_0 : decode cL_asks 0 = .ok (.aload_n 0, 1) := by decide +kernel
theorem dL_asks_1 : decode cL_asks 1 = .ok (.iconst 0, 1) := by decide +kernel
theorem dL_asks_2 : decode cL_asks 2 = .ok (.iconst 1, 1) := by decide +kernel
theorem dL_asks_3 : decode cL_asks 3 = .ok (.invokevirtual 60, 3) := by decide +kernel
theorem dL_asks_6 : decode cL_asks 6 = .ok (.istore_n 2, 1) := by decide +kernel
theorem dL_asks_7 : decode cL_asks 7 = .ok (.iconst 0, 1) := by decide +kernel
theorem dL_asks_8 : decode cL_asks 8 = .ok (.istore_n 3, 1) := by decide +kernel
theorem dL_asks_9 : decode cL_asks 9 = .ok (.iload_n 3, 1) := by decide +kernel
theorem dL_asks_10 : decode cL_asks 10 = .ok (.aload_n 1, 1) := by decide +kernel
theorem dL_asks_11 : decode cL_asks 11 = .ok (.iconst 0, 1) := by decide +kernel
theorem dL_asks_12 : decode cL_asks 12 = .ok (.iaload, 1) := by decide +kernel
theorem dL_asks_13 : decode cL_asks 13 = .ok (.if_icmp .ge 185, 3) := by decide +kernel
theorem dL_asks_16 : decode cL_asks 16 = .ok (.aload_n 0, 1) := by decide +kernel
theorem dL_asks_17 : decode cL_asks 17 = .ok (.iload_n 3, 1) := by decide +kernel
theorem dL_asks_18 : decode cL_asks 18 = .ok (.invokevirtual 69, 3) := by decide +kernel
theorem dL_asks_21 : decode cL_asks 21 = .ok (.istore 4, 2) := by decide +kernel
theorem dL_asks_23 : decode cL_asks 23 = .ok (.iconst 0, 1) := by decide +kernel
theorem dL_asks_24 : decode cL_asks 24 = .ok (.istore 5, 2) := by decide +kernel
theorem dL_asks_26 : decode cL_asks 26 = .ok (.iload 5, 2) := by decide +kernel
theorem dL_asks_28 : decode cL_asks 28 = .ok (.bipush 15, 2) := by decide +kernel
theorem dL_asks_30 : decode cL_asks 30 = .ok (.if_icmp .ge 74, 3) := by decide +kernel
theorem dL_asks_33 : decode cL_asks 33 = .ok (.aload_n 0, 1) := by decide +kernel
theorem dL_asks_34 : decode cL_asks 34 = .ok (.iload_n 3, 1) := by decide +kernel
theorem dL_asks_35 : decode cL_asks 35 = .ok (.iload 5, 2) := by decide +kernel
theorem dL_asks_37 : decode cL_asks 37 = .ok (.invokestatic 95, 3) := by decide +kernel
theorem dL_asks_40 : decode cL_asks 40 = .ok (.istore 6, 2) := by decide +kernel
theorem dL_asks_42 : decode cL_asks 42 = .ok (.iload 4, 2) := by decide +kernel
theorem dL_asks_44 : decode cL_asks 44 = .ok (.ifCond .ne 10, 3) := by decide +kernel
theorem dL_asks_47 : decode cL_asks 47 = .ok (.iload 6, 2) := by decide +kernel
theorem dL_asks_49 : decode cL_asks 49 = .ok (.ldc 65, 2) := by decide +kernel
theorem dL_asks_51 : decode cL_asks 51 = .ok (.if_icmp .ne 20, 3) := by decide +kernel
theorem dL_asks_54 : decode cL_asks 54 = .ok (.iload 4, 2) := by decide +kernel
theorem dL_asks_56 : decode cL_asks 56 = .ok (.ifCond .eq 17, 3) := by decide +kernel
theorem dL_asks_59 : decode cL_asks 59 = .ok (.iload 6, 2) := by decide +kernel
theorem dL_asks_61 : decode cL_asks 61 = .ok (.aload_n 0, 1) := by decide +kernel
theorem dL_asks_62 : decode cL_asks 62 = .ok (.iload_n 3, 1) := by decide +kernel
theorem dL_asks_63 : decode cL_asks 63 = .ok (.iload 5, 2) := by decide +kernel
theorem dL_asks_65 : decode cL_asks 65 = .ok (.invokevirtual 73, 3) := by decide +kernel
theorem dL_asks_68 : decode cL_asks 68 = .ok (.if_icmp .eq 5, 3) := by decide +kernel
theorem dL_asks_71 : decode cL_asks 71 = .ok (.iconst 0, 1) := by decide +kernel
theorem dL_asks_72 : decode cL_asks 72 = .ok (.ireturn, 1) := by decide +kernel
theorem dL_asks_73 : decode cL_asks 73 = .ok (.iload 4, 2) := by decide +kernel
theorem dL_asks_75 : decode cL_asks 75 = .ok (.ifCond .eq 23, 3) := by decide +kernel
theorem dL_asks_78 : decode cL_asks 78 = .ok (.iload 5, 2) := by decide +kernel
theorem dL_asks_80 : decode cL_asks 80 = .ok (.iconst 5, 1) := by decide +kernel
theorem dL_asks_81 : decode cL_asks 81 = .ok (.if_icmp .ge 17, 3) := by decide +kernel
theorem dL_asks_84 : decode cL_asks 84 = .ok (.aload_n 0, 1) := by decide +kernel
theorem dL_asks_85 : decode cL_asks 85 = .ok (.iload_n 3, 1) := by decide +kernel
theorem dL_asks_86 : decode cL_asks 86 = .ok (.iload 5, 2) := by decide +kernel
theorem dL_asks_88 : decode cL_asks 88 = .ok (.invokevirtual 100, 3) := by decide +kernel
theorem dL_asks_91 : decode cL_asks 91 = .ok (.iload 6, 2) := by decide +kernel
theorem dL_asks_93 : decode cL_asks 93 = .ok (.if_icmp .eq 5, 3) := by decide +kernel
theorem dL_asks_96 : decode cL_asks 96 = .ok (.iconst 0, 1) := by decide +kernel
theorem dL_asks_97 : decode cL_asks 97 = .ok (.ireturn, 1) := by decide +kernel
theorem dL_asks_98 : decode cL_asks 98 = .ok (.iinc 5 1, 3) := by decide +kernel
theorem dL_asks_101 : decode cL_asks 101 = .ok (.goto (-75), 3) := by decide +kernel
theorem dL_asks_104 : decode cL_asks 104 = .ok (.iload 4, 2) := by decide +kernel
theorem dL_asks_106 : decode cL_asks 106 = .ok (.ifCond .eq 40, 3) := by decide +kernel
theorem dL_asks_109 : decode cL_asks 109 = .ok (.aload_n 0, 1) := by decide +kernel
theorem dL_asks_110 : decode cL_asks 110 = .ok (.iload_n 3, 1) := by decide +kernel
theorem dL_asks_111 : decode cL_asks 111 = .ok (.bipush 6, 2) := by decide +kernel
theorem dL_asks_113 : decode cL_asks 113 = .ok (.invokevirtual 60, 3) := by decide +kernel
theorem dL_asks_116 : decode cL_asks 116 = .ok (.ifCond .gt 12, 3) := by decide +kernel
theorem dL_asks_119 : decode cL_asks 119 = .ok (.aload_n 0, 1) := by decide +kernel
theorem dL_asks_120 : decode cL_asks 120 = .ok (.iload_n 3, 1) := by decide +kernel
theorem dL_asks_121 : decode cL_asks 121 = .ok (.invokevirtual 103, 3) := by decide +kernel
theorem dL_asks_124 : decode cL_asks 124 = .ok (.iconst (-1), 1) := by decide +kernel
theorem dL_asks_125 : decode cL_asks 125 = .ok (.if_icmp .ne 19, 3) := by decide +kernel
theorem dL_asks_128 : decode cL_asks 128 = .ok (.iload_n 3, 1) := by decide +kernel
theorem dL_asks_129 : decode cL_asks 129 = .ok (.ifCond .le 17, 3) := by decide +kernel
theorem dL_asks_132 : decode cL_asks 132 = .ok (.aload_n 0, 1) := by decide +kernel
theorem dL_asks_133 : decode cL_asks 133 = .ok (.aload_n 0, 1) := by decide +kernel
theorem dL_asks_134 : decode cL_asks 134 = .ok (.iload_n 3, 1) := by decide +kernel
theorem dL_asks_135 : decode cL_asks 135 = .ok (.invokevirtual 66, 3) := by decide +kernel
theorem dL_asks_138 : decode cL_asks 138 = .ok (.invokevirtual 69, 3) := by decide +kernel
theorem dL_asks_141 : decode cL_asks 141 = .ok (.ifCond .ne 5, 3) := by decide +kernel
theorem dL_asks_144 : decode cL_asks 144 = .ok (.iconst 0, 1) := by decide +kernel
theorem dL_asks_145 : decode cL_asks 145 = .ok (.ireturn, 1) := by decide +kernel
theorem dL_asks_146 : decode cL_asks 146 = .ok (.iconst 0, 1) := by decide +kernel
theorem dL_asks_147 : decode cL_asks 147 = .ok (.istore 5, 2) := by decide +kernel
theorem dL_asks_149 : decode cL_asks 149 = .ok (.iload 5, 2) := by decide +kernel
theorem dL_asks_151 : decode cL_asks 151 = .ok (.aload_n 1, 1) := by decide +kernel
theorem dL_asks_152 : decode cL_asks 152 = .ok (.iconst 3, 1) := by decide +kernel
theorem dL_asks_153 : decode cL_asks 153 = .ok (.iaload, 1) := by decide +kernel
theorem dL_asks_154 : decode cL_asks 154 = .ok (.if_icmp .ge 38, 3) := by decide +kernel
theorem dL_asks_157 : decode cL_asks 157 = .ok (.iload 4, 2) := by decide +kernel
theorem dL_asks_159 : decode cL_asks 159 = .ok (.ifCond .eq 33, 3) := by decide +kernel
theorem dL_asks_162 : decode cL_asks 162 = .ok (.aload_n 0, 1) := by decide +kernel
theorem dL_asks_163 : decode cL_asks 163 = .ok (.iload_n 3, 1) := by decide +kernel
theorem dL_asks_164 : decode cL_asks 164 = .ok (.iconst 1, 1) := by decide +kernel
theorem dL_asks_165 : decode cL_asks 165 = .ok (.iload 5, 2) := by decide +kernel
theorem dL_asks_167 : decode cL_asks 167 = .ok (.invokevirtual 106, 3) := by decide +kernel
theorem dL_asks_170 : decode cL_asks 170 = .ok (.istore 6, 2) := by decide +kernel
theorem dL_asks_172 : decode cL_asks 172 = .ok (.iload 6, 2) := by decide +kernel
theorem dL_asks_174 : decode cL_asks 174 = .ok (.ifCond .lt 10, 3) := by decide +kernel
theorem dL_asks_177 : decode cL_asks 177 = .ok (.iload 6, 2) := by decide +kernel
theorem dL_asks_179 : decode cL_asks 179 = .ok (.bipush 11, 2) := by decide +kernel
theorem dL_asks_181 : decode cL_asks 181 = .ok (.if_icmp .le 5, 3) := by decide +kernel
theorem dL_asks_184 : decode cL_asks 184 = .ok (.iconst 0, 1) := by decide +kernel
theorem dL_asks_185 : decode cL_asks 185 = .ok (.ireturn, 1) := by decide +kernel
theorem dL_asks_186 : decode cL_asks 186 = .ok (.iinc 5 1, 3) := by decide +kernel
theorem dL_asks_189 : decode cL_asks 189 = .ok (.goto (-40), 3) := by decide +kernel
theorem dL_asks_192 : decode cL_asks 192 = .ok (.iinc 3 1, 3) := by decide +kernel
theorem dL_asks_195 : decode cL_asks 195 = .ok (.goto (-186), 3) := by decide +kernel
theorem dL_asks_198 : decode cL_asks 198 = .ok (.aload_n 0, 1) := by decide +kernel
theorem dL_asks_199 : decode cL_asks 199 = .ok (.invokevirtual 86, 3) := by decide +kernel
theorem dL_asks_202 : decode cL_asks 202 = .ok (.aload_n 1, 1) := by decide +kernel
theorem dL_asks_203 : decode cL_asks 203 = .ok (.iconst 4, 1) := by decide +kernel
theorem dL_asks_204 : decode cL_asks 204 = .ok (.iaload, 1) := by decide +kernel
theorem dL_asks_205 : decode cL_asks 205 = .ok (.if_icmp .lt 39, 3) := by decide +kernel
theorem dL_asks_208 : decode cL_asks 208 = .ok (.aload_n 0, 1) := by decide +kernel
theorem dL_asks_209 : decode cL_asks 209 = .ok (.invokevirtual 89, 3) := by decide +kernel
theorem dL_asks_212 : decode cL_asks 212 = .ok (.aload_n 1, 1) := by decide +kernel
theorem dL_asks_213 : decode cL_asks 213 = .ok (.iconst 5, 1) := by decide +kernel
theorem dL_asks_214 : decode cL_asks 214 = .ok (.iaload, 1) := by decide +kernel
theorem dL_asks_215 : decode cL_asks 215 = .ok (.if_icmp .lt 29, 3) := by decide +kernel
theorem dL_asks_218 : decode cL_asks 218 = .ok (.aload_n 0, 1) := by decide +kernel
theorem dL_asks_219 : decode cL_asks 219 = .ok (.invokevirtual 92, 3) := by decide +kernel
theorem dL_asks_222 : decode cL_asks 222 = .ok (.aload_n 1, 1) := by decide +kernel
theorem dL_asks_223 : decode cL_asks 223 = .ok (.bipush 6, 2) := by decide +kernel
theorem dL_asks_225 : decode cL_asks 225 = .ok (.iaload, 1) := by decide +kernel
theorem dL_asks_226 : decode cL_asks 226 = .ok (.if_icmp .lt 18, 3) := by decide +kernel
theorem dL_asks_229 : decode cL_asks 229 = .ok (.aload_n 0, 1) := by decide +kernel
theorem dL_asks_230 : decode cL_asks 230 = .ok (.invokevirtual 92, 3) := by decide +kernel
theorem dL_asks_233 : decode cL_asks 233 = .ok (.aload_n 0, 1) := by decide +kernel
theorem dL_asks_234 : decode cL_asks 234 = .ok (.invokevirtual 89, 3) := by decide +kernel
theorem dL_asks_237 : decode cL_asks 237 = .ok (.if_icmp .gt 7, 3) := by decide +kernel
theorem dL_asks_240 : decode cL_asks 240 = .ok (.iconst 1, 1) := by decide +kernel
theorem dL_asks_241 : decode cL_asks 241 = .ok (.goto 4, 3) := by decide +kernel
theorem dL_asks_244 : decode cL_asks 244 = .ok (.iconst 0, 1) := by decide +kernel
theorem dL_asks_245 : decode cL_asks 245 = .ok (.istore_n 3, 1) := by decide +kernel
theorem dL_asks_246 : decode cL_asks 246 = .ok (.aload_n 1, 1) := by decide +kernel
theorem dL_asks_247 : decode cL_asks 247 = .ok (.iconst 4, 1) := by decide +kernel
theorem dL_asks_248 : decode cL_asks 248 = .ok (.aload_n 0, 1) := by decide +kernel
theorem dL_asks_249 : decode cL_asks 249 = .ok (.invokevirtual 86, 3) := by decide +kernel
theorem dL_asks_252 : decode cL_asks 252 = .ok (.iastore, 1) := by decide +kernel
theorem dL_asks_253 : decode cL_asks 253 = .ok (.aload_n 1, 1) := by decide +kernel
theorem dL_asks_254 : decode cL_asks 254 = .ok (.iconst 5, 1) := by decide +kernel
theorem dL_asks_255 : decode cL_asks 255 = .ok (.aload_n 0, 1) := by decide +kernel
theorem dL_asks_256 : decode cL_asks 256 = .ok (.invokevirtual 89, 3) := by decide +kernel
theorem dL_asks_259 : decode cL_asks 259 = .ok (.iastore, 1) := by decide +kernel
theorem dL_asks_260 : decode cL_asks 260 = .ok (.aload_n 1, 1) := by decide +kernel
theorem dL_asks_261 : decode cL_asks 261 = .ok (.bipush 6, 2) := by decide +kernel
theorem dL_asks_263 : decode cL_asks 263 = .ok (.aload_n 0, 1) := by decide +kernel
theorem dL_asks_264 : decode cL_asks 264 = .ok (.invokevirtual 92, 3) := by decide +kernel
theorem dL_asks_267 : decode cL_asks 267 = .ok (.iastore, 1) := by decide +kernel
theorem dL_asks_268 : decode cL_asks 268 = .ok (.iload_n 3, 1) := by decide +kernel
theorem dL_asks_269 : decode cL_asks 269 = .ok (.ifCond .eq 41, 3) := by decide +kernel
theorem dL_asks_272 : decode cL_asks 272 = .ok (.aload_n 0, 1) := by decide +kernel
theorem dL_asks_273 : decode cL_asks 273 = .ok (.invokevirtual 82, 3) := by decide +kernel
theorem dL_asks_276 : decode cL_asks 276 = .ok (.ifCond .ne 34, 3) := by decide +kernel
theorem dL_asks_279 : decode cL_asks 279 = .ok (.iload_n 2, 1) := by decide +kernel
theorem dL_asks_280 : decode cL_asks 280 = .ok (.aload_n 0, 1) := by decide +kernel
theorem dL_asks_281 : decode cL_asks 281 = .ok (.iconst 0, 1) := by decide +kernel
theorem dL_asks_282 : decode cL_asks 282 = .ok (.iconst 1, 1) := by decide +kernel
theorem dL_asks_283 : decode cL_asks 283 = .ok (.invokevirtual 73, 3) := by decide +kernel
theorem dL_asks_286 : decode cL_asks 286 = .ok (.if_icmp .ne 24, 3) := by decide +kernel
theorem dL_asks_289 : decode cL_asks 289 = .ok (.aload_n 0, 1) := by decide +kernel
theorem dL_asks_290 : decode cL_asks 290 = .ok (.iconst 0, 1) := by decide +kernel
theorem dL_asks_291 : decode cL_asks 291 = .ok (.invokevirtual 66, 3) := by decide +kernel
theorem dL_asks_294 : decode cL_asks 294 = .ok (.iconst (-1), 1) := by decide +kernel
theorem dL_asks_295 : decode cL_asks 295 = .ok (.if_icmp .ne 15, 3) := by decide +kernel
theorem dL_asks_298 : decode cL_asks 298 = .ok (.aload_n 0, 1) := by decide +kernel
theorem dL_asks_299 : decode cL_asks 299 = .ok (.iconst 0, 1) := by decide +kernel
theorem dL_asks_300 : decode cL_asks 300 = .ok (.invokevirtual 69, 3) := by decide +kernel
theorem dL_asks_303 : decode cL_asks 303 = .ok (.ifCond .eq 7, 3) := by decide +kernel
theorem dL_asks_306 : decode cL_asks 306 = .ok (.iconst 1, 1) := by decide +kernel
theorem dL_asks_307 : decode cL_asks 307 = .ok (.goto 4, 3) := by decide +kernel
theorem dL_asks_310 : decode cL_asks 310 = .ok (.iconst 0, 1) := by decide +kernel
theorem dL_asks_311 : decode cL_asks 311 = .ok (.ireturn, 1) := by decide +kernel
def f_L_asks_311  (y0 : Int32) (V : lwS) : Option (Int32 × lwS) := zret y0 V
def f_L_asks_310   (V : lwS) : Option (Int32 × lwS) := f_L_asks_311 ((0:Int32)) V
def f_L_asks_245  (x1 : Nat) (x2 : Int32) (y0 : Int32) (V : lwS) : Option (Int32 × lwS) := (some ((V).1.2 51)).bind (fun v1 => (stA V x1 (4:Int32) v1).bind (fun v2 => (some ((v2).1.2 52)).bind (fun v3 => (stA v2 x1 (5:Int32) v3).bind (fun v4 => (some ((v4).1.2 53)).bind (fun v5 => (stA v4 x1 (6:Int32) v5).bind (fun v6 => if y0 = (0:Int32) then (f_L_asks_310 v6) else ((f_marked (v6).1).bind (fun v7 => if v7 = (0:Int32) then ((oC (f_valueAnew ((0:Int32)) ((1:Int32))) v6).bind (fun v8 => if x2 = v8.1 then ((oC (f_shownParent ((0:Int32))) v8.2).bind (fun v9 => if v9.1 = ((-1):Int32) then ((oZ (f_isIn ((0:Int32))) v9.2).bind (fun v10 => if v10.1 = (0:Int32) then (f_L_asks_310 v10.2) else (f_L_asks_311 ((1:Int32)) v10.2))) else (f_L_asks_310 v9.2))) else (f_L_asks_310 v8.2))) else (f_L_asks_310 v6)))))))))
def f_L_asks_244  (x1 : Nat) (x2 : Int32) (V : lwS) : Option (Int32 × lwS) := f_L_asks_245 (x1) (x2) ((0:Int32)) V
def f_L_asks_192 (k9 : Nat → Int32 → Int32 → lwS → Option (Int32 × lwS)) (x1 : Nat) (x2 : Int32) (x3 : Int32) (V : lwS) : Option (Int32 × lwS) := k9 (x1) (x2) ((x3 + (1:Int32))) V
def f_L_asks_184   (V : lwS) : Option (Int32 × lwS) := zret (0:Int32) V
def f_L_asks_149 (k9 : Nat → Int32 → Int32 → lwS → Option (Int32 × lwS)) : Nat → Nat → Int32 → Int32 → Int32 → Int32 → lwS → Option (Int32 × lwS)
  | 0, _, _, _, _, _, _ => none
  | n + 1, x1, x2, x3, x4, x5, V => (ldA V x1 (3:Int32)).bind (fun v1 => if v1 ≤ x5 then (f_L_asks_192 k9 (x1) (x2) (x3) V) else (if x4 = (0:Int32) then (f_L_asks_192 k9 (x1) (x2) (x3) V) else ((oC (f_why (x3) ((1:Int32)) (x5)) V).bind (fun v2 => if v2.1 < (0:Int32) then (f_L_asks_184 v2.2) else (if v2.1 ≤ (11:Int32) then (f_L_asks_149 k9 n (x1) (x2) (x3) (x4) ((x5 + (1:Int32))) v2.2) else (f_L_asks_184 v2.2))))))
def f_L_asks_146 (k9 : Nat → Int32 → Int32 → lwS → Option (Int32 × lwS)) (x1 : Nat) (x2 : Int32) (x3 : Int32) (x4 : Int32) (V : lwS) : Option (Int32 × lwS) := f_L_asks_149 k9 13 (x1) (x2) (x3) (x4) ((0:Int32)) V
def f_L_asks_144   (V : lwS) : Option (Int32 × lwS) := zret (0:Int32) V
def f_L_asks_128 (k9 : Nat → Int32 → Int32 → lwS → Option (Int32 × lwS)) (x1 : Nat) (x2 : Int32) (x3 : Int32) (x4 : Int32) (V : lwS) : Option (Int32 × lwS) := if x3 ≤ (0:Int32) then (f_L_asks_146 k9 (x1) (x2) (x3) (x4) V) else ((oC (f_shownParent (x3)) V).bind (fun v1 => (oZ (f_isIn (v1.1)) v1.2).bind (fun v2 => if v2.1 = (0:Int32) then (f_L_asks_144 v2.2) else (f_L_asks_146 k9 (x1) (x2) (x3) (x4) v2.2))))
def f_L_asks_98 (k9 : Nat → Int32 → Int32 → lwS → Option (Int32 × lwS)) (k26 : Nat → Int32 → Int32 → Int32 → Int32 → lwS → Option (Int32 × lwS)) (x1 : Nat) (x2 : Int32) (x3 : Int32) (x4 : Int32) (x5 : Int32) (V : lwS) : Option (Int32 × lwS) := k26 (x1) (x2) (x3) (x4) ((x5 + (1:Int32))) V
def f_L_asks_73 (k9 : Nat → Int32 → Int32 → lwS → Option (Int32 × lwS)) (k26 : Nat → Int32 → Int32 → Int32 → Int32 → lwS → Option (Int32 × lwS)) (x1 : Nat) (x2 : Int32) (x3 : Int32) (x4 : Int32) (x5 : Int32) (x6 : Int32) (V : lwS) : Option (Int32 × lwS) := if x4 = (0:Int32) then (f_L_asks_98 k9 k26 (x1) (x2) (x3) (x4) (x5) V) else (if (5:Int32) ≤ x5 then (f_L_asks_98 k9 k26 (x1) (x2) (x3) (x4) (x5) V) else ((oC (f_seen (x3) (x5)) V).bind (fun v1 => if v1.1 = x6 then (f_L_asks_98 k9 k26 (x1) (x2) (x3) (x4) (x5) v1.2) else (zret (0:Int32) v1.2))))
def f_L_asks_71   (V : lwS) : Option (Int32 × lwS) := zret (0:Int32) V
def f_L_asks_54 (k9 : Nat → Int32 → Int32 → lwS → Option (Int32 × lwS)) (k26 : Nat → Int32 → Int32 → Int32 → Int32 → lwS → Option (Int32 × lwS)) (x1 : Nat) (x2 : Int32) (x3 : Int32) (x4 : Int32) (x5 : Int32) (x6 : Int32) (V : lwS) : Option (Int32 × lwS) := if x4 = (0:Int32) then (f_L_asks_73 k9 k26 (x1) (x2) (x3) (x4) (x5) (x6) V) else ((oC (f_valueAnew (x3) (x5)) V).bind (fun v1 => if x6 = v1.1 then (f_L_asks_73 k9 k26 (x1) (x2) (x3) (x4) (x5) (x6) v1.2) else (f_L_asks_71 v1.2)))
def f_L_asks_26 (k9 : Nat → Int32 → Int32 → lwS → Option (Int32 × lwS)) : Nat → Nat → Int32 → Int32 → Int32 → Int32 → lwS → Option (Int32 × lwS)
  | 0, _, _, _, _, _, _ => none
  | n + 1, x1, x2, x3, x4, x5, V => if (15:Int32) ≤ x5 then (if x4 = (0:Int32) then (f_L_asks_146 k9 (x1) (x2) (x3) (x4) V) else ((oC (f_value (x3) ((6:Int32))) V).bind (fun v1 => if (0:Int32) < v1.1 then (f_L_asks_128 k9 (x1) (x2) (x3) (x4) v1.2) else ((oC (f_size (x3)) v1.2).bind (fun v2 => if v2.1 = ((-1):Int32) then (f_L_asks_128 k9 (x1) (x2) (x3) (x4) v2.2) else (f_L_asks_144 v2.2)))))) else ((f_L_value (x3) (x5) V).bind (fun v3 => if x4 = (0:Int32) then (if v3.1 = ((-2000004):Int32) then (f_L_asks_54 k9 (f_L_asks_26 k9 n) (x1) (x2) (x3) (x4) (x5) (v3.1) v3.2) else (f_L_asks_71 v3.2)) else (f_L_asks_54 k9 (f_L_asks_26 k9 n) (x1) (x2) (x3) (x4) (x5) (v3.1) v3.2)))
def f_L_asks_9  : Nat → Nat → Int32 → Int32 → lwS → Option (Int32 × lwS)
  | 0, _, _, _, _ => none
  | n + 1, x1, x2, x3, V => (ldA V x1 (0:Int32)).bind (fun v1 => if v1 ≤ x3 then ((some ((V).1.2 51)).bind (fun v2 => (ldA V x1 (4:Int32)).bind (fun v3 => if v2 < v3 then (f_L_asks_244 (x1) (x2) V) else ((some ((V).1.2 52)).bind (fun v4 => (ldA V x1 (5:Int32)).bind (fun v5 => if v4 < v5 then (f_L_asks_244 (x1) (x2) V) else ((some ((V).1.2 53)).bind (fun v6 => (ldA V x1 (6:Int32)).bind (fun v7 => if v6 < v7 then (f_L_asks_244 (x1) (x2) V) else ((some ((V).1.2 53)).bind (fun v8 => (some ((V).1.2 52)).bind (fun v9 => if v9 < v8 then (f_L_asks_244 (x1) (x2) V) else (f_L_asks_245 (x1) (x2) ((1:Int32)) V))))))))))))) else ((oZ (f_isIn (x3)) V).bind (fun v10 => f_L_asks_26 (f_L_asks_9 n) 16 (x1) (x2) (x3) (v10.1) ((0:Int32)) v10.2)))
def f_L_asks (x1 : Nat) (V : lwS) : Option (Int32 × lwS) := (oC (f_value ((0:Int32)) ((1:Int32))) V).bind (fun v1 => f_L_asks_9 13 (x1) (v1.1) ((0:Int32)) v1.2)
set_option maxRecDepth 20000 in
set_option maxHeartbeats 4000000 in
theorem N_L_asks_311 {p : Program} {l : Launch} {e : Env} {s : State} {m : MethodId} {args : Array Value} {below : List Frame} {meth : Method} {c : Code} {D : cD} {b : Nat × Nat}   {y0 : Int32} {V : lwS} {H : Heap} {locs : List Loc} {cells slots : Nat} {ls : Array Slot} {q : Int32 × lwS} (X : lwX p s m args meth c cL_asks 7 (some .boolean) D b) (hl9 : l.stackTraces = false) (hI : lwI D b V H) (hS : va_S (cReg (lwO b)) s.heap H locs) (hBc : cells + (0 + 0) ≤ 2915) (hBs : slots + (0 + 0) ≤ 17490)  (hl : lv_has ls 7 []) (h : f_L_asks_311  y0 V = some q) : W p l e (rA 9 2915 17490 224) s m args below meth c H locs cells slots (MQ below (lwQ D b q.2 (some (.int q.1))) args s 2915 17490 (cReg (lwO b))) (F0 m 311 ls [.int y0]) := by
  have hx := X.1.1
  have hb := X.1.2.1
  have hown := X.1.2.2.2.1
  have hts := X.1.2.2.2.2.1
  have h : (zret y0 V) = some q := h
  obtain ⟨hz, hq⟩ := zret_spec h
  subst hq
  exact l_rz hz X hI hS (by omega) (by omega) dL_asks_311
set_option maxRecDepth 20000 in
set_option maxHeartbeats 4000000 in
theorem N_L_asks_310 {p : Program} {l : Launch} {e : Env} {s : State} {m : MethodId} {args : Array Value} {below : List Frame} {meth : Method} {c : Code} {D : cD} {b : Nat × Nat}    {V : lwS} {H : Heap} {locs : List Loc} {cells slots : Nat} {ls : Array Slot} {q : Int32 × lwS} (X : lwX p s m args meth c cL_asks 7 (some .boolean) D b) (hl9 : l.stackTraces = false) (hI : lwI D b V H) (hS : va_S (cReg (lwO b)) s.heap H locs) (hBc : cells + (0 + 0) ≤ 2915) (hBs : slots + (0 + 0) ≤ 17490)  (hl : lv_has ls 7 []) (h : f_L_asks_310   V = some q) : W p l e (rA 9 2915 17490 224) s m args below meth c H locs cells slots (MQ below (lwQ D b q.2 (some (.int q.1))) args s 2915 17490 (cReg (lwO b))) (F0 m 310 ls []) := by
  have hx := X.1.1
  have hb := X.1.2.1
  have hown := X.1.2.2.2.1
  have hts := X.1.2.2.2.2.1
  have h : (f_L_asks_311 ((0:Int32)) V) = some q := h
  refine lv_iconst (v := (0:Int32)) hx hb dL_asks_310 (by decide) ?_
  exact N_L_asks_311 X hl9 hI hS (by omega) (by omega) (lv_sub hl [] rfl) h
set_option maxRecDepth 20000 in
set_option maxHeartbeats 4000000 in
theorem N_L_asks_245 {p : Program} {l : Launch} {e : Env} {s : State} {m : MethodId} {args : Array Value} {below : List Frame} {meth : Method} {c : Code} {D : cD} {b : Nat × Nat}   {x1 : Nat} {x2 : Int32} {y0 : Int32} {V : lwS} {H : Heap} {locs : List Loc} {cells slots : Nat} {ls : Array Slot} {q : Int32 × lwS} (X : lwX p s m args meth c cL_asks 7 (some .boolean) D b) (hl9 : l.stackTraces = false) (hI : lwI D b V H) (hS : va_S (cReg (lwO b)) s.heap H locs) (hBc : cells + (5 + 0) ≤ 2915) (hBs : slots + (30 + 0) ≤ 17490)  (hl : lv_has ls 7 [(0, cv (lwO b) (some 1)), (1, .ref x1), (2, .int x2)]) (h : f_L_asks_245  x1 x2 y0 V = some q) : W p l e (rA 9 2915 17490 224) s m args below meth c H locs cells slots (MQ below (lwQ D b q.2 (some (.int q.1))) args s 2915 17490 (cReg (lwO b))) (F0 m 245 ls [.int y0]) := by
  have hx := X.1.1
  have hb := X.1.2.1
  have hown := X.1.2.2.2.1
  have hts := X.1.2.2.2.2.1
  have h : ((some ((V).1.2 51)).bind (fun v1 => (stA V x1 (4:Int32) v1).bind (fun v2 => (some ((v2).1.2 52)).bind (fun v3 => (stA v2 x1 (5:Int32) v3).bind (fun v4 => (some ((v4).1.2 53)).bind (fun v5 => (stA v4 x1 (6:Int32) v5).bind (fun v6 => if y0 = (0:Int32) then (f_L_asks_310 v6) else ((f_marked (v6).1).bind (fun v7 => if v7 = (0:Int32) then ((oC (f_valueAnew ((0:Int32)) ((1:Int32))) v6).bind (fun v8 => if x2 = v8.1 then ((oC (f_shownParent ((0:Int32))) v8.2).bind (fun v9 => if v9.1 = ((-1):Int32) then ((oZ (f_isIn ((0:Int32))) v9.2).bind (fun v10 => if v10.1 = (0:Int32) then (f_L_asks_310 v10.2) else (f_L_asks_311 ((1:Int32)) v10.2))) else (f_L_asks_310 v9.2))) else (f_L_asks_310 v8.2))) else (f_L_asks_310 v6)))))))))) = some q := h
  refine c_istore_n hx hb dL_asks_245 rfl hl (Nat.le_of_ble_eq_true rfl) (lvKa rfl (lvKa rfl (lvKi lvK0))) rfl (fun ls (hl : lv_has ls 7 [(3, .int y0), (0, cv (lwO b) (some 1)), (1, .ref x1), (2, .int x2)]) => ?_)
  refine lv_aload_n hx hb dL_asks_246 rfl (lv_at hl 2 rfl) ?_
  refine lv_iconst (v := (4:Int32)) hx hb dL_asks_247 (by decide) ?_
  refine c_aload_n hx hb dL_asks_248 rfl (lv_at hl 1 rfl) ?_
  obtain ⟨v1, hv1, h⟩ := ob h
  refine l_clr (V := V) (v := v1) (f := f_X11_flushes 1) X hI hS (fun S r hr => K_X11_flushes l D (lwF b (V).2.2) S 1 hr) (fun S hS => D_flushes hS hv1) ⟨w_1149, ww_X11_flushes⟩ rfl hy_X11_flushes rfl ⟨(Nat.le_of_ble_eq_true rfl), (Nat.le_of_ble_eq_true rfl)⟩ hl.1 (Nat.le_of_ble_eq_true rfl) dL_asks_249 rfl ⟨by omega, by omega⟩ ?_
  obtain ⟨v2, hv2, h⟩ := ob h
  refine l_ast X hI hS hv2 dL_asks_252 (fun H locs hI hS => ?_)
  refine lv_aload_n hx hb dL_asks_253 rfl (lv_at hl 2 rfl) ?_
  refine lv_iconst (v := (5:Int32)) hx hb dL_asks_254 (by decide) ?_
  refine c_aload_n hx hb dL_asks_255 rfl (lv_at hl 1 rfl) ?_
  obtain ⟨v3, hv3, h⟩ := ob h
  refine l_clr (V := v2) (v := v3) (f := f_X11_restyled 1) X hI hS (fun S r hr => K_X11_restyled l D (lwF b (v2).2.2) S 1 hr) (fun S hS => D_restyled hS hv3) ⟨w_1153, ww_X11_restyled⟩ rfl hy_X11_restyled rfl ⟨(Nat.le_of_ble_eq_true rfl), (Nat.le_of_ble_eq_true rfl)⟩ hl.1 (Nat.le_of_ble_eq_true rfl) dL_asks_256 rfl ⟨by omega, by omega⟩ ?_
  obtain ⟨v4, hv4, h⟩ := ob h
  refine l_ast X hI hS hv4 dL_asks_259 (fun H locs hI hS => ?_)
  refine lv_aload_n hx hb dL_asks_260 rfl (lv_at hl 2 rfl) ?_
  refine lv_bipush (v := (6:Int32)) hx hb dL_asks_261 (by decide) ?_
  refine c_aload_n hx hb dL_asks_263 rfl (lv_at hl 1 rfl) ?_
  obtain ⟨v5, hv5, h⟩ := ob h
  refine l_clr (V := v4) (v := v5) (f := f_X11_shared 1) X hI hS (fun S r hr => K_X11_shared l D (lwF b (v4).2.2) S 1 hr) (fun S hS => D_shared hS hv5) ⟨w_1157, ww_X11_shared⟩ rfl hy_X11_shared rfl ⟨(Nat.le_of_ble_eq_true rfl), (Nat.le_of_ble_eq_true rfl)⟩ hl.1 (Nat.le_of_ble_eq_true rfl) dL_asks_264 rfl ⟨by omega, by omega⟩ ?_
  obtain ⟨v6, hv6, h⟩ := ob h
  refine l_ast X hI hS hv6 dL_asks_267 (fun H locs hI hS => ?_)
  refine lv_iload_n hx hb dL_asks_268 rfl (lv_at hl 0 rfl) ?_
  refine lv_if_eq (tgt := 310) hx hb dL_asks_269 rfl (fun hc => ?_) (fun hc => ?_)
  · have h := ip hc h
    exact N_L_asks_310 X hl9 hI hS (by omega) (by omega) (lv_sub hl [] rfl) h
  · have h := ine hc h
    refine c_aload_n hx hb dL_asks_272 rfl (lv_at hl 1 rfl) ?_
    obtain ⟨v7, hv7, h⟩ := ob h
    refine l_clr (V := v6) (v := v7) (f := f_X11_marked 1) X hI hS (fun S r hr => K_X11_marked l D (lwF b (v6).2.2) S 1 hr) (fun S hS => D_marked hS hv7) ⟨w_1145, ww_X11_marked⟩ rfl hy_X11_marked rfl ⟨(Nat.le_of_ble_eq_true rfl), (Nat.le_of_ble_eq_true rfl)⟩ hl.1 (Nat.le_of_ble_eq_true rfl) dL_asks_273 rfl ⟨by omega, by omega⟩ ?_
    refine lv_if_ne (tgt := 310) hx hb dL_asks_276 rfl (fun hc => ?_) (fun hc => ?_)
    · have h := ine hc h
      exact N_L_asks_310 X hl9 hI hS (by omega) (by omega) (lv_sub hl [] rfl) h
    · have h := ip hc h
      refine lv_iload_n hx hb dL_asks_279 rfl (lv_at hl 3 rfl) ?_
      refine c_aload_n hx hb dL_asks_280 rfl (lv_at hl 1 rfl) ?_
      refine lv_iconst (v := (0:Int32)) hx hb dL_asks_281 (by decide) ?_
      refine lv_iconst (v := (1:Int32)) hx hb dL_asks_282 (by decide) ?_
      obtain ⟨v8, hv8, h⟩ := ob h
      refine l_cls (V := v6) (V' := v8.2) (f := f_X11_valueAnew 1 ((0:Int32)) ((1:Int32))) X hI hS (fun S q hq => K_X11_valueAnew l hl9 D (lwF b (v6).2.2) S 1 ((0:Int32)) ((1:Int32)) hq) (D_valueAnew hv8).2 (D_valueAnew hv8).1 ⟨w_1120, ww_X11_valueAnew⟩ rfl hy_X11_valueAnew rfl ⟨(Nat.le_of_ble_eq_true rfl), (Nat.le_of_ble_eq_true rfl)⟩ hl.1 (Nat.le_of_ble_eq_true rfl) dL_asks_283 rfl ⟨by omega, by omega⟩ (fun u H locs hu hI hS => ?_)
      subst hu
      refine W.eq (g2 := F0 m 286 ls [.int v8.1, .int x2]) rfl ?_
      refine lv_icmp_ne (tgt := 310) hx hb dL_asks_286 rfl (fun hc => ?_) (fun hc => ?_)
      · have h := ine hc h
        exact N_L_asks_310 X hl9 hI hS (by omega) (by omega) (lv_sub hl [] rfl) h
      · have h := ip hc h
        refine c_aload_n hx hb dL_asks_289 rfl (lv_at hl 1 rfl) ?_
        refine lv_iconst (v := (0:Int32)) hx hb dL_asks_290 (by decide) ?_
        obtain ⟨v9, hv9, h⟩ := ob h
        refine l_cls (V := v8.2) (V' := v9.2) (f := f_X11_shownParent 1 ((0:Int32))) X hI hS (fun S q hq => K_X11_shownParent l hl9 D (lwF b (v8.2).2.2) S 1 ((0:Int32)) hq) (D_shownParent hv9).2 (D_shownParent hv9).1 ⟨w_1112, ww_X11_shownParent⟩ rfl hy_X11_shownParent rfl ⟨(Nat.le_of_ble_eq_true rfl), (Nat.le_of_ble_eq_true rfl)⟩ hl.1 (Nat.le_of_ble_eq_true rfl) dL_asks_291 rfl ⟨by omega, by omega⟩ (fun u H locs hu hI hS => ?_)
        subst hu
        refine W.eq (g2 := F0 m 294 ls [.int v9.1]) rfl ?_
        refine lv_iconst (v := ((-1):Int32)) hx hb dL_asks_294 (by decide) ?_
        refine lv_icmp_ne (tgt := 310) hx hb dL_asks_295 rfl (fun hc => ?_) (fun hc => ?_)
        · have h := ine hc h
          exact N_L_asks_310 X hl9 hI hS (by omega) (by omega) (lv_sub hl [] rfl) h
        · have h := ip hc h
          refine c_aload_n hx hb dL_asks_298 rfl (lv_at hl 1 rfl) ?_
          refine lv_iconst (v := (0:Int32)) hx hb dL_asks_299 (by decide) ?_
          obtain ⟨v10, hv10, h⟩ := ob h
          refine l_cls (V := v9.2) (V' := v10.2) (f := f_X11_isIn 1 ((0:Int32))) X hI hS (fun S q hq => K_X11_isIn l hl9 D (lwF b (v9.2).2.2) S 1 ((0:Int32)) hq) (D_isIn hv10).2 (D_isIn hv10).1 ⟨w_1116, ww_X11_isIn⟩ rfl hy_X11_isIn rfl ⟨(Nat.le_of_ble_eq_true rfl), (Nat.le_of_ble_eq_true rfl)⟩ hl.1 (Nat.le_of_ble_eq_true rfl) dL_asks_300 rfl ⟨by omega, by omega⟩ (fun u H locs hu hI hS => ?_)
          subst hu
          refine W.eq (g2 := F0 m 303 ls [.int v10.1]) rfl ?_
          refine lv_if_eq (tgt := 310) hx hb dL_asks_303 rfl (fun hc => ?_) (fun hc => ?_)
          · have h := ip hc h
            exact N_L_asks_310 X hl9 hI hS (by omega) (by omega) (lv_sub hl [] rfl) h
          · have h := ine hc h
            refine lv_iconst (v := (1:Int32)) hx hb dL_asks_306 (by decide) ?_
            refine lv_goto (tgt := 311) hx hb dL_asks_307 rfl ?_
            exact N_L_asks_311 X hl9 hI hS (by omega) (by omega) (lv_sub hl [] rfl) h
set_option maxRecDepth 20000 in
set_option maxHeartbeats 4000000 in
theorem N_L_asks_244 {p : Program} {l : Launch} {e : Env} {s : State} {m : MethodId} {args : Array Value} {below : List Frame} {meth : Method} {c : Code} {D : cD} {b : Nat × Nat}   {x1 : Nat} {x2 : Int32} {V : lwS} {H : Heap} {locs : List Loc} {cells slots : Nat} {ls : Array Slot} {q : Int32 × lwS} (X : lwX p s m args meth c cL_asks 7 (some .boolean) D b) (hl9 : l.stackTraces = false) (hI : lwI D b V H) (hS : va_S (cReg (lwO b)) s.heap H locs) (hBc : cells + (5 + 0) ≤ 2915) (hBs : slots + (30 + 0) ≤ 17490)  (hl : lv_has ls 7 [(0, cv (lwO b) (some 1)), (1, .ref x1), (2, .int x2)]) (h : f_L_asks_244  x1 x2 V = some q) : W p l e (rA 9 2915 17490 224) s m args below meth c H locs cells slots (MQ below (lwQ D b q.2 (some (.int q.1))) args s 2915 17490 (cReg (lwO b))) (F0 m 244 ls []) := by
  have hx := X.1.1
  have hb := X.1.2.1
  have hown := X.1.2.2.2.1
  have hts := X.1.2.2.2.2.1
  have h : (f_L_asks_245 (x1) (x2) ((0:Int32)) V) = some q := h
  refine lv_iconst (v := (0:Int32)) hx hb dL_asks_244 (by decide) ?_
  exact N_L_asks_245 X hl9 hI hS (by omega) (by omega) (lv_sub hl [0, 1, 2] rfl) h
set_option maxRecDepth 20000 in
set_option maxHeartbeats 4000000 in
theorem N_L_asks_192 {p : Program} {l : Launch} {e : Env} {s : State} {m : MethodId} {args : Array Value} {below : List Frame} {meth : Method} {c : Code} {D : cD} {b : Nat × Nat} {k9 : Nat → Int32 → Int32 → lwS → Option (Int32 × lwS)}  {r9 t9 : Nat} {x1 : Nat} {x2 : Int32} {x3 : Int32} {V : lwS} {H : Heap} {locs : List Loc} {cells slots : Nat} {ls : Array Slot} {q : Int32 × lwS} (X : lwX p s m args meth c cL_asks 7 (some .boolean) D b) (hl9 : l.stackTraces = false) (hI : lwI D b V H) (hS : va_S (cReg (lwO b)) s.heap H locs) (hBc : cells + (0 + r9) ≤ 2915) (hBs : slots + (0 + t9) ≤ 17490) (hk9 : ∀ {x1 : Nat} {x2 : Int32} {x3 : Int32} {V : lwS} {H : Heap} {locs : List Loc} {cells slots : Nat} {ls : Array Slot}, lwI D b V H → va_S (cReg (lwO b)) s.heap H locs → cells + r9 ≤ 2915 → slots + t9 ≤ 17490 → lv_has ls 7 [(0, cv (lwO b) (some 1)), (1, .ref x1), (2, .int x2), (3, .int x3)] → k9 x1 x2 x3 V = some q → W p l e (rA 9 2915 17490 224) s m args below meth c H locs cells slots (MQ below (lwQ D b q.2 (some (.int q.1))) args s 2915 17490 (cReg (lwO b))) (F0 m 9 ls [])) (hl : lv_has ls 7 [(0, cv (lwO b) (some 1)), (1, .ref x1), (2, .int x2), (3, .int x3)]) (h : f_L_asks_192 k9 x1 x2 x3 V = some q) : W p l e (rA 9 2915 17490 224) s m args below meth c H locs cells slots (MQ below (lwQ D b q.2 (some (.int q.1))) args s 2915 17490 (cReg (lwO b))) (F0 m 192 ls []) := by
  have hx := X.1.1
  have hb := X.1.2.1
  have hown := X.1.2.2.2.1
  have hts := X.1.2.2.2.2.1
  have h : (k9 (x1) (x2) ((x3 + (1:Int32))) V) = some q := h
  refine c_iinc (v := (x3 + (1:Int32))) hx hb dL_asks_192 hl (k := 3) rfl rfl (Nat.le_of_ble_eq_true rfl) (lvKa rfl (lvKa rfl (lvKi (lvKa rfl lvK0)))) rfl (fun ls (hl : lv_has ls 7 [(3, .int (x3 + (1:Int32))), (0, cv (lwO b) (some 1)), (1, .ref x1), (2, .int x2)]) => ?_)
  refine lv_goto (tgt := 9) hx hb dL_asks_195 rfl ?_
  exact hk9 hI hS (by omega) (by omega) (lv_sub hl [1, 2, 3, 0] rfl) h
set_option maxRecDepth 20000 in
set_option maxHeartbeats 4000000 in
theorem N_L_asks_184 {p : Program} {l : Launch} {e : Env} {s : State} {m : MethodId} {args : Array Value} {below : List Frame} {meth : Method} {c : Code} {D : cD} {b : Nat × Nat}    {V : lwS} {H : Heap} {locs : List Loc} {cells slots : Nat} {ls : Array Slot} {q : Int32 × lwS} (X : lwX p s m args meth c cL_asks 7 (some .boolean) D b) (hl9 : l.stackTraces = false) (hI : lwI D b V H) (hS : va_S (cReg (lwO b)) s.heap H locs) (hBc : cells + (0 + 0) ≤ 2915) (hBs : slots + (0 + 0) ≤ 17490)  (hl : lv_has ls 7 []) (h : f_L_asks_184   V = some q) : W p l e (rA 9 2915 17490 224) s m args below meth c H locs cells slots (MQ below (lwQ D b q.2 (some (.int q.1))) args s 2915 17490 (cReg (lwO b))) (F0 m 184 ls []) := by
  have hx := X.1.1
  have hb := X.1.2.1
  have hown := X.1.2.2.2.1
  have hts := X.1.2.2.2.2.1
  have h : (zret (0:Int32) V) = some q := h
  refine lv_iconst (v := (0:Int32)) hx hb dL_asks_184 (by decide) ?_
  obtain ⟨hz, hq⟩ := zret_spec h
  subst hq
  exact l_rz hz X hI hS (by omega) (by omega) dL_asks_185
set_option maxRecDepth 20000 in
set_option maxHeartbeats 4000000 in
theorem N_L_asks_149 {p : Program} {l : Launch} {e : Env} {s : State} {m : MethodId} {args : Array Value} {below : List Frame} {meth : Method} {c : Code} {D : cD} {b : Nat × Nat} {k9 : Nat → Int32 → Int32 → lwS → Option (Int32 × lwS)} {n : Nat} {r9 t9 : Nat} {x1 : Nat} {x2 : Int32} {x3 : Int32} {x4 : Int32} {x5 : Int32} {V : lwS} {H : Heap} {locs : List Loc} {cells slots : Nat} {ls : Array Slot} {q : Int32 × lwS} (X : lwX p s m args meth c cL_asks 7 (some .boolean) D b) (hl9 : l.stackTraces = false) (hI : lwI D b V H) (hS : va_S (cReg (lwO b)) s.heap H locs) (hBc : cells + (n * 4 + 4 + r9) ≤ 2915) (hBs : slots + (n * 24 + 24 + t9) ≤ 17490) (hk9 : ∀ {x1 : Nat} {x2 : Int32} {x3 : Int32} {V : lwS} {H : Heap} {locs : List Loc} {cells slots : Nat} {ls : Array Slot}, lwI D b V H → va_S (cReg (lwO b)) s.heap H locs → cells + r9 ≤ 2915 → slots + t9 ≤ 17490 → lv_has ls 7 [(0, cv (lwO b) (some 1)), (1, .ref x1), (2, .int x2), (3, .int x3)] → k9 x1 x2 x3 V = some q → W p l e (rA 9 2915 17490 224) s m args below meth c H locs cells slots (MQ below (lwQ D b q.2 (some (.int q.1))) args s 2915 17490 (cReg (lwO b))) (F0 m 9 ls [])) (hl : lv_has ls 7 [(0, cv (lwO b) (some 1)), (1, .ref x1), (2, .int x2), (3, .int x3), (4, .int x4), (5, .int x5)]) (h : f_L_asks_149 k9 n x1 x2 x3 x4 x5 V = some q) : W p l e (rA 9 2915 17490 224) s m args below meth c H locs cells slots (MQ below (lwQ D b q.2 (some (.int q.1))) args s 2915 17490 (cReg (lwO b))) (F0 m 149 ls []) := by
  have hx := X.1.1
  have hb := X.1.2.1
  have hown := X.1.2.2.2.1
  have hts := X.1.2.2.2.2.1
  induction n generalizing x1 x2 x3 x4 x5 V H locs cells slots ls with
  | zero => exact absurd (show none = some q from h) (by simp)
  | succ n ih =>
    have h : ((ldA V x1 (3:Int32)).bind (fun v1 => if v1 ≤ x5 then (f_L_asks_192 k9 (x1) (x2) (x3) V) else (if x4 = (0:Int32) then (f_L_asks_192 k9 (x1) (x2) (x3) V) else ((oC (f_why (x3) ((1:Int32)) (x5)) V).bind (fun v2 => if v2.1 < (0:Int32) then (f_L_asks_184 v2.2) else (if v2.1 ≤ (11:Int32) then (f_L_asks_149 k9 n (x1) (x2) (x3) (x4) ((x5 + (1:Int32))) v2.2) else (f_L_asks_184 v2.2))))))) = some q := h
    refine lv_iload hx hb dL_asks_149 (lv_at hl 5 rfl) ?_
    refine lv_aload_n hx hb dL_asks_151 rfl (lv_at hl 1 rfl) ?_
    refine lv_iconst (v := (3:Int32)) hx hb dL_asks_152 (by decide) ?_
    obtain ⟨v1, hv1, h⟩ := ob h
    refine l_ald X hI hv1 dL_asks_153 ?_
    refine lv_icmp_ge (tgt := 192) hx hb dL_asks_154 rfl (fun hc => ?_) (fun hc => ?_)
    · have h := ip hc h
      exact N_L_asks_192 (r9 := r9) (t9 := t9) X hl9 hI hS (by omega) (by omega) hk9 (lv_sub hl [0, 1, 2, 3] rfl) h
    · have h := ine hc h
      refine lv_iload hx hb dL_asks_157 (lv_at hl 4 rfl) ?_
      refine lv_if_eq (tgt := 192) hx hb dL_asks_159 rfl (fun hc => ?_) (fun hc => ?_)
      · have h := ip hc h
        exact N_L_asks_192 (r9 := r9) (t9 := t9) X hl9 hI hS (by omega) (by omega) hk9 (lv_sub hl [0, 1, 2, 3] rfl) h
      · have h := ine hc h
        refine c_aload_n hx hb dL_asks_162 rfl (lv_at hl 0 rfl) ?_
        refine lv_iload_n hx hb dL_asks_163 rfl (lv_at hl 3 rfl) ?_
        refine lv_iconst (v := (1:Int32)) hx hb dL_asks_164 (by decide) ?_
        refine lv_iload hx hb dL_asks_165 (lv_at hl 5 rfl) ?_
        obtain ⟨v2, hv2, h⟩ := ob h
        refine l_cls (V := V) (V' := v2.2) (f := f_X11_why 1 (x3) ((1:Int32)) (x5)) X hI hS (fun S q hq => K_X11_why l hl9 D (lwF b (V).2.2) S 1 (x3) ((1:Int32)) (x5) hq) (D_why hv2).2 (D_why hv2).1 ⟨w_1176, ww_X11_why⟩ rfl hy_X11_why rfl ⟨(Nat.le_of_ble_eq_true rfl), (Nat.le_of_ble_eq_true rfl)⟩ hl.1 (Nat.le_of_ble_eq_true rfl) dL_asks_167 rfl ⟨by omega, by omega⟩ (fun u H locs hu hI hS => ?_)
        subst hu
        refine W.eq (g2 := F0 m 170 ls [.int v2.1]) rfl ?_
        refine c_istore hx hb dL_asks_170 hl (Nat.le_of_ble_eq_true rfl) (lvKa rfl (lvKa rfl (lvKa rfl (lvKa rfl (lvKa rfl (lvKi lvK0)))))) rfl (fun ls (hl : lv_has ls 7 [(6, .int v2.1), (0, cv (lwO b) (some 1)), (1, .ref x1), (2, .int x2), (3, .int x3), (4, .int x4), (5, .int x5)]) => ?_)
        refine lv_iload hx hb dL_asks_172 (lv_at hl 0 rfl) ?_
        refine lv_if_lt (tgt := 184) hx hb dL_asks_174 rfl (fun hc => ?_) (fun hc => ?_)
        · have h := ip hc h
          exact N_L_asks_184 X hl9 hI hS (by omega) (by omega) (lv_sub hl [] rfl) h
        · have h := ine hc h
          refine lv_iload hx hb dL_asks_177 (lv_at hl 0 rfl) ?_
          refine lv_bipush (v := (11:Int32)) hx hb dL_asks_179 (by decide) ?_
          refine lv_icmp_le (tgt := 186) hx hb dL_asks_181 rfl (fun hc => ?_) (fun hc => ?_)
          · have h := ip hc h
            refine c_iinc (v := (x5 + (1:Int32))) hx hb dL_asks_186 hl (k := 6) rfl rfl (Nat.le_of_ble_eq_true rfl) (lvKa rfl (lvKa rfl (lvKa rfl (lvKa rfl (lvKa rfl (lvKi (lvKa rfl lvK0))))))) rfl (fun ls (hl : lv_has ls 7 [(5, .int (x5 + (1:Int32))), (6, .int v2.1), (0, cv (lwO b) (some 1)), (1, .ref x1), (2, .int x2), (3, .int x3), (4, .int x4)]) => ?_)
            refine lv_goto (tgt := 149) hx hb dL_asks_189 rfl ?_
            exact ih hI hS (by omega) (by omega) (lv_sub hl [2, 3, 4, 5, 6, 0] rfl) h
          · have h := ine hc h
            exact N_L_asks_184 X hl9 hI hS (by omega) (by omega) (lv_sub hl [] rfl) h
set_option maxRecDepth 20000 in
set_option maxHeartbeats 4000000 in
theorem N_L_asks_146 {p : Program} {l : Launch} {e : Env} {s : State} {m : MethodId} {args : Array Value} {below : List Frame} {meth : Method} {c : Code} {D : cD} {b : Nat × Nat} {k9 : Nat → Int32 → Int32 → lwS → Option (Int32 × lwS)}  {r9 t9 : Nat} {x1 : Nat} {x2 : Int32} {x3 : Int32} {x4 : Int32} {V : lwS} {H : Heap} {locs : List Loc} {cells slots : Nat} {ls : Array Slot} {q : Int32 × lwS} (X : lwX p s m args meth c cL_asks 7 (some .boolean) D b) (hl9 : l.stackTraces = false) (hI : lwI D b V H) (hS : va_S (cReg (lwO b)) s.heap H locs) (hBc : cells + (56 + r9) ≤ 2915) (hBs : slots + (336 + t9) ≤ 17490) (hk9 : ∀ {x1 : Nat} {x2 : Int32} {x3 : Int32} {V : lwS} {H : Heap} {locs : List Loc} {cells slots : Nat} {ls : Array Slot}, lwI D b V H → va_S (cReg (lwO b)) s.heap H locs → cells + r9 ≤ 2915 → slots + t9 ≤ 17490 → lv_has ls 7 [(0, cv (lwO b) (some 1)), (1, .ref x1), (2, .int x2), (3, .int x3)] → k9 x1 x2 x3 V = some q → W p l e (rA 9 2915 17490 224) s m args below meth c H locs cells slots (MQ below (lwQ D b q.2 (some (.int q.1))) args s 2915 17490 (cReg (lwO b))) (F0 m 9 ls [])) (hl : lv_has ls 7 [(0, cv (lwO b) (some 1)), (1, .ref x1), (2, .int x2), (3, .int x3), (4, .int x4)]) (h : f_L_asks_146 k9 x1 x2 x3 x4 V = some q) : W p l e (rA 9 2915 17490 224) s m args below meth c H locs cells slots (MQ below (lwQ D b q.2 (some (.int q.1))) args s 2915 17490 (cReg (lwO b))) (F0 m 146 ls []) := by
  have hx := X.1.1
  have hb := X.1.2.1
  have hown := X.1.2.2.2.1
  have hts := X.1.2.2.2.2.1
  have h : (f_L_asks_149 k9 13 (x1) (x2) (x3) (x4) ((0:Int32)) V) = some q := h
  refine lv_iconst (v := (0:Int32)) hx hb dL_asks_146 (by decide) ?_
  refine c_istore hx hb dL_asks_147 hl (Nat.le_of_ble_eq_true rfl) (lvKa rfl (lvKa rfl (lvKa rfl (lvKa rfl (lvKi lvK0))))) rfl (fun ls (hl : lv_has ls 7 [(5, .int (0:Int32)), (0, cv (lwO b) (some 1)), (1, .ref x1), (2, .int x2), (3, .int x3), (4, .int x4)]) => ?_)
  exact N_L_asks_149 (r9 := r9) (t9 := t9) X hl9 hI hS (by omega) (by omega) hk9 (lv_sub hl [1, 2, 3, 4, 5, 0] rfl) h
set_option maxRecDepth 20000 in
set_option maxHeartbeats 4000000 in
theorem N_L_asks_144 {p : Program} {l : Launch} {e : Env} {s : State} {m : MethodId} {args : Array Value} {below : List Frame} {meth : Method} {c : Code} {D : cD} {b : Nat × Nat}    {V : lwS} {H : Heap} {locs : List Loc} {cells slots : Nat} {ls : Array Slot} {q : Int32 × lwS} (X : lwX p s m args meth c cL_asks 7 (some .boolean) D b) (hl9 : l.stackTraces = false) (hI : lwI D b V H) (hS : va_S (cReg (lwO b)) s.heap H locs) (hBc : cells + (0 + 0) ≤ 2915) (hBs : slots + (0 + 0) ≤ 17490)  (hl : lv_has ls 7 []) (h : f_L_asks_144   V = some q) : W p l e (rA 9 2915 17490 224) s m args below meth c H locs cells slots (MQ below (lwQ D b q.2 (some (.int q.1))) args s 2915 17490 (cReg (lwO b))) (F0 m 144 ls []) := by
  have hx := X.1.1
  have hb := X.1.2.1
  have hown := X.1.2.2.2.1
  have hts := X.1.2.2.2.2.1
  have h : (zret (0:Int32) V) = some q := h
  refine lv_iconst (v := (0:Int32)) hx hb dL_asks_144 (by decide) ?_
  obtain ⟨hz, hq⟩ := zret_spec h
  subst hq
  exact l_rz hz X hI hS (by omega) (by omega) dL_asks_145
set_option maxRecDepth 20000 in
set_option maxHeartbeats 4000000 in
theorem N_L_asks_128 {p : Program} {l : Launch} {e : Env} {s : State} {m : MethodId} {args : Array Value} {below : List Frame} {meth : Method} {c : Code} {D : cD} {b : Nat × Nat} {k9 : Nat → Int32 → Int32 → lwS → Option (Int32 × lwS)}  {r9 t9 : Nat} {x1 : Nat} {x2 : Int32} {x3 : Int32} {x4 : Int32} {V : lwS} {H : Heap} {locs : List Loc} {cells slots : Nat} {ls : Array Slot} {q : Int32 × lwS} (X : lwX p s m args meth c cL_asks 7 (some .boolean) D b) (hl9 : l.stackTraces = false) (hI : lwI D b V H) (hS : va_S (cReg (lwO b)) s.heap H locs) (hBc : cells + (58 + r9) ≤ 2915) (hBs : slots + (348 + t9) ≤ 17490) (hk9 : ∀ {x1 : Nat} {x2 : Int32} {x3 : Int32} {V : lwS} {H : Heap} {locs : List Loc} {cells slots : Nat} {ls : Array Slot}, lwI D b V H → va_S (cReg (lwO b)) s.heap H locs → cells + r9 ≤ 2915 → slots + t9 ≤ 17490 → lv_has ls 7 [(0, cv (lwO b) (some 1)), (1, .ref x1), (2, .int x2), (3, .int x3)] → k9 x1 x2 x3 V = some q → W p l e (rA 9 2915 17490 224) s m args below meth c H locs cells slots (MQ below (lwQ D b q.2 (some (.int q.1))) args s 2915 17490 (cReg (lwO b))) (F0 m 9 ls [])) (hl : lv_has ls 7 [(0, cv (lwO b) (some 1)), (1, .ref x1), (2, .int x2), (3, .int x3), (4, .int x4)]) (h : f_L_asks_128 k9 x1 x2 x3 x4 V = some q) : W p l e (rA 9 2915 17490 224) s m args below meth c H locs cells slots (MQ below (lwQ D b q.2 (some (.int q.1))) args s 2915 17490 (cReg (lwO b))) (F0 m 128 ls []) := by
  have hx := X.1.1
  have hb := X.1.2.1
  have hown := X.1.2.2.2.1
  have hts := X.1.2.2.2.2.1
  have h : (if x3 ≤ (0:Int32) then (f_L_asks_146 k9 (x1) (x2) (x3) (x4) V) else ((oC (f_shownParent (x3)) V).bind (fun v1 => (oZ (f_isIn (v1.1)) v1.2).bind (fun v2 => if v2.1 = (0:Int32) then (f_L_asks_144 v2.2) else (f_L_asks_146 k9 (x1) (x2) (x3) (x4) v2.2))))) = some q := h
  refine lv_iload_n hx hb dL_asks_128 rfl (lv_at hl 3 rfl) ?_
  refine lv_if_le (tgt := 146) hx hb dL_asks_129 rfl (fun hc => ?_) (fun hc => ?_)
  · have h := ip hc h
    exact N_L_asks_146 (r9 := r9) (t9 := t9) X hl9 hI hS (by omega) (by omega) hk9 (lv_sub hl [0, 1, 2, 3, 4] rfl) h
  · have h := ine hc h
    refine c_aload_n hx hb dL_asks_132 rfl (lv_at hl 0 rfl) ?_
    refine c_aload_n hx hb dL_asks_133 rfl (lv_at hl 0 rfl) ?_
    refine lv_iload_n hx hb dL_asks_134 rfl (lv_at hl 3 rfl) ?_
    obtain ⟨v1, hv1, h⟩ := ob h
    refine l_cls (V := V) (V' := v1.2) (f := f_X11_shownParent 1 (x3)) X hI hS (fun S q hq => K_X11_shownParent l hl9 D (lwF b (V).2.2) S 1 (x3) hq) (D_shownParent hv1).2 (D_shownParent hv1).1 ⟨w_1112, ww_X11_shownParent⟩ rfl hy_X11_shownParent rfl ⟨(Nat.le_of_ble_eq_true rfl), (Nat.le_of_ble_eq_true rfl)⟩ hl.1 (Nat.le_of_ble_eq_true rfl) dL_asks_135 rfl ⟨by omega, by omega⟩ (fun u H locs hu hI hS => ?_)
    subst hu
    refine W.eq (g2 := F0 m 138 ls [.int v1.1, cv (lwO b) (some 1)]) rfl ?_
    obtain ⟨v2, hv2, h⟩ := ob h
    refine l_cls (V := v1.2) (V' := v2.2) (f := f_X11_isIn 1 (v1.1)) X hI hS (fun S q hq => K_X11_isIn l hl9 D (lwF b (v1.2).2.2) S 1 (v1.1) hq) (D_isIn hv2).2 (D_isIn hv2).1 ⟨w_1116, ww_X11_isIn⟩ rfl hy_X11_isIn rfl ⟨(Nat.le_of_ble_eq_true rfl), (Nat.le_of_ble_eq_true rfl)⟩ hl.1 (Nat.le_of_ble_eq_true rfl) dL_asks_138 rfl ⟨by omega, by omega⟩ (fun u H locs hu hI hS => ?_)
    subst hu
    refine W.eq (g2 := F0 m 141 ls [.int v2.1]) rfl ?_
    refine lv_if_ne (tgt := 146) hx hb dL_asks_141 rfl (fun hc => ?_) (fun hc => ?_)
    · have h := ine hc h
      exact N_L_asks_146 (r9 := r9) (t9 := t9) X hl9 hI hS (by omega) (by omega) hk9 (lv_sub hl [0, 1, 2, 3, 4] rfl) h
    · have h := ip hc h
      exact N_L_asks_144 X hl9 hI hS (by omega) (by omega) (lv_sub hl [] rfl) h
set_option maxRecDepth 20000 in
set_option maxHeartbeats 4000000 in
theorem N_L_asks_98 {p : Program} {l : Launch} {e : Env} {s : State} {m : MethodId} {args : Array Value} {below : List Frame} {meth : Method} {c : Code} {D : cD} {b : Nat × Nat} {k9 : Nat → Int32 → Int32 → lwS → Option (Int32 × lwS)} {k26 : Nat → Int32 → Int32 → Int32 → Int32 → lwS → Option (Int32 × lwS)}  {r9 t9 : Nat} {r26 t26 : Nat} {x1 : Nat} {x2 : Int32} {x3 : Int32} {x4 : Int32} {x5 : Int32} {V : lwS} {H : Heap} {locs : List Loc} {cells slots : Nat} {ls : Array Slot} {q : Int32 × lwS} (X : lwX p s m args meth c cL_asks 7 (some .boolean) D b) (hl9 : l.stackTraces = false) (hI : lwI D b V H) (hS : va_S (cReg (lwO b)) s.heap H locs) (hr26 : r9 ≤ r26) (ht26 : t9 ≤ t26) (hBc : cells + (0 + r26) ≤ 2915) (hBs : slots + (0 + t26) ≤ 17490) (hk9 : ∀ {x1 : Nat} {x2 : Int32} {x3 : Int32} {V : lwS} {H : Heap} {locs : List Loc} {cells slots : Nat} {ls : Array Slot}, lwI D b V H → va_S (cReg (lwO b)) s.heap H locs → cells + r9 ≤ 2915 → slots + t9 ≤ 17490 → lv_has ls 7 [(0, cv (lwO b) (some 1)), (1, .ref x1), (2, .int x2), (3, .int x3)] → k9 x1 x2 x3 V = some q → W p l e (rA 9 2915 17490 224) s m args below meth c H locs cells slots (MQ below (lwQ D b q.2 (some (.int q.1))) args s 2915 17490 (cReg (lwO b))) (F0 m 9 ls [])) (hk26 : ∀ {x1 : Nat} {x2 : Int32} {x3 : Int32} {x4 : Int32} {x5 : Int32} {V : lwS} {H : Heap} {locs : List Loc} {cells slots : Nat} {ls : Array Slot}, lwI D b V H → va_S (cReg (lwO b)) s.heap H locs → cells + r26 ≤ 2915 → slots + t26 ≤ 17490 → lv_has ls 7 [(0, cv (lwO b) (some 1)), (1, .ref x1), (2, .int x2), (3, .int x3), (4, .int x4), (5, .int x5)] → k26 x1 x2 x3 x4 x5 V = some q → W p l e (rA 9 2915 17490 224) s m args below meth c H locs cells slots (MQ below (lwQ D b q.2 (some (.int q.1))) args s 2915 17490 (cReg (lwO b))) (F0 m 26 ls [])) (hl : lv_has ls 7 [(0, cv (lwO b) (some 1)), (1, .ref x1), (2, .int x2), (3, .int x3), (4, .int x4), (5, .int x5)]) (h : f_L_asks_98 k9 k26 x1 x2 x3 x4 x5 V = some q) : W p l e (rA 9 2915 17490 224) s m args below meth c H locs cells slots (MQ below (lwQ D b q.2 (some (.int q.1))) args s 2915 17490 (cReg (lwO b))) (F0 m 98 ls []) := by
  have hx := X.1.1
  have hb := X.1.2.1
  have hown := X.1.2.2.2.1
  have hts := X.1.2.2.2.2.1
  have h : (k26 (x1) (x2) (x3) (x4) ((x5 + (1:Int32))) V) = some q := h
  refine c_iinc (v := (x5 + (1:Int32))) hx hb dL_asks_98 hl (k := 5) rfl rfl (Nat.le_of_ble_eq_true rfl) (lvKa rfl (lvKa rfl (lvKa rfl (lvKa rfl (lvKi (lvKa rfl lvK0)))))) rfl (fun ls (hl : lv_has ls 7 [(5, .int (x5 + (1:Int32))), (0, cv (lwO b) (some 1)), (1, .ref x1), (2, .int x2), (3, .int x3), (4, .int x4)]) => ?_)
  refine lv_goto (tgt := 26) hx hb dL_asks_101 rfl ?_
  exact hk26 hI hS (by omega) (by omega) (lv_sub hl [1, 2, 3, 4, 5, 0] rfl) h
set_option maxRecDepth 20000 in
set_option maxHeartbeats 4000000 in
theorem N_L_asks_73 {p : Program} {l : Launch} {e : Env} {s : State} {m : MethodId} {args : Array Value} {below : List Frame} {meth : Method} {c : Code} {D : cD} {b : Nat × Nat} {k9 : Nat → Int32 → Int32 → lwS → Option (Int32 × lwS)} {k26 : Nat → Int32 → Int32 → Int32 → Int32 → lwS → Option (Int32 × lwS)}  {r9 t9 : Nat} {r26 t26 : Nat} {x1 : Nat} {x2 : Int32} {x3 : Int32} {x4 : Int32} {x5 : Int32} {x6 : Int32} {V : lwS} {H : Heap} {locs : List Loc} {cells slots : Nat} {ls : Array Slot} {q : Int32 × lwS} (X : lwX p s m args meth c cL_asks 7 (some .boolean) D b) (hl9 : l.stackTraces = false) (hI : lwI D b V H) (hS : va_S (cReg (lwO b)) s.heap H locs) (hr26 : r9 ≤ r26) (ht26 : t9 ≤ t26) (hBc : cells + (3 + r26) ≤ 2915) (hBs : slots + (18 + t26) ≤ 17490) (hk9 : ∀ {x1 : Nat} {x2 : Int32} {x3 : Int32} {V : lwS} {H : Heap} {locs : List Loc} {cells slots : Nat} {ls : Array Slot}, lwI D b V H → va_S (cReg (lwO b)) s.heap H locs → cells + r9 ≤ 2915 → slots + t9 ≤ 17490 → lv_has ls 7 [(0, cv (lwO b) (some 1)), (1, .ref x1), (2, .int x2), (3, .int x3)] → k9 x1 x2 x3 V = some q → W p l e (rA 9 2915 17490 224) s m args below meth c H locs cells slots (MQ below (lwQ D b q.2 (some (.int q.1))) args s 2915 17490 (cReg (lwO b))) (F0 m 9 ls [])) (hk26 : ∀ {x1 : Nat} {x2 : Int32} {x3 : Int32} {x4 : Int32} {x5 : Int32} {V : lwS} {H : Heap} {locs : List Loc} {cells slots : Nat} {ls : Array Slot}, lwI D b V H → va_S (cReg (lwO b)) s.heap H locs → cells + r26 ≤ 2915 → slots + t26 ≤ 17490 → lv_has ls 7 [(0, cv (lwO b) (some 1)), (1, .ref x1), (2, .int x2), (3, .int x3), (4, .int x4), (5, .int x5)] → k26 x1 x2 x3 x4 x5 V = some q → W p l e (rA 9 2915 17490 224) s m args below meth c H locs cells slots (MQ below (lwQ D b q.2 (some (.int q.1))) args s 2915 17490 (cReg (lwO b))) (F0 m 26 ls [])) (hl : lv_has ls 7 [(0, cv (lwO b) (some 1)), (1, .ref x1), (2, .int x2), (3, .int x3), (4, .int x4), (5, .int x5), (6, .int x6)]) (h : f_L_asks_73 k9 k26 x1 x2 x3 x4 x5 x6 V = some q) : W p l e (rA 9 2915 17490 224) s m args below meth c H locs cells slots (MQ below (lwQ D b q.2 (some (.int q.1))) args s 2915 17490 (cReg (lwO b))) (F0 m 73 ls []) := by
  have hx := X.1.1
  have hb := X.1.2.1
  have hown := X.1.2.2.2.1
  have hts := X.1.2.2.2.2.1
  have h : (if x4 = (0:Int32) then (f_L_asks_98 k9 k26 (x1) (x2) (x3) (x4) (x5) V) else (if (5:Int32) ≤ x5 then (f_L_asks_98 k9 k26 (x1) (x2) (x3) (x4) (x5) V) else ((oC (f_seen (x3) (x5)) V).bind (fun v1 => if v1.1 = x6 then (f_L_asks_98 k9 k26 (x1) (x2) (x3) (x4) (x5) v1.2) else (zret (0:Int32) v1.2))))) = some q := h
  refine lv_iload hx hb dL_asks_73 (lv_at hl 4 rfl) ?_
  refine lv_if_eq (tgt := 98) hx hb dL_asks_75 rfl (fun hc => ?_) (fun hc => ?_)
  · have h := ip hc h
    exact N_L_asks_98 (r9 := r9) (t9 := t9) (r26 := r26) (t26 := t26) X hl9 hI hS (by omega) (by omega) (by omega) (by omega) hk9 hk26 (lv_sub hl [0, 1, 2, 3, 4, 5] rfl) h
  · have h := ine hc h
    refine lv_iload hx hb dL_asks_78 (lv_at hl 5 rfl) ?_
    refine lv_iconst (v := (5:Int32)) hx hb dL_asks_80 (by decide) ?_
    refine lv_icmp_ge (tgt := 98) hx hb dL_asks_81 rfl (fun hc => ?_) (fun hc => ?_)
    · have h := ip hc h
      exact N_L_asks_98 (r9 := r9) (t9 := t9) (r26 := r26) (t26 := t26) X hl9 hI hS (by omega) (by omega) (by omega) (by omega) hk9 hk26 (lv_sub hl [0, 1, 2, 3, 4, 5] rfl) h
    · have h := ine hc h
      refine c_aload_n hx hb dL_asks_84 rfl (lv_at hl 0 rfl) ?_
      refine lv_iload_n hx hb dL_asks_85 rfl (lv_at hl 3 rfl) ?_
      refine lv_iload hx hb dL_asks_86 (lv_at hl 5 rfl) ?_
      obtain ⟨v1, hv1, h⟩ := ob h
      refine l_cls (V := V) (V' := v1.2) (f := f_X11_seen 1 (x3) (x5)) X hI hS (fun S q hq => K_X11_seen l hl9 D (lwF b (V).2.2) S 1 (x3) (x5) hq) (D_seen hv1).2 (D_seen hv1).1 ⟨w_1167, ww_X11_seen⟩ rfl hy_X11_seen rfl ⟨(Nat.le_of_ble_eq_true rfl), (Nat.le_of_ble_eq_true rfl)⟩ hl.1 (Nat.le_of_ble_eq_true rfl) dL_asks_88 rfl ⟨by omega, by omega⟩ (fun u H locs hu hI hS => ?_)
      subst hu
      refine W.eq (g2 := F0 m 91 ls [.int v1.1]) rfl ?_
      refine lv_iload hx hb dL_asks_91 (lv_at hl 6 rfl) ?_
      refine lv_icmp_eq (tgt := 98) hx hb dL_asks_93 rfl (fun hc => ?_) (fun hc => ?_)
      · have h := ip hc h
        exact N_L_asks_98 (r9 := r9) (t9 := t9) (r26 := r26) (t26 := t26) X hl9 hI hS (by omega) (by omega) (by omega) (by omega) hk9 hk26 (lv_sub hl [0, 1, 2, 3, 4, 5] rfl) h
      · have h := ine hc h
        refine lv_iconst (v := (0:Int32)) hx hb dL_asks_96 (by decide) ?_
        obtain ⟨hz, hq⟩ := zret_spec h
        subst hq
        exact l_rz hz X hI hS (by omega) (by omega) dL_asks_97
set_option maxRecDepth 20000 in
set_option maxHeartbeats 4000000 in
theorem N_L_asks_71 {p : Program} {l : Launch} {e : Env} {s : State} {m : MethodId} {args : Array Value} {below : List Frame} {meth : Method} {c : Code} {D : cD} {b : Nat × Nat}    {V : lwS} {H : Heap} {locs : List Loc} {cells slots : Nat} {ls : Array Slot} {q : Int32 × lwS} (X : lwX p s m args meth c cL_asks 7 (some .boolean) D b) (hl9 : l.stackTraces = false) (hI : lwI D b V H) (hS : va_S (cReg (lwO b)) s.heap H locs) (hBc : cells + (0 + 0) ≤ 2915) (hBs : slots + (0 + 0) ≤ 17490)  (hl : lv_has ls 7 []) (h : f_L_asks_71   V = some q) : W p l e (rA 9 2915 17490 224) s m args below meth c H locs cells slots (MQ below (lwQ D b q.2 (some (.int q.1))) args s 2915 17490 (cReg (lwO b))) (F0 m 71 ls []) := by
  have hx := X.1.1
  have hb := X.1.2.1
  have hown := X.1.2.2.2.1
  have hts := X.1.2.2.2.2.1
  have h : (zret (0:Int32) V) = some q := h
  refine lv_iconst (v := (0:Int32)) hx hb dL_asks_71 (by decide) ?_
  obtain ⟨hz, hq⟩ := zret_spec h
  subst hq
  exact l_rz hz X hI hS (by omega) (by omega) dL_asks_72
set_option maxRecDepth 20000 in
set_option maxHeartbeats 4000000 in
theorem N_L_asks_54 {p : Program} {l : Launch} {e : Env} {s : State} {m : MethodId} {args : Array Value} {below : List Frame} {meth : Method} {c : Code} {D : cD} {b : Nat × Nat} {k9 : Nat → Int32 → Int32 → lwS → Option (Int32 × lwS)} {k26 : Nat → Int32 → Int32 → Int32 → Int32 → lwS → Option (Int32 × lwS)}  {r9 t9 : Nat} {r26 t26 : Nat} {x1 : Nat} {x2 : Int32} {x3 : Int32} {x4 : Int32} {x5 : Int32} {x6 : Int32} {V : lwS} {H : Heap} {locs : List Loc} {cells slots : Nat} {ls : Array Slot} {q : Int32 × lwS} (X : lwX p s m args meth c cL_asks 7 (some .boolean) D b) (hl9 : l.stackTraces = false) (hI : lwI D b V H) (hS : va_S (cReg (lwO b)) s.heap H locs) (hr26 : r9 ≤ r26) (ht26 : t9 ≤ t26) (hBc : cells + (6 + r26) ≤ 2915) (hBs : slots + (36 + t26) ≤ 17490) (hk9 : ∀ {x1 : Nat} {x2 : Int32} {x3 : Int32} {V : lwS} {H : Heap} {locs : List Loc} {cells slots : Nat} {ls : Array Slot}, lwI D b V H → va_S (cReg (lwO b)) s.heap H locs → cells + r9 ≤ 2915 → slots + t9 ≤ 17490 → lv_has ls 7 [(0, cv (lwO b) (some 1)), (1, .ref x1), (2, .int x2), (3, .int x3)] → k9 x1 x2 x3 V = some q → W p l e (rA 9 2915 17490 224) s m args below meth c H locs cells slots (MQ below (lwQ D b q.2 (some (.int q.1))) args s 2915 17490 (cReg (lwO b))) (F0 m 9 ls [])) (hk26 : ∀ {x1 : Nat} {x2 : Int32} {x3 : Int32} {x4 : Int32} {x5 : Int32} {V : lwS} {H : Heap} {locs : List Loc} {cells slots : Nat} {ls : Array Slot}, lwI D b V H → va_S (cReg (lwO b)) s.heap H locs → cells + r26 ≤ 2915 → slots + t26 ≤ 17490 → lv_has ls 7 [(0, cv (lwO b) (some 1)), (1, .ref x1), (2, .int x2), (3, .int x3), (4, .int x4), (5, .int x5)] → k26 x1 x2 x3 x4 x5 V = some q → W p l e (rA 9 2915 17490 224) s m args below meth c H locs cells slots (MQ below (lwQ D b q.2 (some (.int q.1))) args s 2915 17490 (cReg (lwO b))) (F0 m 26 ls [])) (hl : lv_has ls 7 [(0, cv (lwO b) (some 1)), (1, .ref x1), (2, .int x2), (3, .int x3), (4, .int x4), (5, .int x5), (6, .int x6)]) (h : f_L_asks_54 k9 k26 x1 x2 x3 x4 x5 x6 V = some q) : W p l e (rA 9 2915 17490 224) s m args below meth c H locs cells slots (MQ below (lwQ D b q.2 (some (.int q.1))) args s 2915 17490 (cReg (lwO b))) (F0 m 54 ls []) := by
  have hx := X.1.1
  have hb := X.1.2.1
  have hown := X.1.2.2.2.1
  have hts := X.1.2.2.2.2.1
  have h : (if x4 = (0:Int32) then (f_L_asks_73 k9 k26 (x1) (x2) (x3) (x4) (x5) (x6) V) else ((oC (f_valueAnew (x3) (x5)) V).bind (fun v1 => if x6 = v1.1 then (f_L_asks_73 k9 k26 (x1) (x2) (x3) (x4) (x5) (x6) v1.2) else (f_L_asks_71 v1.2)))) = some q := h
  refine lv_iload hx hb dL_asks_54 (lv_at hl 4 rfl) ?_
  refine lv_if_eq (tgt := 73) hx hb dL_asks_56 rfl (fun hc => ?_) (fun hc => ?_)
  · have h := ip hc h
    exact N_L_asks_73 (r9 := r9) (t9 := t9) (r26 := r26) (t26 := t26) X hl9 hI hS (by omega) (by omega) (by omega) (by omega) hk9 hk26 (lv_sub hl [0, 1, 2, 3, 4, 5, 6] rfl) h
  · have h := ine hc h
    refine lv_iload hx hb dL_asks_59 (lv_at hl 6 rfl) ?_
    refine c_aload_n hx hb dL_asks_61 rfl (lv_at hl 0 rfl) ?_
    refine lv_iload_n hx hb dL_asks_62 rfl (lv_at hl 3 rfl) ?_
    refine lv_iload hx hb dL_asks_63 (lv_at hl 5 rfl) ?_
    obtain ⟨v1, hv1, h⟩ := ob h
    refine l_cls (V := V) (V' := v1.2) (f := f_X11_valueAnew 1 (x3) (x5)) X hI hS (fun S q hq => K_X11_valueAnew l hl9 D (lwF b (V).2.2) S 1 (x3) (x5) hq) (D_valueAnew hv1).2 (D_valueAnew hv1).1 ⟨w_1120, ww_X11_valueAnew⟩ rfl hy_X11_valueAnew rfl ⟨(Nat.le_of_ble_eq_true rfl), (Nat.le_of_ble_eq_true rfl)⟩ hl.1 (Nat.le_of_ble_eq_true rfl) dL_asks_65 rfl ⟨by omega, by omega⟩ (fun u H locs hu hI hS => ?_)
    subst hu
    refine W.eq (g2 := F0 m 68 ls [.int v1.1, .int x6]) rfl ?_
    refine lv_icmp_eq (tgt := 73) hx hb dL_asks_68 rfl (fun hc => ?_) (fun hc => ?_)
    · have h := ip hc h
      exact N_L_asks_73 (r9 := r9) (t9 := t9) (r26 := r26) (t26 := t26) X hl9 hI hS (by omega) (by omega) (by omega) (by omega) hk9 hk26 (lv_sub hl [0, 1, 2, 3, 4, 5, 6] rfl) h
    · have h := ine hc h
      exact N_L_asks_71 X hl9 hI hS (by omega) (by omega) (lv_sub hl [] rfl) h
set_option maxRecDepth 20000 in
set_option maxHeartbeats 4000000 in
theorem N_L_asks_26 {p : Program} {l : Launch} {e : Env} {s : State} {m : MethodId} {args : Array Value} {below : List Frame} {meth : Method} {c : Code} {D : cD} {b : Nat × Nat} {k9 : Nat → Int32 → Int32 → lwS → Option (Int32 × lwS)} {n : Nat} {r9 t9 : Nat} {x1 : Nat} {x2 : Int32} {x3 : Int32} {x4 : Int32} {x5 : Int32} {V : lwS} {H : Heap} {locs : List Loc} {cells slots : Nat} {ls : Array Slot} {q : Int32 × lwS} (X : lwX p s m args meth c cL_asks 7 (some .boolean) D b) (hl9 : l.stackTraces = false) (hI : lwI D b V H) (hS : va_S (cReg (lwO b)) s.heap H locs) (hBc : cells + (n * 9 + 63 + r9) ≤ 2915) (hBs : slots + (n * 54 + 378 + t9) ≤ 17490) (hk9 : ∀ {x1 : Nat} {x2 : Int32} {x3 : Int32} {V : lwS} {H : Heap} {locs : List Loc} {cells slots : Nat} {ls : Array Slot}, lwI D b V H → va_S (cReg (lwO b)) s.heap H locs → cells + r9 ≤ 2915 → slots + t9 ≤ 17490 → lv_has ls 7 [(0, cv (lwO b) (some 1)), (1, .ref x1), (2, .int x2), (3, .int x3)] → k9 x1 x2 x3 V = some q → W p l e (rA 9 2915 17490 224) s m args below meth c H locs cells slots (MQ below (lwQ D b q.2 (some (.int q.1))) args s 2915 17490 (cReg (lwO b))) (F0 m 9 ls [])) (hl : lv_has ls 7 [(0, cv (lwO b) (some 1)), (1, .ref x1), (2, .int x2), (3, .int x3), (4, .int x4), (5, .int x5)]) (h : f_L_asks_26 k9 n x1 x2 x3 x4 x5 V = some q) : W p l e (rA 9 2915 17490 224) s m args below meth c H locs cells slots (MQ below (lwQ D b q.2 (some (.int q.1))) args s 2915 17490 (cReg (lwO b))) (F0 m 26 ls []) := by
  have hx := X.1.1
  have hb := X.1.2.1
  have hown := X.1.2.2.2.1
  have hts := X.1.2.2.2.2.1
  induction n generalizing x1 x2 x3 x4 x5 V H locs cells slots ls with
  | zero => exact absurd (show none = some q from h) (by simp)
  | succ n ih =>
    have h : (if (15:Int32) ≤ x5 then (if x4 = (0:Int32) then (f_L_asks_146 k9 (x1) (x2) (x3) (x4) V) else ((oC (f_value (x3) ((6:Int32))) V).bind (fun v1 => if (0:Int32) < v1.1 then (f_L_asks_128 k9 (x1) (x2) (x3) (x4) v1.2) else ((oC (f_size (x3)) v1.2).bind (fun v2 => if v2.1 = ((-1):Int32) then (f_L_asks_128 k9 (x1) (x2) (x3) (x4) v2.2) else (f_L_asks_144 v2.2)))))) else ((f_L_value (x3) (x5) V).bind (fun v3 => if x4 = (0:Int32) then (if v3.1 = ((-2000004):Int32) then (f_L_asks_54 k9 (f_L_asks_26 k9 n) (x1) (x2) (x3) (x4) (x5) (v3.1) v3.2) else (f_L_asks_71 v3.2)) else (f_L_asks_54 k9 (f_L_asks_26 k9 n) (x1) (x2) (x3) (x4) (x5) (v3.1) v3.2)))) = some q := h
    refine lv_iload hx hb dL_asks_26 (lv_at hl 5 rfl) ?_
    refine lv_bipush (v := (15:Int32)) hx hb dL_asks_28 (by decide) ?_
    refine lv_icmp_ge (tgt := 104) hx hb dL_asks_30 rfl (fun hc => ?_) (fun hc => ?_)
    · have h := ip hc h
      refine lv_iload hx hb dL_asks_104 (lv_at hl 4 rfl) ?_
      refine lv_if_eq (tgt := 146) hx hb dL_asks_106 rfl (fun hc => ?_) (fun hc => ?_)
      · have h := ip hc h
        exact N_L_asks_146 (r9 := r9) (t9 := t9) X hl9 hI hS (by omega) (by omega) hk9 (lv_sub hl [0, 1, 2, 3, 4] rfl) h
      · have h := ine hc h
        refine c_aload_n hx hb dL_asks_109 rfl (lv_at hl 0 rfl) ?_
        refine lv_iload_n hx hb dL_asks_110 rfl (lv_at hl 3 rfl) ?_
        refine lv_bipush (v := (6:Int32)) hx hb dL_asks_111 (by decide) ?_
        obtain ⟨v1, hv1, h⟩ := ob h
        refine l_cls (V := V) (V' := v1.2) (f := f_X11_value 1 (x3) ((6:Int32))) X hI hS (fun S q hq => K_X11_value l hl9 D (lwF b (V).2.2) S 1 (x3) ((6:Int32)) hq) (D_value hv1).2 (D_value hv1).1 ⟨w_893, ww_X11_value⟩ rfl hy_X11_value rfl ⟨(Nat.le_of_ble_eq_true rfl), (Nat.le_of_ble_eq_true rfl)⟩ hl.1 (Nat.le_of_ble_eq_true rfl) dL_asks_113 rfl ⟨by omega, by omega⟩ (fun u H locs hu hI hS => ?_)
        subst hu
        refine W.eq (g2 := F0 m 116 ls [.int v1.1]) rfl ?_
        refine lv_if_gt (tgt := 128) hx hb dL_asks_116 rfl (fun hc => ?_) (fun hc => ?_)
        · have h := ip hc h
          exact N_L_asks_128 (r9 := r9) (t9 := t9) X hl9 hI hS (by omega) (by omega) hk9 (lv_sub hl [0, 1, 2, 3, 4] rfl) h
        · have h := ine hc h
          refine c_aload_n hx hb dL_asks_119 rfl (lv_at hl 0 rfl) ?_
          refine lv_iload_n hx hb dL_asks_120 rfl (lv_at hl 3 rfl) ?_
          obtain ⟨v2, hv2, h⟩ := ob h
          refine l_cls (V := v1.2) (V' := v2.2) (f := f_X11_size 1 (x3)) X hI hS (fun S q hq => K_X11_size l hl9 D (lwF b (v1.2).2.2) S 1 (x3) hq) (D_size hv2).2 (D_size hv2).1 ⟨w_1172, ww_X11_size⟩ rfl hy_X11_size rfl ⟨(Nat.le_of_ble_eq_true rfl), (Nat.le_of_ble_eq_true rfl)⟩ hl.1 (Nat.le_of_ble_eq_true rfl) dL_asks_121 rfl ⟨by omega, by omega⟩ (fun u H locs hu hI hS => ?_)
          subst hu
          refine W.eq (g2 := F0 m 124 ls [.int v2.1]) rfl ?_
          refine lv_iconst (v := ((-1):Int32)) hx hb dL_asks_124 (by decide) ?_
          refine lv_icmp_ne (tgt := 144) hx hb dL_asks_125 rfl (fun hc => ?_) (fun hc => ?_)
          · have h := ine hc h
            exact N_L_asks_144 X hl9 hI hS (by omega) (by omega) (lv_sub hl [] rfl) h
          · have h := ip hc h
            exact N_L_asks_128 (r9 := r9) (t9 := t9) X hl9 hI hS (by omega) (by omega) hk9 (lv_sub hl [0, 1, 2, 3, 4] rfl) h
    · have h := ine hc h
      refine c_aload_n hx hb dL_asks_33 rfl (lv_at hl 0 rfl) ?_
      refine lv_iload_n hx hb dL_asks_34 rfl (lv_at hl 3 rfl) ?_
      refine lv_iload hx hb dL_asks_35 (lv_at hl 5 rfl) ?_
      obtain ⟨v3, hv3, h⟩ := ob h
      refine l_after (l_runW X (K_L_value l hl9 D b V (x3) (x5) (v := v3.1) (V' := v3.2) hv3) ⟨w_890, ww_L_value⟩ hy_L_value rfl ⟨(Nat.le_of_ble_eq_true rfl), (Nat.le_of_ble_eq_true rfl)⟩ hI hS hl.1 (Nat.le_of_ble_eq_true rfl) dL_asks_37 rfl ⟨by omega, by omega⟩) hS (fun H locs hI hS => ?_)
      refine W.eq (g2 := F0 m 40 ls [.int v3.1]) rfl ?_
      refine c_istore hx hb dL_asks_40 hl (Nat.le_of_ble_eq_true rfl) (lvKa rfl (lvKa rfl (lvKa rfl (lvKa rfl (lvKa rfl (lvKi lvK0)))))) rfl (fun ls (hl : lv_has ls 7 [(6, .int v3.1), (0, cv (lwO b) (some 1)), (1, .ref x1), (2, .int x2), (3, .int x3), (4, .int x4), (5, .int x5)]) => ?_)
      refine lv_iload hx hb dL_asks_42 (lv_at hl 5 rfl) ?_
      refine lv_if_ne (tgt := 54) hx hb dL_asks_44 rfl (fun hc => ?_) (fun hc => ?_)
      · have h := ine hc h
        exact N_L_asks_54 (r9 := r9) (t9 := t9) (r26 := (n * 9 + 63 + r9)) (t26 := (n * 54 + 378 + t9)) X hl9 hI hS (by omega) (by omega) (by omega) (by omega) hk9 (fun hI hS h1 h2 hl h => ih hI hS (by omega) (by omega) hl h) (lv_sub hl [1, 2, 3, 4, 5, 6, 0] rfl) h
      · have h := ip hc h
        refine lv_iload hx hb dL_asks_47 (lv_at hl 0 rfl) ?_
        refine lv_ldc hx hb hown (hts _ w_1108) dL_asks_49 ?_
        refine lv_icmp_ne (tgt := 71) hx hb dL_asks_51 rfl (fun hc => ?_) (fun hc => ?_)
        · have h := ine hc h
          exact N_L_asks_71 X hl9 hI hS (by omega) (by omega) (lv_sub hl [] rfl) h
        · have h := ip hc h
          exact N_L_asks_54 (r9 := r9) (t9 := t9) (r26 := (n * 9 + 63 + r9)) (t26 := (n * 54 + 378 + t9)) X hl9 hI hS (by omega) (by omega) (by omega) (by omega) hk9 (fun hI hS h1 h2 hl h => ih hI hS (by omega) (by omega) hl h) (lv_sub hl [1, 2, 3, 4, 5, 6, 0] rfl) h
set_option maxRecDepth 20000 in
set_option maxHeartbeats 4000000 in
theorem N_L_asks_9 {p : Program} {l : Launch} {e : Env} {s : State} {m : MethodId} {args : Array Value} {below : List Frame} {meth : Method} {c : Code} {D : cD} {b : Nat × Nat}  {n : Nat} {x1 : Nat} {x2 : Int32} {x3 : Int32} {V : lwS} {H : Heap} {locs : List Loc} {cells slots : Nat} {ls : Array Slot} {q : Int32 × lwS} (X : lwX p s m args meth c cL_asks 7 (some .boolean) D b) (hl9 : l.stackTraces = false) (hI : lwI D b V H) (hS : va_S (cReg (lwO b)) s.heap H locs) (hBc : cells + (n * 208 + 208 + 0) ≤ 2915) (hBs : slots + (n * 1248 + 1248 + 0) ≤ 17490)  (hl : lv_has ls 7 [(0, cv (lwO b) (some 1)), (1, .ref x1), (2, .int x2), (3, .int x3)]) (h : f_L_asks_9  n x1 x2 x3 V = some q) : W p l e (rA 9 2915 17490 224) s m args below meth c H locs cells slots (MQ below (lwQ D b q.2 (some (.int q.1))) args s 2915 17490 (cReg (lwO b))) (F0 m 9 ls []) := by
  have hx := X.1.1
  have hb := X.1.2.1
  have hown := X.1.2.2.2.1
  have hts := X.1.2.2.2.2.1
  induction n generalizing x1 x2 x3 V H locs cells slots ls with
  | zero => exact absurd (show none = some q from h) (by simp)
  | succ n ih =>
    have h : ((ldA V x1 (0:Int32)).bind (fun v1 => if v1 ≤ x3 then ((some ((V).1.2 51)).bind (fun v2 => (ldA V x1 (4:Int32)).bind (fun v3 => if v2 < v3 then (f_L_asks_244 (x1) (x2) V) else ((some ((V).1.2 52)).bind (fun v4 => (ldA V x1 (5:Int32)).bind (fun v5 => if v4 < v5 then (f_L_asks_244 (x1) (x2) V) else ((some ((V).1.2 53)).bind (fun v6 => (ldA V x1 (6:Int32)).bind (fun v7 => if v6 < v7 then (f_L_asks_244 (x1) (x2) V) else ((some ((V).1.2 53)).bind (fun v8 => (some ((V).1.2 52)).bind (fun v9 => if v9 < v8 then (f_L_asks_244 (x1) (x2) V) else (f_L_asks_245 (x1) (x2) ((1:Int32)) V))))))))))))) else ((oZ (f_isIn (x3)) V).bind (fun v10 => f_L_asks_26 (f_L_asks_9 n) 16 (x1) (x2) (x3) (v10.1) ((0:Int32)) v10.2)))) = some q := h
    refine lv_iload_n hx hb dL_asks_9 rfl (lv_at hl 3 rfl) ?_
    refine lv_aload_n hx hb dL_asks_10 rfl (lv_at hl 1 rfl) ?_
    refine lv_iconst (v := (0:Int32)) hx hb dL_asks_11 (by decide) ?_
    obtain ⟨v1, hv1, h⟩ := ob h
    refine l_ald X hI hv1 dL_asks_12 ?_
    refine lv_icmp_ge (tgt := 198) hx hb dL_asks_13 rfl (fun hc => ?_) (fun hc => ?_)
    · have h := ip hc h
      refine c_aload_n hx hb dL_asks_198 rfl (lv_at hl 0 rfl) ?_
      obtain ⟨v2, hv2, h⟩ := ob h
      refine l_clr (V := V) (v := v2) (f := f_X11_flushes 1) X hI hS (fun S r hr => K_X11_flushes l D (lwF b (V).2.2) S 1 hr) (fun S hS => D_flushes hS hv2) ⟨w_1149, ww_X11_flushes⟩ rfl hy_X11_flushes rfl ⟨(Nat.le_of_ble_eq_true rfl), (Nat.le_of_ble_eq_true rfl)⟩ hl.1 (Nat.le_of_ble_eq_true rfl) dL_asks_199 rfl ⟨by omega, by omega⟩ ?_
      refine lv_aload_n hx hb dL_asks_202 rfl (lv_at hl 1 rfl) ?_
      refine lv_iconst (v := (4:Int32)) hx hb dL_asks_203 (by decide) ?_
      obtain ⟨v3, hv3, h⟩ := ob h
      refine l_ald X hI hv3 dL_asks_204 ?_
      refine lv_icmp_lt (tgt := 244) hx hb dL_asks_205 rfl (fun hc => ?_) (fun hc => ?_)
      · have h := ip hc h
        exact N_L_asks_244 X hl9 hI hS (by omega) (by omega) (lv_sub hl [0, 1, 2] rfl) h
      · have h := ine hc h
        refine c_aload_n hx hb dL_asks_208 rfl (lv_at hl 0 rfl) ?_
        obtain ⟨v4, hv4, h⟩ := ob h
        refine l_clr (V := V) (v := v4) (f := f_X11_restyled 1) X hI hS (fun S r hr => K_X11_restyled l D (lwF b (V).2.2) S 1 hr) (fun S hS => D_restyled hS hv4) ⟨w_1153, ww_X11_restyled⟩ rfl hy_X11_restyled rfl ⟨(Nat.le_of_ble_eq_true rfl), (Nat.le_of_ble_eq_true rfl)⟩ hl.1 (Nat.le_of_ble_eq_true rfl) dL_asks_209 rfl ⟨by omega, by omega⟩ ?_
        refine lv_aload_n hx hb dL_asks_212 rfl (lv_at hl 1 rfl) ?_
        refine lv_iconst (v := (5:Int32)) hx hb dL_asks_213 (by decide) ?_
        obtain ⟨v5, hv5, h⟩ := ob h
        refine l_ald X hI hv5 dL_asks_214 ?_
        refine lv_icmp_lt (tgt := 244) hx hb dL_asks_215 rfl (fun hc => ?_) (fun hc => ?_)
        · have h := ip hc h
          exact N_L_asks_244 X hl9 hI hS (by omega) (by omega) (lv_sub hl [0, 1, 2] rfl) h
        · have h := ine hc h
          refine c_aload_n hx hb dL_asks_218 rfl (lv_at hl 0 rfl) ?_
          obtain ⟨v6, hv6, h⟩ := ob h
          refine l_clr (V := V) (v := v6) (f := f_X11_shared 1) X hI hS (fun S r hr => K_X11_shared l D (lwF b (V).2.2) S 1 hr) (fun S hS => D_shared hS hv6) ⟨w_1157, ww_X11_shared⟩ rfl hy_X11_shared rfl ⟨(Nat.le_of_ble_eq_true rfl), (Nat.le_of_ble_eq_true rfl)⟩ hl.1 (Nat.le_of_ble_eq_true rfl) dL_asks_219 rfl ⟨by omega, by omega⟩ ?_
          refine lv_aload_n hx hb dL_asks_222 rfl (lv_at hl 1 rfl) ?_
          refine lv_bipush (v := (6:Int32)) hx hb dL_asks_223 (by decide) ?_
          obtain ⟨v7, hv7, h⟩ := ob h
          refine l_ald X hI hv7 dL_asks_225 ?_
          refine lv_icmp_lt (tgt := 244) hx hb dL_asks_226 rfl (fun hc => ?_) (fun hc => ?_)
          · have h := ip hc h
            exact N_L_asks_244 X hl9 hI hS (by omega) (by omega) (lv_sub hl [0, 1, 2] rfl) h
          · have h := ine hc h
            refine c_aload_n hx hb dL_asks_229 rfl (lv_at hl 0 rfl) ?_
            obtain ⟨v8, hv8, h⟩ := ob h
            refine l_clr (V := V) (v := v8) (f := f_X11_shared 1) X hI hS (fun S r hr => K_X11_shared l D (lwF b (V).2.2) S 1 hr) (fun S hS => D_shared hS hv8) ⟨w_1157, ww_X11_shared⟩ rfl hy_X11_shared rfl ⟨(Nat.le_of_ble_eq_true rfl), (Nat.le_of_ble_eq_true rfl)⟩ hl.1 (Nat.le_of_ble_eq_true rfl) dL_asks_230 rfl ⟨by omega, by omega⟩ ?_
            refine c_aload_n hx hb dL_asks_233 rfl (lv_at hl 0 rfl) ?_
            obtain ⟨v9, hv9, h⟩ := ob h
            refine l_clr (V := V) (v := v9) (f := f_X11_restyled 1) X hI hS (fun S r hr => K_X11_restyled l D (lwF b (V).2.2) S 1 hr) (fun S hS => D_restyled hS hv9) ⟨w_1153, ww_X11_restyled⟩ rfl hy_X11_restyled rfl ⟨(Nat.le_of_ble_eq_true rfl), (Nat.le_of_ble_eq_true rfl)⟩ hl.1 (Nat.le_of_ble_eq_true rfl) dL_asks_234 rfl ⟨by omega, by omega⟩ ?_
            refine lv_icmp_gt (tgt := 244) hx hb dL_asks_237 rfl (fun hc => ?_) (fun hc => ?_)
            · have h := ip hc h
              exact N_L_asks_244 X hl9 hI hS (by omega) (by omega) (lv_sub hl [0, 1, 2] rfl) h
            · have h := ine hc h
              refine lv_iconst (v := (1:Int32)) hx hb dL_asks_240 (by decide) ?_
              refine lv_goto (tgt := 245) hx hb dL_asks_241 rfl ?_
              exact N_L_asks_245 X hl9 hI hS (by omega) (by omega) (lv_sub hl [0, 1, 2] rfl) h
    · have h := ine hc h
      refine c_aload_n hx hb dL_asks_16 rfl (lv_at hl 0 rfl) ?_
      refine lv_iload_n hx hb dL_asks_17 rfl (lv_at hl 3 rfl) ?_
      obtain ⟨v10, hv10, h⟩ := ob h
      refine l_cls (V := V) (V' := v10.2) (f := f_X11_isIn 1 (x3)) X hI hS (fun S q hq => K_X11_isIn l hl9 D (lwF b (V).2.2) S 1 (x3) hq) (D_isIn hv10).2 (D_isIn hv10).1 ⟨w_1116, ww_X11_isIn⟩ rfl hy_X11_isIn rfl ⟨(Nat.le_of_ble_eq_true rfl), (Nat.le_of_ble_eq_true rfl)⟩ hl.1 (Nat.le_of_ble_eq_true rfl) dL_asks_18 rfl ⟨by omega, by omega⟩ (fun u H locs hu hI hS => ?_)
      subst hu
      refine W.eq (g2 := F0 m 21 ls [.int v10.1]) rfl ?_
      refine c_istore hx hb dL_asks_21 hl (Nat.le_of_ble_eq_true rfl) (lvKa rfl (lvKa rfl (lvKa rfl (lvKi lvK0)))) rfl (fun ls (hl : lv_has ls 7 [(4, .int v10.1), (0, cv (lwO b) (some 1)), (1, .ref x1), (2, .int x2), (3, .int x3)]) => ?_)
      refine lv_iconst (v := (0:Int32)) hx hb dL_asks_23 (by decide) ?_
      refine c_istore hx hb dL_asks_24 hl (Nat.le_of_ble_eq_true rfl) (lvKi (lvKa rfl (lvKa rfl (lvKa rfl (lvKa rfl lvK0))))) rfl (fun ls (hl : lv_has ls 7 [(5, .int (0:Int32)), (4, .int v10.1), (0, cv (lwO b) (some 1)), (1, .ref x1), (2, .int x2), (3, .int x3)]) => ?_)
      exact N_L_asks_26 (r9 := (n * 208 + 208 + 0)) (t9 := (n * 1248 + 1248 + 0)) X hl9 hI hS (by omega) (by omega) (fun hI hS h1 h2 hl h => ih hI hS (by omega) (by omega) hl h) (lv_sub hl [2, 3, 4, 5, 1, 0] rfl) h
set_option maxRecDepth 20000 in
set_option maxHeartbeats 4000000 in
theorem K_L_asks (l : Launch) (hl9 : l.stackTraces = false) (D : cD) (b : Nat × Nat) (V : lwS) (x1 : Nat) {v : Int32} {V' : lwS} (h : f_L_asks x1 V = some (v, V')) : Met l yL_asks (Cond.code yL_asks cL_asks 7 (some .boolean) :: BG) (rA 9 2915 17490 224) (lwPc D b V [cv (lwO b) (some 1), .ref x1]) (lwQ D b V' (some (.int v))) 2915 17490 (cReg (lwO b)) := by
  refine Met.ofW (cc := cL_asks) (maxL := 7) (ret := (some .boolean)) (by decide) rfl ?_
  intro p e s m args below meth c s₁ B hml hv
  obtain ⟨rfl, hI, hK, hZ, hN⟩ := hv
  have X : lwX p s m [cv (lwO b) (some 1), .ref x1].toArray meth c cL_asks 7 (some .boolean) D b := lwX_of B hml hK hZ hN rfl
  have hx := X.1.1
  have hb := X.1.2.1
  have hown := X.1.2.2.2.1
  have hts := X.1.2.2.2.2.1
  have hl := lv_entry [cv (lwO b) (some 1), .ref x1] (n := 7) (by simp only [lgs_r, lgs_i, lgs_l, lgs_0, lgs_x, List.length]; exact Nat.le_of_ble_eq_true rfl)
  rw [lg_entry_eq]
  generalize (lg_sl [cv (lwO b) (some 1), .ref x1] ++ List.replicate (7 - (lg_sl [cv (lwO b) (some 1), .ref x1]).length) Slot.unset).toArray = ls at hl ⊢
  simp only [lv_args_r, lv_args_i, lv_args_l, lv_args_0, lv_args_x] at hl
  have hl : lv_has ls 7 [(0, cv (lwO b) (some 1)), (1, .ref x1)] := hl
  have hS : va_S (cReg (lwO b)) s.heap s.heap [] := va_S.rf
  show W p l e (rA 9 2915 17490 224) s m [cv (lwO b) (some 1), .ref x1].toArray below meth c s.heap [] 0 0 (MQ below (lwQ D b V' (some (.int v))) [cv (lwO b) (some 1), .ref x1].toArray s 2915 17490 (cReg (lwO b))) (F0 m 0 ls [])
  have h : ((oC (f_value ((0:Int32)) ((1:Int32))) V).bind (fun v1 => f_L_asks_9 13 (x1) (v1.1) ((0:Int32)) v1.2)) = some (v, V') := h
  refine c_aload_n hx hb dL_asks_0 rfl (lv_at hl 0 rfl) ?_
  refine lv_iconst (v := (0:Int32)) hx hb dL_asks_1 (by decide) ?_
  refine lv_iconst (v := (1:Int32)) hx hb dL_asks_2 (by decide) ?_
  obtain ⟨v1, hv1, h⟩ := ob h
  refine l_cls (V := V) (V' := v1.2) (f := f_X11_value 1 ((0:Int32)) ((1:Int32))) X hI hS (fun S q hq => K_X11_value l hl9 D (lwF b (V).2.2) S 1 ((0:Int32)) ((1:Int32)) hq) (D_value hv1).2 (D_value hv1).1 ⟨w_893, ww_X11_value⟩ rfl hy_X11_value rfl ⟨(Nat.le_of_ble_eq_true rfl), (Nat.le_of_ble_eq_true rfl)⟩ hl.1 (Nat.le_of_ble_eq_true rfl) dL_asks_3 rfl ⟨by omega, by omega⟩ (fun u H locs hu hI hS => ?_)
  subst hu
  refine W.eq (g2 := F0 m 6 ls [.int v1.1]) rfl ?_
  refine c_istore_n hx hb dL_asks_6 rfl hl (Nat.le_of_ble_eq_true rfl) (lvKa rfl (lvKx lvK0)) rfl (fun ls (hl : lv_has ls 7 [(2, .int v1.1), (0, cv (lwO b) (some 1)), (1, .ref x1)]) => ?_)
  refine lv_iconst (v := (0:Int32)) hx hb dL_asks_7 (by decide) ?_
  refine c_istore_n hx hb dL_asks_8 rfl hl (Nat.le_of_ble_eq_true rfl) (lvKi (lvKa rfl (lvKa rfl lvK0))) rfl (fun ls (hl : lv_has ls 7 [(3, .int (0:Int32)), (2, .int v1.1), (0, cv (lwO b) (some 1)), (1, .ref x1)]) => ?_)
  exact N_L_asks_9 X hl9 hI hS (by omega) (by omega) (lv_sub hl [2, 3, 1, 0] rfl) h
theorem ww_L_asks : Cond.static yL_asks ∈ BG ∧ Cond.initialized (yL_asks).cls ∈ BG ∧ Cond.code yL_asks cL_asks 7 (some .boolean) ∈ BG := ⟨w_1165, w_55, w_1166⟩
theorem hy_L_asks : (yL_asks).cls ≠ "java/lang/invoke/MethodHandle" ∧ (yL_asks).cls ≠ "java/lang/invoke/VarHandle" ∧ (parseMethodDescriptor (yL_asks).desc).map (fun d => d.parameters.length) = some 2 := ⟨by decide, by decide, by decide +kernel⟩
