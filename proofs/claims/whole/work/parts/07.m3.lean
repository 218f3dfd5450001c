theorem dX12_onRing_0 : decode cX12_onRing 0 = .ok (.iload_n 2, 1) := by decide +kernel
theorem dX12_onRing_1 : decode cX12_onRing 1 = .ok (.istore 6, 2) := by decide +kernel
theorem dX12_onRing_3 : decode cX12_onRing 3 = .ok (.iconst 0, 1) := by decide +kernel
theorem dX12_onRing_4 : decode cX12_onRing 4 = .ok (.istore 7, 2) := by decide +kernel
theorem dX12_onRing_6 : decode cX12_onRing 6 = .ok (.iload 7, 2) := by decide +kernel
theorem dX12_onRing_8 : decode cX12_onRing 8 = .ok (.iconst 3, 1) := by decide +kernel
theorem dX12_onRing_9 : decode cX12_onRing 9 = .ok (.if_icmp .ge 42, 3) := by decide +kernel
theorem dX12_onRing_12 : decode cX12_onRing 12 = .ok (.aload_n 0, 1) := by decide +kernel
theorem dX12_onRing_13 : decode cX12_onRing 13 = .ok (.iload_n 3, 1) := by decide +kernel
theorem dX12_onRing_14 : decode cX12_onRing 14 = .ok (.iload 6, 2) := by decide +kernel
theorem dX12_onRing_16 : decode cX12_onRing 16 = .ok (.invokevirtual 288, 3) := by decide +kernel
theorem dX12_onRing_19 : decode cX12_onRing 19 = .ok (.ifCond .ne 5, 3) := by decide +kernel
theorem dX12_onRing_22 : decode cX12_onRing 22 = .ok (.iconst 0, 1) := by decide +kernel
theorem dX12_onRing_23 : decode cX12_onRing 23 = .ok (.ireturn, 1) := by decide +kernel
theorem dX12_onRing_24 : decode cX12_onRing 24 = .ok (.aload_n 0, 1) := by decide +kernel
theorem dX12_onRing_25 : decode cX12_onRing 25 = .ok (.iload_n 1, 1) := by decide +kernel
theorem dX12_onRing_26 : decode cX12_onRing 26 = .ok (.iload 6, 2) := by decide +kernel
theorem dX12_onRing_28 : decode cX12_onRing 28 = .ok (.iload 4, 2) := by decide +kernel
theorem dX12_onRing_30 : decode cX12_onRing 30 = .ok (.iload 5, 2) := by decide +kernel
theorem dX12_onRing_32 : decode cX12_onRing 32 = .ok (.invokevirtual 386, 3) := by decide +kernel
theorem dX12_onRing_35 : decode cX12_onRing 35 = .ok (.istore 6, 2) := by decide +kernel
theorem dX12_onRing_37 : decode cX12_onRing 37 = .ok (.iload 6, 2) := by decide +kernel
theorem dX12_onRing_39 : decode cX12_onRing 39 = .ok (.iload_n 2, 1) := by decide +kernel
theorem dX12_onRing_40 : decode cX12_onRing 40 = .ok (.if_icmp .ne 5, 3) := by decide +kernel
theorem dX12_onRing_43 : decode cX12_onRing 43 = .ok (.iconst 1, 1) := by decide +kernel
theorem dX12_onRing_44 : decode cX12_onRing 44 = .ok (.ireturn, 1) := by decide +kernel
theorem dX12_onRing_45 : decode cX12_onRing 45 = .ok (.iinc 7 1, 3) := by decide +kernel
theorem dX12_onRing_48 : decode cX12_onRing 48 = .ok (.goto (-42), 3) := by decide +kernel
theorem dX12_onRing_51 : decode cX12_onRing 51 = .ok (.iconst 0, 1) := by decide +kernel
theorem dX12_onRing_52 : decode cX12_onRing 52 = .ok (.ireturn, 1) := by decide +kernel
theorem dX12_follow_0 : decode cX12_follow 0 = .ok (.iconst 3, 1) := by decide +kernel
theorem dX12_follow_1 : decode cX12_follow 1 = .ok (.bipush 30, 2) := by decide +kernel
theorem dX12_follow_3 : decode cX12_follow 3 = .ok (.iload 5, 2) := by decide +kernel
theorem dX12_follow_5 : decode cX12_follow 5 = .ok (.imul, 1) := by decide +kernel
theorem dX12_follow_6 : decode cX12_follow 6 = .ok (.iload_n 1, 1) := by decide +kernel
theorem dX12_follow_7 : decode cX12_follow 7 = .ok (.iadd, 1) := by decide +kernel
theorem dX12_follow_8 : decode cX12_follow 8 = .ok (.imul, 1) := by decide +kernel
theorem dX12_follow_9 : decode cX12_follow 9 = .ok (.istore 7, 2) := by decide +kernel
theorem dX12_follow_11 : decode cX12_follow 11 = .ok (.iload_n 2, 1) := by decide +kernel
theorem dX12_follow_12 : decode cX12_follow 12 = .ok (.istore 8, 2) := by decide +kernel
theorem dX12_follow_14 : decode cX12_follow 14 = .ok (.iconst (-1), 1) := by decide +kernel
theorem dX12_follow_15 : decode cX12_follow 15 = .ok (.istore 9, 2) := by decide +kernel
theorem dX12_follow_17 : decode cX12_follow 17 = .ok (.iconst 0, 1) := by decide +kernel
theorem dX12_follow_18 : decode cX12_follow 18 = .ok (.istore 10, 2) := by decide +kernel
theorem dX12_follow_20 : decode cX12_follow 20 = .ok (.iload_n 2, 1) := by decide +kernel
theorem dX12_follow_21 : decode cX12_follow 21 = .ok (.istore 11, 2) := by decide +kernel
theorem dX12_follow_23 : decode cX12_follow 23 = .ok (.iconst 0, 1) := by decide +kernel
theorem dX12_follow_24 : decode cX12_follow 24 = .ok (.istore 12, 2) := by decide +kernel
theorem dX12_follow_26 : decode cX12_follow 26 = .ok (.iload 12, 2) := by decide +kernel
theorem dX12_follow_28 : decode cX12_follow 28 = .ok (.iconst 3, 1) := by decide +kernel
theorem dX12_follow_29 : decode cX12_follow 29 = .ok (.if_icmp .ge 99, 3) := by decide +kernel
theorem dX12_follow_32 : decode cX12_follow 32 = .ok (.aload_n 0, 1) := by decide +kernel
theorem dX12_follow_33 : decode cX12_follow 33 = .ok (.iload_n 3, 1) := by decide +kernel
theorem dX12_follow_34 : decode cX12_follow 34 = .ok (.iload 11, 2) := by decide +kernel
theorem dX12_follow_36 : decode cX12_follow 36 = .ok (.invokevirtual 288, 3) := by decide +kernel
theorem dX12_follow_39 : decode cX12_follow 39 = .ok (.ifCond .eq 89, 3) := by decide +kernel
theorem dX12_follow_42 : decode cX12_follow 42 = .ok (.iload 10, 2) := by decide +kernel
theorem dX12_follow_44 : decode cX12_follow 44 = .ok (.ifCond .ne 84, 3) := by decide +kernel
theorem dX12_follow_47 : decode cX12_follow 47 = .ok (.aload_n 0, 1) := by decide +kernel
theorem dX12_follow_48 : decode cX12_follow 48 = .ok (.iload_n 1, 1) := by decide +kernel
theorem dX12_follow_49 : decode cX12_follow 49 = .ok (.bipush 12, 2) := by decide +kernel
theorem dX12_follow_51 : decode cX12_follow 51 = .ok (.iload 11, 2) := by decide +kernel
theorem dX12_follow_53 : decode cX12_follow 53 = .ok (.iadd, 1) := by decide +kernel
theorem dX12_follow_54 : decode cX12_follow 54 = .ok (.iload 4, 2) := by decide +kernel
theorem dX12_follow_56 : decode cX12_follow 56 = .ok (.iload 6, 2) := by decide +kernel
theorem dX12_follow_58 : decode cX12_follow 58 = .ok (.invokevirtual 374, 3) := by decide +kernel
theorem dX12_follow_61 : decode cX12_follow 61 = .ok (.istore 13, 2) := by decide +kernel
theorem dX12_follow_63 : decode cX12_follow 63 = .ok (.aload_n 0, 1) := by decide +kernel
theorem dX12_follow_64 : decode cX12_follow 64 = .ok (.iload_n 1, 1) := by decide +kernel
theorem dX12_follow_65 : decode cX12_follow 65 = .ok (.iload 11, 2) := by decide +kernel
theorem dX12_follow_67 : decode cX12_follow 67 = .ok (.iload_n 3, 1) := by decide +kernel
theorem dX12_follow_68 : decode cX12_follow 68 = .ok (.iload 4, 2) := by decide +kernel
theorem dX12_follow_70 : decode cX12_follow 70 = .ok (.iload 6, 2) := by decide +kernel
theorem dX12_follow_72 : decode cX12_follow 72 = .ok (.invokevirtual 382, 3) := by decide +kernel
theorem dX12_follow_75 : decode cX12_follow 75 = .ok (.istore 14, 2) := by decide +kernel
theorem dX12_follow_77 : decode cX12_follow 77 = .ok (.iload 14, 2) := by decide +kernel
theorem dX12_follow_79 : decode cX12_follow 79 = .ok (.ifCond .ne 18, 3) := by decide +kernel
theorem dX12_follow_82 : decode cX12_follow 82 = .ok (.aload_n 0, 1) := by decide +kernel
theorem dX12_follow_83 : decode cX12_follow 83 = .ok (.getfield 121, 3) := by decide +kernel
theorem dX12_follow_86 : decode cX12_follow 86 = .ok (.iload 13, 2) := by decide +kernel
theorem dX12_follow_88 : decode cX12_follow 88 = .ok (.iaload, 1) := by decide +kernel
theorem dX12_follow_89 : decode cX12_follow 89 = .ok (.ifCond .lt 8, 3) := by decide +kernel
theorem dX12_follow_92 : decode cX12_follow 92 = .ok (.iload 13, 2) := by decide +kernel
theorem dX12_follow_94 : decode cX12_follow 94 = .ok (.goto 5, 3) := by decide +kernel
theorem dX12_follow_97 : decode cX12_follow 97 = .ok (.iload 9, 2) := by decide +kernel
theorem dX12_follow_99 : decode cX12_follow 99 = .ok (.istore 9, 2) := by decide +kernel
theorem dX12_follow_101 : decode cX12_follow 101 = .ok (.iload 14, 2) := by decide +kernel
theorem dX12_follow_103 : decode cX12_follow 103 = .ok (.istore 10, 2) := by decide +kernel
theorem dX12_follow_105 : decode cX12_follow 105 = .ok (.aload_n 0, 1) := by decide +kernel
theorem dX12_follow_106 : decode cX12_follow 106 = .ok (.iload_n 1, 1) := by decide +kernel
theorem dX12_follow_107 : decode cX12_follow 107 = .ok (.iload 11, 2) := by decide +kernel
theorem dX12_follow_109 : decode cX12_follow 109 = .ok (.iload 4, 2) := by decide +kernel
theorem dX12_follow_111 : decode cX12_follow 111 = .ok (.iload 6, 2) := by decide +kernel
theorem dX12_follow_113 : decode cX12_follow 113 = .ok (.invokevirtual 386, 3) := by decide +kernel
theorem dX12_follow_116 : decode cX12_follow 116 = .ok (.istore 11, 2) := by decide +kernel
theorem dX12_follow_118 : decode cX12_follow 118 = .ok (.iload 11, 2) := by decide +kernel
theorem dX12_follow_120 : decode cX12_follow 120 = .ok (.istore 8, 2) := by decide +kernel
theorem dX12_follow_122 : decode cX12_follow 122 = .ok (.iinc 12 1, 3) := by decide +kernel
theorem dX12_follow_125 : decode cX12_follow 125 = .ok (.goto (-99), 3) := by decide +kernel
theorem dX12_follow_128 : decode cX12_follow 128 = .ok (.iload 10, 2) := by decide +kernel
theorem dX12_follow_130 : decode cX12_follow 130 = .ok (.ifCond .ne 30, 3) := by decide +kernel
theorem dX12_follow_133 : decode cX12_follow 133 = .ok (.aload_n 0, 1) := by decide +kernel
theorem dX12_follow_134 : decode cX12_follow 134 = .ok (.iload_n 3, 1) := by decide +kernel
theorem dX12_follow_135 : decode cX12_follow 135 = .ok (.iload 8, 2) := by decide +kernel
theorem dX12_follow_137 : decode cX12_follow 137 = .ok (.invokevirtual 288, 3) := by decide +kernel
theorem dX12_follow_140 : decode cX12_follow 140 = .ok (.ifCond .ne 20, 3) := by decide +kernel
theorem dX12_follow_143 : decode cX12_follow 143 = .ok (.aload_n 0, 1) := by decide +kernel
theorem dX12_follow_144 : decode cX12_follow 144 = .ok (.getfield 130, 3) := by decide +kernel
theorem dX12_follow_147 : decode cX12_follow 147 = .ok (.iload 7, 2) := by decide +kernel
theorem dX12_follow_149 : decode cX12_follow 149 = .ok (.iload 8, 2) := by decide +kernel
theorem dX12_follow_151 : decode cX12_follow 151 = .ok (.iadd, 1) := by decide +kernel
theorem dX12_follow_152 : decode cX12_follow 152 = .ok (.iaload, 1) := by decide +kernel
theorem dX12_follow_153 : decode cX12_follow 153 = .ok (.ifCond .lt 7, 3) := by decide +kernel
theorem dX12_follow_156 : decode cX12_follow 156 = .ok (.iconst 1, 1) := by decide +kernel
theorem dX12_follow_157 : decode cX12_follow 157 = .ok (.goto 4, 3) := by decide +kernel
theorem dX12_follow_160 : decode cX12_follow 160 = .ok (.iconst 0, 1) := by decide +kernel
theorem dX12_follow_161 : decode cX12_follow 161 = .ok (.istore 12, 2) := by decide +kernel
theorem dX12_follow_163 : decode cX12_follow 163 = .ok (.aload_n 0, 1) := by decide +kernel
theorem dX12_follow_164 : decode cX12_follow 164 = .ok (.getfield 130, 3) := by decide +kernel
theorem dX12_follow_167 : decode cX12_follow 167 = .ok (.iload 7, 2) := by decide +kernel
theorem dX12_follow_169 : decode cX12_follow 169 = .ok (.iload_n 2, 1) := by decide +kernel
theorem dX12_follow_170 : decode cX12_follow 170 = .ok (.iadd, 1) := by decide +kernel
theorem dX12_follow_171 : decode cX12_follow 171 = .ok (.iload 12, 2) := by decide +kernel
theorem dX12_follow_173 : decode cX12_follow 173 = .ok (.ifCond .eq 16, 3) := by decide +kernel
theorem dX12_follow_176 : decode cX12_follow 176 = .ok (.aload_n 0, 1) := by decide +kernel
theorem dX12_follow_177 : decode cX12_follow 177 = .ok (.getfield 130, 3) := by decide +kernel
theorem dX12_follow_180 : decode cX12_follow 180 = .ok (.iload 7, 2) := by decide +kernel
theorem dX12_follow_182 : decode cX12_follow 182 = .ok (.iload 8, 2) := by decide +kernel
theorem dX12_follow_184 : decode cX12_follow 184 = .ok (.iadd, 1) := by decide +kernel
theorem dX12_follow_185 : decode cX12_follow 185 = .ok (.iaload, 1) := by decide +kernel
theorem dX12_follow_186 : decode cX12_follow 186 = .ok (.goto 19, 3) := by decide +kernel
theorem dX12_follow_189 : decode cX12_follow 189 = .ok (.iload 9, 2) := by decide +kernel
theorem dX12_follow_191 : decode cX12_follow 191 = .ok (.ifCond .ge 7, 3) := by decide +kernel
theorem dX12_follow_194 : decode cX12_follow 194 = .ok (.iconst (-1), 1) := by decide +kernel
theorem dX12_follow_195 : decode cX12_follow 195 = .ok (.goto 10, 3) := by decide +kernel
theorem dX12_follow_198 : decode cX12_follow 198 = .ok (.aload_n 0, 1) := by decide +kernel
theorem dX12_follow_199 : decode cX12_follow 199 = .ok (.getfield 121, 3) := by decide +kernel
theorem dX12_follow_202 : decode cX12_follow 202 = .ok (.iload 9, 2) := by decide +kernel
theorem dX12_follow_204 : decode cX12_follow 204 = .ok (.iaload, 1) := by decide +kernel
theorem dX12_follow_205 : decode cX12_follow 205 = .ok (.iastore, 1) := by decide +kernel
theorem dX12_follow_206 : decode cX12_follow 206 = .ok (.aload_n 0, 1) := by decide +kernel
theorem dX12_follow_207 : decode cX12_follow 207 = .ok (.getfield 133, 3) := by decide +kernel
theorem dX12_follow_210 : decode cX12_follow 210 = .ok (.iload 7, 2) := by decide +kernel
theorem dX12_follow_212 : decode cX12_follow 212 = .ok (.iload_n 2, 1) := by decide +kernel
theorem dX12_follow_213 : decode cX12_follow 213 = .ok (.iadd, 1) := by decide +kernel
theorem dX12_follow_214 : decode cX12_follow 214 = .ok (.iload 12, 2) := by decide +kernel
theorem dX12_follow_216 : decode cX12_follow 216 = .ok (.ifCond .eq 16, 3) := by decide +kernel
theorem dX12_follow_219 : decode cX12_follow 219 = .ok (.aload_n 0, 1) := by decide +kernel
theorem dX12_follow_220 : decode cX12_follow 220 = .ok (.getfield 133, 3) := by decide +kernel
theorem dX12_follow_223 : decode cX12_follow 223 = .ok (.iload 7, 2) := by decide +kernel
theorem dX12_follow_225 : decode cX12_follow 225 = .ok (.iload 8, 2) := by decide +kernel
theorem dX12_follow_227 : decode cX12_follow 227 = .ok (.iadd, 1) := by decide +kernel
theorem dX12_follow_228 : decode cX12_follow 228 = .ok (.iaload, 1) := by decide +kernel
theorem dX12_follow_229 : decode cX12_follow 229 = .ok (.goto 31, 3) := by decide +kernel
theorem dX12_follow_232 : decode cX12_follow 232 = .ok (.iload 9, 2) := by decide +kernel
theorem dX12_follow_234 : decode cX12_follow 234 = .ok (.ifCond .lt 15, 3) := by decide +kernel
theorem dX12_follow_237 : decode cX12_follow 237 = .ok (.aload_n 0, 1) := by decide +kernel
theorem dX12_follow_238 : decode cX12_follow 238 = .ok (.getfield 121, 3) := by decide +kernel
theorem dX12_follow_241 : decode cX12_follow 241 = .ok (.iload 9, 2) := by decide +kernel
theorem dX12_follow_243 : decode cX12_follow 243 = .ok (.iaload, 1) := by decide +kernel
theorem dX12_follow_244 : decode cX12_follow 244 = .ok (.bipush 6, 2) := by decide +kernel
theorem dX12_follow_246 : decode cX12_follow 246 = .ok (.if_icmp .ne 7, 3) := by decide +kernel
theorem dX12_follow_249 : decode cX12_follow 249 = .ok (.iconst 0, 1) := by decide +kernel
theorem dX12_follow_250 : decode cX12_follow 250 = .ok (.goto 10, 3) := by decide +kernel
theorem dX12_follow_253 : decode cX12_follow 253 = .ok (.aload_n 0, 1) := by decide +kernel
theorem dX12_follow_254 : decode cX12_follow 254 = .ok (.getfield 124, 3) := by decide +kernel
theorem dX12_follow_257 : decode cX12_follow 257 = .ok (.iload 9, 2) := by decide +kernel
theorem dX12_follow_259 : decode cX12_follow 259 = .ok (.iaload, 1) := by decide +kernel
theorem dX12_follow_260 : decode cX12_follow 260 = .ok (.iastore, 1) := by decide +kernel
theorem dX12_follow_261 : decode cX12_follow 261 = .ok (.return_, 1) := by decide +kernel
theorem dX12_variables_0 : decode cX12_variables 0 = .ok (.iconst 0, 1) := by decide +kernel
theorem dX12_variables_1 : decode cX12_variables 1 = .ok (.istore 5, 2) := by decide +kernel
theorem dX12_variables_3 : decode cX12_variables 3 = .ok (.iconst 0, 1) := by decide +kernel
theorem dX12_variables_4 : decode cX12_variables 4 = .ok (.istore 6, 2) := by decide +kernel
theorem dX12_variables_6 : decode cX12_variables 6 = .ok (.iload 6, 2) := by decide +kernel
theorem dX12_variables_8 : decode cX12_variables 8 = .ok (.iconst 3, 1) := by decide +kernel
theorem dX12_variables_9 : decode cX12_variables 9 = .ok (.if_icmp .ge 247, 3) := by decide +kernel
theorem dX12_variables_12 : decode cX12_variables 12 = .ok (.aload_n 0, 1) := by decide +kernel
theorem dX12_variables_13 : decode cX12_variables 13 = .ok (.iload_n 1, 1) := by decide +kernel
theorem dX12_variables_14 : decode cX12_variables 14 = .ok (.bipush 12, 2) := by decide +kernel
theorem dX12_variables_16 : decode cX12_variables 16 = .ok (.iload 6, 2) := by decide +kernel
theorem dX12_variables_18 : decode cX12_variables 18 = .ok (.iadd, 1) := by decide +kernel
theorem dX12_variables_19 : decode cX12_variables 19 = .ok (.iload_n 2, 1) := by decide +kernel
theorem dX12_variables_20 : decode cX12_variables 20 = .ok (.iload 4, 2) := by decide +kernel
theorem dX12_variables_22 : decode cX12_variables 22 = .ok (.invokevirtual 374, 3) := by decide +kernel
theorem dX12_variables_25 : decode cX12_variables 25 = .ok (.istore 7, 2) := by decide +kernel
theorem dX12_variables_27 : decode cX12_variables 27 = .ok (.iconst 3, 1) := by decide +kernel
theorem dX12_variables_28 : decode cX12_variables 28 = .ok (.bipush 30, 2) := by decide +kernel
theorem dX12_variables_30 : decode cX12_variables 30 = .ok (.iload_n 3, 1) := by decide +kernel
theorem dX12_variables_31 : decode cX12_variables 31 = .ok (.imul, 1) := by decide +kernel
theorem dX12_variables_32 : decode cX12_variables 32 = .ok (.iload_n 1, 1) := by decide +kernel
theorem dX12_variables_33 : decode cX12_variables 33 = .ok (.iadd, 1) := by decide +kernel
theorem dX12_variables_34 : decode cX12_variables 34 = .ok (.imul, 1) := by decide +kernel
theorem dX12_variables_35 : decode cX12_variables 35 = .ok (.iload 6, 2) := by decide +kernel
theorem dX12_variables_37 : decode cX12_variables 37 = .ok (.iadd, 1) := by decide +kernel
theorem dX12_variables_38 : decode cX12_variables 38 = .ok (.istore 8, 2) := by decide +kernel
theorem dX12_variables_40 : decode cX12_variables 40 = .ok (.iconst 3, 1) := by decide +kernel
theorem dX12_variables_41 : decode cX12_variables 41 = .ok (.bipush 30, 2) := by decide +kernel
theorem dX12_variables_43 : decode cX12_variables 43 = .ok (.iload_n 2, 1) := by decide +kernel
theorem dX12_variables_44 : decode cX12_variables 44 = .ok (.imul, 1) := by decide +kernel
theorem dX12_variables_45 : decode cX12_variables 45 = .ok (.aload_n 0, 1) := by decide +kernel
theorem dX12_variables_46 : decode cX12_variables 46 = .ok (.getfield 196, 3) := by decide +kernel
theorem dX12_variables_49 : decode cX12_variables 49 = .ok (.iload_n 1, 1) := by decide +kernel
theorem dX12_variables_50 : decode cX12_variables 50 = .ok (.iaload, 1) := by decide +kernel
theorem dX12_variables_51 : decode cX12_variables 51 = .ok (.iadd, 1) := by decide +kernel
theorem dX12_variables_52 : decode cX12_variables 52 = .ok (.imul, 1) := by decide +kernel
theorem dX12_variables_53 : decode cX12_variables 53 = .ok (.iload 6, 2) := by decide +kernel
theorem dX12_variables_55 : decode cX12_variables 55 = .ok (.iadd, 1) := by decide +kernel
theorem dX12_variables_56 : decode cX12_variables 56 = .ok (.istore 9, 2) := by decide +kernel
theorem dX12_variables_58 : decode cX12_variables 58 = .ok (.iload 7, 2) := by decide +kernel
theorem dX12_variables_60 : decode cX12_variables 60 = .ok (.ifCond .lt 27, 3) := by decide +kernel
theorem dX12_variables_63 : decode cX12_variables 63 = .ok (.aload_n 0, 1) := by decide +kernel
theorem dX12_variables_64 : decode cX12_variables 64 = .ok (.getfield 109, 3) := by decide +kernel
theorem dX12_variables_67 : decode cX12_variables 67 = .ok (.iload 7, 2) := by decide +kernel
theorem dX12_variables_69 : decode cX12_variables 69 = .ok (.iaload, 1) := by decide +kernel
theorem dX12_variables_70 : decode cX12_variables 70 = .ok (.bipush 8, 2) := by decide +kernel
theorem dX12_variables_72 : decode cX12_variables 72 = .ok (.if_icmp .eq 15, 3) := by decide +kernel
theorem dX12_variables_75 : decode cX12_variables 75 = .ok (.aload_n 0, 1) := by decide +kernel
theorem dX12_variables_76 : decode cX12_variables 76 = .ok (.getfield 109, 3) := by decide +kernel
theorem dX12_variables_79 : decode cX12_variables 79 = .ok (.iload 7, 2) := by decide +kernel
theorem dX12_variables_81 : decode cX12_variables 81 = .ok (.iaload, 1) := by decide +kernel
theorem dX12_variables_82 : decode cX12_variables 82 = .ok (.bipush 9, 2) := by decide +kernel
theorem dX12_variables_84 : decode cX12_variables 84 = .ok (.if_icmp .ne 7, 3) := by decide +kernel
theorem dX12_variables_87 : decode cX12_variables 87 = .ok (.iconst 1, 1) := by decide +kernel
theorem dX12_variables_88 : decode cX12_variables 88 = .ok (.goto 4, 3) := by decide +kernel
theorem dX12_variables_91 : decode cX12_variables 91 = .ok (.iconst 0, 1) := by decide +kernel
theorem dX12_variables_92 : decode cX12_variables 92 = .ok (.istore 10, 2) := by decide +kernel
theorem dX12_variables_94 : decode cX12_variables 94 = .ok (.iload 5, 2) := by decide +kernel
theorem dX12_variables_96 : decode cX12_variables 96 = .ok (.iload 7, 2) := by decide +kernel
theorem dX12_variables_98 : decode cX12_variables 98 = .ok (.ifCond .lt 22, 3) := by decide +kernel
theorem dX12_variables_101 : decode cX12_variables 101 = .ok (.aload_n 0, 1) := by decide +kernel
theorem dX12_variables_102 : decode cX12_variables 102 = .ok (.getfield 109, 3) := by decide +kernel
theorem dX12_variables_105 : decode cX12_variables 105 = .ok (.iload 7, 2) := by decide +kernel
theorem dX12_variables_107 : decode cX12_variables 107 = .ok (.iaload, 1) := by decide +kernel
theorem dX12_variables_108 : decode cX12_variables 108 = .ok (.bipush 11, 2) := by decide +kernel
theorem dX12_variables_110 : decode cX12_variables 110 = .ok (.if_icmp .ne 10, 3) := by decide +kernel
theorem dX12_variables_113 : decode cX12_variables 113 = .ok (.iconst 1, 1) := by decide +kernel
theorem dX12_variables_114 : decode cX12_variables 114 = .ok (.iload 6, 2) := by decide +kernel
theorem dX12_variables_116 : decode cX12_variables 116 = .ok (.ishl, 1) := by decide +kernel
theorem dX12_variables_117 : decode cX12_variables 117 = .ok (.goto 4, 3) := by decide +kernel
theorem dX12_variables_120 : decode cX12_variables 120 = .ok (.iconst 0, 1) := by decide +kernel
theorem dX12_variables_121 : decode cX12_variables 121 = .ok (.ior, 1) := by decide +kernel
theorem dX12_variables_122 : decode cX12_variables 122 = .ok (.istore 5, 2) := by decide +kernel
theorem dX12_variables_124 : decode cX12_variables 124 = .ok (.aload_n 0, 1) := by decide +kernel
theorem dX12_variables_125 : decode cX12_variables 125 = .ok (.getfield 130, 3) := by decide +kernel
theorem dX12_variables_128 : decode cX12_variables 128 = .ok (.iload 8, 2) := by decide +kernel
theorem dX12_variables_130 : decode cX12_variables 130 = .ok (.iload 10, 2) := by decide +kernel
theorem dX12_variables_132 : decode cX12_variables 132 = .ok (.ifCond .eq 26, 3) := by decide +kernel
theorem dX12_variables_135 : decode cX12_variables 135 = .ok (.aload_n 0, 1) := by decide +kernel
theorem dX12_variables_136 : decode cX12_variables 136 = .ok (.getfield 196, 3) := by decide +kernel
theorem dX12_variables_139 : decode cX12_variables 139 = .ok (.iload_n 1, 1) := by decide +kernel
theorem dX12_variables_140 : decode cX12_variables 140 = .ok (.iaload, 1) := by decide +kernel
theorem dX12_variables_141 : decode cX12_variables 141 = .ok (.ifCond .ge 7, 3) := by decide +kernel
theorem dX12_variables_144 : decode cX12_variables 144 = .ok (.iconst (-1), 1) := by decide +kernel
theorem dX12_variables_145 : decode cX12_variables 145 = .ok (.goto 36, 3) := by decide +kernel
theorem dX12_variables_148 : decode cX12_variables 148 = .ok (.aload_n 0, 1) := by decide +kernel
theorem dX12_variables_149 : decode cX12_variables 149 = .ok (.getfield 130, 3) := by decide +kernel
theorem dX12_variables_152 : decode cX12_variables 152 = .ok (.iload 9, 2) := by decide +kernel
theorem dX12_variables_154 : decode cX12_variables 154 = .ok (.iaload, 1) := by decide +kernel
theorem dX12_variables_155 : decode cX12_variables 155 = .ok (.goto 26, 3) := by decide +kernel
theorem dX12_variables_158 : decode cX12_variables 158 = .ok (.aload_n 0, 1) := by decide +kernel
theorem dX12_variables_159 : decode cX12_variables 159 = .ok (.getfield 109, 3) := by decide +kernel
theorem dX12_variables_162 : decode cX12_variables 162 = .ok (.iload 7, 2) := by decide +kernel
theorem dX12_variables_164 : decode cX12_variables 164 = .ok (.iaload, 1) := by decide +kernel
theorem dX12_variables_165 : decode cX12_variables 165 = .ok (.bipush 6, 2) := by decide +kernel
theorem dX12_variables_167 : decode cX12_variables 167 = .ok (.if_icmp .le 7, 3) := by decide +kernel
theorem dX12_variables_170 : decode cX12_variables 170 = .ok (.iconst (-1), 1) := by decide +kernel
theorem dX12_variables_171 : decode cX12_variables 171 = .ok (.goto 10, 3) := by decide +kernel
theorem dX12_variables_174 : decode cX12_variables 174 = .ok (.aload_n 0, 1) := by decide +kernel
theorem dX12_variables_175 : decode cX12_variables 175 = .ok (.getfield 109, 3) := by decide +kernel
theorem dX12_variables_178 : decode cX12_variables 178 = .ok (.iload 7, 2) := by decide +kernel
theorem dX12_variables_180 : decode cX12_variables 180 = .ok (.iaload, 1) := by decide +kernel
theorem dX12_variables_181 : decode cX12_variables 181 = .ok (.iastore, 1) := by decide +kernel
theorem dX12_variables_182 : decode cX12_variables 182 = .ok (.aload_n 0, 1) := by decide +kernel
theorem dX12_variables_183 : decode cX12_variables 183 = .ok (.getfield 133, 3) := by decide +kernel
theorem dX12_variables_186 : decode cX12_variables 186 = .ok (.iload 8, 2) := by decide +kernel
theorem dX12_variables_188 : decode cX12_variables 188 = .ok (.iload 10, 2) := by decide +kernel
theorem dX12_variables_190 : decode cX12_variables 190 = .ok (.ifCond .eq 26, 3) := by decide +kernel
theorem dX12_variables_193 : decode cX12_variables 193 = .ok (.aload_n 0, 1) := by decide +kernel
theorem dX12_variables_194 : decode cX12_variables 194 = .ok (.getfield 196, 3) := by decide +kernel
theorem dX12_variables_197 : decode cX12_variables 197 = .ok (.iload_n 1, 1) := by decide +kernel
theorem dX12_variables_198 : decode cX12_variables 198 = .ok (.iaload, 1) := by decide +kernel
theorem dX12_variables_199 : decode cX12_variables 199 = .ok (.ifCond .ge 7, 3) := by decide +kernel
theorem dX12_variables_202 : decode cX12_variables 202 = .ok (.iconst 0, 1) := by decide +kernel
theorem dX12_variables_203 : decode cX12_variables 203 = .ok (.goto 46, 3) := by decide +kernel
theorem dX12_variables_206 : decode cX12_variables 206 = .ok (.aload_n 0, 1) := by decide +kernel
theorem dX12_variables_207 : decode cX12_variables 207 = .ok (.getfield 133, 3) := by decide +kernel
theorem dX12_variables_210 : decode cX12_variables 210 = .ok (.iload 9, 2) := by decide +kernel
theorem dX12_variables_212 : decode cX12_variables 212 = .ok (.iaload, 1) := by decide +kernel
theorem dX12_variables_213 : decode cX12_variables 213 = .ok (.goto 36, 3) := by decide +kernel
theorem dX12_variables_216 : decode cX12_variables 216 = .ok (.aload_n 0, 1) := by decide +kernel
theorem dX12_variables_217 : decode cX12_variables 217 = .ok (.getfield 130, 3) := by decide +kernel
theorem dX12_variables_220 : decode cX12_variables 220 = .ok (.iload 8, 2) := by decide +kernel
theorem dX12_variables_222 : decode cX12_variables 222 = .ok (.iaload, 1) := by decide +kernel
theorem dX12_variables_223 : decode cX12_variables 223 = .ok (.ifCond .lt 15, 3) := by decide +kernel
theorem dX12_variables_226 : decode cX12_variables 226 = .ok (.aload_n 0, 1) := by decide +kernel
theorem dX12_variables_227 : decode cX12_variables 227 = .ok (.getfield 130, 3) := by decide +kernel
theorem dX12_variables_230 : decode cX12_variables 230 = .ok (.iload 8, 2) := by decide +kernel
theorem dX12_variables_232 : decode cX12_variables 232 = .ok (.iaload, 1) := by decide +kernel
theorem dX12_variables_233 : decode cX12_variables 233 = .ok (.bipush 6, 2) := by decide +kernel
theorem dX12_variables_235 : decode cX12_variables 235 = .ok (.if_icmp .ne 7, 3) := by decide +kernel
theorem dX12_variables_238 : decode cX12_variables 238 = .ok (.iconst 0, 1) := by decide +kernel
theorem dX12_variables_239 : decode cX12_variables 239 = .ok (.goto 10, 3) := by decide +kernel
theorem dX12_variables_242 : decode cX12_variables 242 = .ok (.aload_n 0, 1) := by decide +kernel
theorem dX12_variables_243 : decode cX12_variables 243 = .ok (.getfield 112, 3) := by decide +kernel
theorem dX12_variables_246 : decode cX12_variables 246 = .ok (.iload 7, 2) := by decide +kernel
theorem dX12_variables_248 : decode cX12_variables 248 = .ok (.iaload, 1) := by decide +kernel
theorem dX12_variables_249 : decode cX12_variables 249 = .ok (.iastore, 1) := by decide +kernel
theorem dX12_variables_250 : decode cX12_variables 250 = .ok (.iinc 6 1, 3) := by decide +kernel
theorem dX12_variables_253 : decode cX12_variables 253 = .ok (.goto (-247), 3) := by decide +kernel
theorem dX12_variables_256 : decode cX12_variables 256 = .ok (.iconst 0, 1) := by decide +kernel
theorem dX12_variables_257 : decode cX12_variables 257 = .ok (.istore 6, 2) := by decide +kernel
theorem dX12_variables_259 : decode cX12_variables 259 = .ok (.iload 6, 2) := by decide +kernel
theorem dX12_variables_261 : decode cX12_variables 261 = .ok (.iconst 3, 1) := by decide +kernel
theorem dX12_variables_262 : decode cX12_variables 262 = .ok (.if_icmp .ge 33, 3) := by decide +kernel
theorem dX12_variables_265 : decode cX12_variables 265 = .ok (.aload_n 0, 1) := by decide +kernel
theorem dX12_variables_266 : decode cX12_variables 266 = .ok (.iload 5, 2) := by decide +kernel
theorem dX12_variables_268 : decode cX12_variables 268 = .ok (.iload 6, 2) := by decide +kernel
theorem dX12_variables_270 : decode cX12_variables 270 = .ok (.invokevirtual 288, 3) := by decide +kernel
theorem dX12_variables_273 : decode cX12_variables 273 = .ok (.ifCond .eq 16, 3) := by decide +kernel
theorem dX12_variables_276 : decode cX12_variables 276 = .ok (.aload_n 0, 1) := by decide +kernel
theorem dX12_variables_277 : decode cX12_variables 277 = .ok (.iload_n 1, 1) := by decide +kernel
theorem dX12_variables_278 : decode cX12_variables 278 = .ok (.iload 6, 2) := by decide +kernel
theorem dX12_variables_280 : decode cX12_variables 280 = .ok (.iload 5, 2) := by decide +kernel
theorem dX12_variables_282 : decode cX12_variables 282 = .ok (.iload_n 2, 1) := by decide +kernel
theorem dX12_variables_283 : decode cX12_variables 283 = .ok (.iload_n 3, 1) := by decide +kernel
theorem dX12_variables_284 : decode cX12_variables 284 = .ok (.iload 4, 2) := by decide +kernel
theorem dX12_variables_286 : decode cX12_variables 286 = .ok (.invokevirtual 378, 3) := by decide +kernel
theorem dX12_variables_289 : decode cX12_variables 289 = .ok (.iinc 6 1, 3) := by decide +kernel
theorem dX12_variables_292 : decode cX12_variables 292 = .ok (.goto (-33), 3) := by decide +kernel
theorem dX12_variables_295 : decode cX12_variables 295 = .ok (.return_, 1) := by decide +kernel
theorem dX12_reckoned_0 : decode cX12_reckoned 0 = .ok (.iload 4, 2) := by decide +kernel
theorem dX12_reckoned_2 : decode cX12_reckoned 2 = .ok (.i2l, 1) := by decide +kernel
theorem dX12_reckoned_3 : decode cX12_reckoned 3 = .ok (.lstore 8, 2) := by decide +kernel
theorem dX12_reckoned_5 : decode cX12_reckoned 5 = .ok (.bipush 12, 2) := by decide +kernel
theorem dX12_reckoned_7 : decode cX12_reckoned 7 = .ok (.bipush 30, 2) := by decide +kernel
theorem dX12_reckoned_9 : decode cX12_reckoned 9 = .ok (.iload 6, 2) := by decide +kernel
theorem dX12_reckoned_11 : decode cX12_reckoned 11 = .ok (.imul, 1) := by decide +kernel
theorem dX12_reckoned_12 : decode cX12_reckoned 12 = .ok (.iload_n 1, 1) := by decide +kernel
theorem dX12_reckoned_13 : decode cX12_reckoned 13 = .ok (.iadd, 1) := by decide +kernel
theorem dX12_reckoned_14 : decode cX12_reckoned 14 = .ok (.imul, 1) := by decide +kernel
theorem dX12_reckoned_15 : decode cX12_reckoned 15 = .ok (.istore 10, 2) := by decide +kernel
theorem dX12_reckoned_17 : decode cX12_reckoned 17 = .ok (.bipush 12, 2) := by decide +kernel
theorem dX12_reckoned_19 : decode cX12_reckoned 19 = .ok (.bipush 30, 2) := by decide +kernel
theorem dX12_reckoned_21 : decode cX12_reckoned 21 = .ok (.iload 5, 2) := by decide +kernel
theorem dX12_reckoned_23 : decode cX12_reckoned 23 = .ok (.imul, 1) := by decide +kernel
theorem dX12_reckoned_24 : decode cX12_reckoned 24 = .ok (.aload_n 0, 1) := by decide +kernel
theorem dX12_reckoned_25 : decode cX12_reckoned 25 = .ok (.getfield 196, 3) := by decide +kernel
theorem dX12_reckoned_28 : decode cX12_reckoned 28 = .ok (.iload_n 1, 1) := by decide +kernel
theorem dX12_reckoned_29 : decode cX12_reckoned 29 = .ok (.iaload, 1) := by decide +kernel
theorem dX12_reckoned_30 : decode cX12_reckoned 30 = .ok (.iadd, 1) := by decide +kernel
theorem dX12_reckoned_31 : decode cX12_reckoned 31 = .ok (.imul, 1) := by decide +kernel
theorem dX12_reckoned_32 : decode cX12_reckoned 32 = .ok (.istore 11, 2) := by decide +kernel
theorem dX12_reckoned_34 : decode cX12_reckoned 34 = .ok (.iload_n 2, 1) := by decide +kernel
theorem dX12_reckoned_35 : decode cX12_reckoned 35 = .ok (.iconst 1, 1) := by decide +kernel
theorem dX12_reckoned_36 : decode cX12_reckoned 36 = .ok (.if_icmp .eq 15, 3) := by decide +kernel
theorem dX12_reckoned_39 : decode cX12_reckoned 39 = .ok (.aload_n 0, 1) := by decide +kernel
theorem dX12_reckoned_40 : decode cX12_reckoned 40 = .ok (.getfield 127, 3) := by decide +kernel
theorem dX12_reckoned_43 : decode cX12_reckoned 43 = .ok (.iload 10, 2) := by decide +kernel
theorem dX12_reckoned_45 : decode cX12_reckoned 45 = .ok (.iconst 1, 1) := by decide +kernel
theorem dX12_reckoned_46 : decode cX12_reckoned 46 = .ok (.iadd, 1) := by decide +kernel
theorem dX12_reckoned_47 : decode cX12_reckoned 47 = .ok (.iaload, 1) := by decide +kernel
theorem dX12_reckoned_48 : decode cX12_reckoned 48 = .ok (.goto 26, 3) := by decide +kernel
theorem dX12_reckoned_51 : decode cX12_reckoned 51 = .ok (.aload_n 0, 1) := by decide +kernel
theorem dX12_reckoned_52 : decode cX12_reckoned 52 = .ok (.getfield 196, 3) := by decide +kernel
theorem dX12_reckoned_55 : decode cX12_reckoned 55 = .ok (.iload_n 1, 1) := by decide +kernel
theorem dX12_reckoned_56 : decode cX12_reckoned 56 = .ok (.iaload, 1) := by decide +kernel
theorem dX12_reckoned_57 : decode cX12_reckoned 57 = .ok (.ifCond .ge 8, 3) := by decide +kernel
theorem dX12_reckoned_60 : decode cX12_reckoned 60 = .ok (.bipush 16, 2) := by decide +kernel
theorem dX12_reckoned_62 : decode cX12_reckoned 62 = .ok (.goto 12, 3) := by decide +kernel
theorem dX12_reckoned_65 : decode cX12_reckoned 65 = .ok (.aload_n 0, 1) := by decide +kernel
theorem dX12_reckoned_66 : decode cX12_reckoned 66 = .ok (.getfield 127, 3) := by decide +kernel
theorem dX12_reckoned_69 : decode cX12_reckoned 69 = .ok (.iload 11, 2) := by decide +kernel
theorem dX12_reckoned_71 : decode cX12_reckoned 71 = .ok (.iconst 1, 1) := by decide +kernel
theorem dX12_reckoned_72 : decode cX12_reckoned 72 = .ok (.iadd, 1) := by decide +kernel
theorem dX12_reckoned_73 : decode cX12_reckoned 73 = .ok (.iaload, 1) := by decide +kernel
theorem dX12_reckoned_74 : decode cX12_reckoned 74 = .ok (.istore 12, 2) := by decide +kernel
theorem dX12_reckoned_76 : decode cX12_reckoned 76 = .ok (.iload_n 3, 1) := by decide +kernel
theorem dX12_reckoned_77 : decode cX12_reckoned 77 = .ok (.iconst 2, 1) := by decide +kernel
theorem dX12_reckoned_78 : decode cX12_reckoned 78 = .ok (.if_icmp .ge 10, 3) := by decide +kernel
theorem dX12_reckoned_81 : decode cX12_reckoned 81 = .ok (.aload_n 0, 1) := by decide +kernel
theorem dX12_reckoned_82 : decode cX12_reckoned 82 = .ok (.lload 8, 2) := by decide +kernel
theorem dX12_reckoned_84 : decode cX12_reckoned 84 = .ok (.invokevirtual 389, 3) := by decide +kernel
theorem dX12_reckoned_87 : decode cX12_reckoned 87 = .ok (.ireturn, 1) := by decide +kernel
theorem dX12_reckoned_88 : decode cX12_reckoned 88 = .ok (.iload_n 3, 1) := by decide +kernel
theorem dX12_reckoned_89 : decode cX12_reckoned 89 = .ok (.iconst 2, 1) := by decide +kernel
theorem dX12_reckoned_90 : decode cX12_reckoned 90 = .ok (.if_icmp .ne 18, 3) := by decide +kernel
theorem dX12_reckoned_93 : decode cX12_reckoned 93 = .ok (.aload_n 0, 1) := by decide +kernel
theorem dX12_reckoned_94 : decode cX12_reckoned 94 = .ok (.lload 8, 2) := by decide +kernel
theorem dX12_reckoned_96 : decode cX12_reckoned 96 = .ok (.iload 12, 2) := by decide +kernel
theorem dX12_reckoned_98 : decode cX12_reckoned 98 = .ok (.i2l, 1) := by decide +kernel
theorem dX12_reckoned_99 : decode cX12_reckoned 99 = .ok (.lmul, 1) := by decide +kernel
theorem dX12_reckoned_100 : decode cX12_reckoned 100 = .ok (.ldc2_w 393, 3) := by decide +kernel
theorem dX12_reckoned_103 : decode cX12_reckoned 103 = .ok (.ldiv, 1) := by decide +kernel
theorem dX12_reckoned_104 : decode cX12_reckoned 104 = .ok (.invokevirtual 389, 3) := by decide +kernel
theorem dX12_reckoned_107 : decode cX12_reckoned 107 = .ok (.ireturn, 1) := by decide +kernel
theorem dX12_reckoned_108 : decode cX12_reckoned 108 = .ok (.iload_n 3, 1) := by decide +kernel
theorem dX12_reckoned_109 : decode cX12_reckoned 109 = .ok (.iconst 3, 1) := by decide +kernel
theorem dX12_reckoned_110 : decode cX12_reckoned 110 = .ok (.if_icmp .ne 59, 3) := by decide +kernel
theorem dX12_reckoned_113 : decode cX12_reckoned 113 = .ok (.iload_n 1, 1) := by decide +kernel
theorem dX12_reckoned_114 : decode cX12_reckoned 114 = .ok (.ifCond .ne 25, 3) := by decide +kernel
theorem dX12_reckoned_117 : decode cX12_reckoned 117 = .ok (.iload_n 2, 1) := by decide +kernel
theorem dX12_reckoned_118 : decode cX12_reckoned 118 = .ok (.iconst 1, 1) := by decide +kernel
theorem dX12_reckoned_119 : decode cX12_reckoned 119 = .ok (.if_icmp .ne 8, 3) := by decide +kernel
theorem dX12_reckoned_122 : decode cX12_reckoned 122 = .ok (.bipush 16, 2) := by decide +kernel
theorem dX12_reckoned_124 : decode cX12_reckoned 124 = .ok (.goto 28, 3) := by decide +kernel
theorem dX12_reckoned_127 : decode cX12_reckoned 127 = .ok (.aload_n 0, 1) := by decide +kernel
theorem dX12_reckoned_128 : decode cX12_reckoned 128 = .ok (.getfield 127, 3) := by decide +kernel
theorem dX12_reckoned_131 : decode cX12_reckoned 131 = .ok (.iload 10, 2) := by decide +kernel
theorem dX12_reckoned_133 : decode cX12_reckoned 133 = .ok (.iconst 1, 1) := by decide +kernel
theorem dX12_reckoned_134 : decode cX12_reckoned 134 = .ok (.iadd, 1) := by decide +kernel
theorem dX12_reckoned_135 : decode cX12_reckoned 135 = .ok (.iaload, 1) := by decide +kernel
theorem dX12_reckoned_136 : decode cX12_reckoned 136 = .ok (.goto 16, 3) := by decide +kernel
theorem dX12_reckoned_139 : decode cX12_reckoned 139 = .ok (.aload_n 0, 1) := by decide +kernel
theorem dX12_reckoned_140 : decode cX12_reckoned 140 = .ok (.getfield 127, 3) := by decide +kernel
theorem dX12_reckoned_143 : decode cX12_reckoned 143 = .ok (.sipush 360, 3) := by decide +kernel
theorem dX12_reckoned_146 : decode cX12_reckoned 146 = .ok (.iload 5, 2) := by decide +kernel
theorem dX12_reckoned_148 : decode cX12_reckoned 148 = .ok (.imul, 1) := by decide +kernel
theorem dX12_reckoned_149 : decode cX12_reckoned 149 = .ok (.iconst 1, 1) := by decide +kernel
theorem dX12_reckoned_150 : decode cX12_reckoned 150 = .ok (.iadd, 1) := by decide +kernel
theorem dX12_reckoned_151 : decode cX12_reckoned 151 = .ok (.iaload, 1) := by decide +kernel
theorem dX12_reckoned_152 : decode cX12_reckoned 152 = .ok (.istore 13, 2) := by decide +kernel
theorem dX12_reckoned_154 : decode cX12_reckoned 154 = .ok (.aload_n 0, 1) := by decide +kernel
theorem dX12_reckoned_155 : decode cX12_reckoned 155 = .ok (.lload 8, 2) := by decide +kernel
theorem dX12_reckoned_157 : decode cX12_reckoned 157 = .ok (.iload 13, 2) := by decide +kernel
theorem dX12_reckoned_159 : decode cX12_reckoned 159 = .ok (.i2l, 1) := by decide +kernel
theorem dX12_reckoned_160 : decode cX12_reckoned 160 = .ok (.lmul, 1) := by decide +kernel
theorem dX12_reckoned_161 : decode cX12_reckoned 161 = .ok (.ldc2_w 393, 3) := by decide +kernel
theorem dX12_reckoned_164 : decode cX12_reckoned 164 = .ok (.ldiv, 1) := by decide +kernel
theorem dX12_reckoned_165 : decode cX12_reckoned 165 = .ok (.invokevirtual 389, 3) := by decide +kernel
theorem dX12_reckoned_168 : decode cX12_reckoned 168 = .ok (.ireturn, 1) := by decide +kernel
theorem dX12_reckoned_169 : decode cX12_reckoned 169 = .ok (.iload_n 3, 1) := by decide +kernel
theorem dX12_reckoned_170 : decode cX12_reckoned 170 = .ok (.iconst 4, 1) := by decide +kernel
theorem dX12_reckoned_171 : decode cX12_reckoned 171 = .ok (.if_icmp .ne 74, 3) := by decide +kernel
theorem dX12_reckoned_174 : decode cX12_reckoned 174 = .ok (.iload_n 2, 1) := by decide +kernel
theorem dX12_reckoned_175 : decode cX12_reckoned 175 = .ok (.iconst 1, 1) := by decide +kernel
theorem dX12_reckoned_176 : decode cX12_reckoned 176 = .ok (.if_icmp .ne 8, 3) := by decide +kernel
theorem dX12_reckoned_179 : decode cX12_reckoned 179 = .ok (.iload 12, 2) := by decide +kernel
theorem dX12_reckoned_181 : decode cX12_reckoned 181 = .ok (.goto 28, 3) := by decide +kernel
theorem dX12_reckoned_184 : decode cX12_reckoned 184 = .ok (.aload_n 0, 1) := by decide +kernel
theorem dX12_reckoned_185 : decode cX12_reckoned 185 = .ok (.getfield 196, 3) := by decide +kernel
theorem dX12_reckoned_188 : decode cX12_reckoned 188 = .ok (.iload_n 1, 1) := by decide +kernel
theorem dX12_reckoned_189 : decode cX12_reckoned 189 = .ok (.iaload, 1) := by decide +kernel
theorem dX12_reckoned_190 : decode cX12_reckoned 190 = .ok (.ifCond .ge 10, 3) := by decide +kernel
theorem dX12_reckoned_193 : decode cX12_reckoned 193 = .ok (.aload_n 0, 1) := by decide +kernel
theorem dX12_reckoned_194 : decode cX12_reckoned 194 = .ok (.getfield 221, 3) := by decide +kernel
theorem dX12_reckoned_197 : decode cX12_reckoned 197 = .ok (.goto 12, 3) := by decide +kernel
theorem dX12_reckoned_200 : decode cX12_reckoned 200 = .ok (.aload_n 0, 1) := by decide +kernel
theorem dX12_reckoned_201 : decode cX12_reckoned 201 = .ok (.getfield 127, 3) := by decide +kernel
theorem dX12_reckoned_204 : decode cX12_reckoned 204 = .ok (.iload 11, 2) := by decide +kernel
theorem dX12_reckoned_206 : decode cX12_reckoned 206 = .ok (.iconst 2, 1) := by decide +kernel
theorem dX12_reckoned_207 : decode cX12_reckoned 207 = .ok (.iadd, 1) := by decide +kernel
theorem dX12_reckoned_208 : decode cX12_reckoned 208 = .ok (.iaload, 1) := by decide +kernel
theorem dX12_reckoned_209 : decode cX12_reckoned 209 = .ok (.istore 13, 2) := by decide +kernel
theorem dX12_reckoned_211 : decode cX12_reckoned 211 = .ok (.iload_n 2, 1) := by decide +kernel
theorem dX12_reckoned_212 : decode cX12_reckoned 212 = .ok (.iconst 2, 1) := by decide +kernel
theorem dX12_reckoned_213 : decode cX12_reckoned 213 = .ok (.if_icmp .ne 17, 3) := by decide +kernel
theorem dX12_reckoned_216 : decode cX12_reckoned 216 = .ok (.iload 13, 2) := by decide +kernel
theorem dX12_reckoned_218 : decode cX12_reckoned 218 = .ok (.ldc_w 370, 3) := by decide +kernel
theorem dX12_reckoned_221 : decode cX12_reckoned 221 = .ok (.if_icmp .ne 9, 3) := by decide +kernel
theorem dX12_reckoned_224 : decode cX12_reckoned 224 = .ok (.ldc_w 370, 3) := by decide +kernel
theorem dX12_reckoned_227 : decode cX12_reckoned 227 = .ok (.goto 17, 3) := by decide +kernel
theorem dX12_reckoned_230 : decode cX12_reckoned 230 = .ok (.aload_n 0, 1) := by decide +kernel
theorem dX12_reckoned_231 : decode cX12_reckoned 231 = .ok (.lload 8, 2) := by decide +kernel
theorem dX12_reckoned_233 : decode cX12_reckoned 233 = .ok (.iload 13, 2) := by decide +kernel
theorem dX12_reckoned_235 : decode cX12_reckoned 235 = .ok (.i2l, 1) := by decide +kernel
theorem dX12_reckoned_236 : decode cX12_reckoned 236 = .ok (.lmul, 1) := by decide +kernel
theorem dX12_reckoned_237 : decode cX12_reckoned 237 = .ok (.ldc2_w 393, 3) := by decide +kernel
theorem dX12_reckoned_240 : decode cX12_reckoned 240 = .ok (.ldiv, 1) := by decide +kernel
theorem dX12_reckoned_241 : decode cX12_reckoned 241 = .ok (.invokevirtual 389, 3) := by decide +kernel
theorem dX12_reckoned_244 : decode cX12_reckoned 244 = .ok (.ireturn, 1) := by decide +kernel
theorem dX12_reckoned_245 : decode cX12_reckoned 245 = .ok (.iload_n 3, 1) := by decide +kernel
theorem dX12_reckoned_246 : decode cX12_reckoned 246 = .ok (.iconst 5, 1) := by decide +kernel
theorem dX12_reckoned_247 : decode cX12_reckoned 247 = .ok (.if_icmp .ne 59, 3) := by decide +kernel
theorem dX12_reckoned_250 : decode cX12_reckoned 250 = .ok (.iload 7, 2) := by decide +kernel
theorem dX12_reckoned_252 : decode cX12_reckoned 252 = .ok (.ifCond .eq 7, 3) := by decide +kernel
theorem dX12_reckoned_255 : decode cX12_reckoned 255 = .ok (.iconst (-1), 1) := by decide +kernel
theorem dX12_reckoned_256 : decode cX12_reckoned 256 = .ok (.goto 10, 3) := by decide +kernel
theorem dX12_reckoned_259 : decode cX12_reckoned 259 = .ok (.aload_n 0, 1) := by decide +kernel
theorem dX12_reckoned_260 : decode cX12_reckoned 260 = .ok (.iload_n 1, 1) := by decide +kernel
theorem dX12_reckoned_261 : decode cX12_reckoned 261 = .ok (.iload 5, 2) := by decide +kernel
theorem dX12_reckoned_263 : decode cX12_reckoned 263 = .ok (.invokevirtual 347, 3) := by decide +kernel
theorem dX12_reckoned_266 : decode cX12_reckoned 266 = .ok (.istore 13, 2) := by decide +kernel
theorem dX12_reckoned_268 : decode cX12_reckoned 268 = .ok (.aload_n 0, 1) := by decide +kernel
theorem dX12_reckoned_269 : decode cX12_reckoned 269 = .ok (.lload 8, 2) := by decide +kernel
theorem dX12_reckoned_271 : decode cX12_reckoned 271 = .ok (.iload 13, 2) := by decide +kernel
theorem dX12_reckoned_273 : decode cX12_reckoned 273 = .ok (.ifCond .ge 10, 3) := by decide +kernel
theorem dX12_reckoned_276 : decode cX12_reckoned 276 = .ok (.aload_n 0, 1) := by decide +kernel
theorem dX12_reckoned_277 : decode cX12_reckoned 277 = .ok (.getfield 221, 3) := by decide +kernel
theorem dX12_reckoned_280 : decode cX12_reckoned 280 = .ok (.goto 16, 3) := by decide +kernel
theorem dX12_reckoned_283 : decode cX12_reckoned 283 = .ok (.aload_n 0, 1) := by decide +kernel
theorem dX12_reckoned_284 : decode cX12_reckoned 284 = .ok (.getfield 136, 3) := by decide +kernel
theorem dX12_reckoned_287 : decode cX12_reckoned 287 = .ok (.bipush 30, 2) := by decide +kernel
theorem dX12_reckoned_289 : decode cX12_reckoned 289 = .ok (.iload 5, 2) := by decide +kernel
theorem dX12_reckoned_291 : decode cX12_reckoned 291 = .ok (.imul, 1) := by decide +kernel
theorem dX12_reckoned_292 : decode cX12_reckoned 292 = .ok (.iload 13, 2) := by decide +kernel
theorem dX12_reckoned_294 : decode cX12_reckoned 294 = .ok (.iadd, 1) := by decide +kernel
theorem dX12_reckoned_295 : decode cX12_reckoned 295 = .ok (.iaload, 1) := by decide +kernel
theorem dX12_reckoned_296 : decode cX12_reckoned 296 = .ok (.i2l, 1) := by decide +kernel
theorem dX12_reckoned_297 : decode cX12_reckoned 297 = .ok (.lmul, 1) := by decide +kernel
theorem dX12_reckoned_298 : decode cX12_reckoned 298 = .ok (.ldc2_w 393, 3) := by decide +kernel
theorem dX12_reckoned_301 : decode cX12_reckoned 301 = .ok (.ldiv, 1) := by decide +kernel
theorem dX12_reckoned_302 : decode cX12_reckoned 302 = .ok (.invokevirtual 389, 3) := by decide +kernel
theorem dX12_reckoned_305 : decode cX12_reckoned 305 = .ok (.ireturn, 1) := by decide +kernel
theorem dX12_reckoned_306 : decode cX12_reckoned 306 = .ok (.ldc_w 370, 3) := by decide +kernel
theorem dX12_reckoned_309 : decode cX12_reckoned 309 = .ok (.ireturn, 1) := by decide +kernel
theorem dX12_reckon_0 : decode cX12_reckon 0 = .ok (.aload_n 0, 1) := by decide +kernel
theorem dX12_reckon_1 : decode cX12_reckon 1 = .ok (.iload_n 1, 1) := by decide +kernel
theorem dX12_reckon_2 : decode cX12_reckon 2 = .ok (.iload_n 2, 1) := by decide +kernel
theorem dX12_reckon_3 : decode cX12_reckon 3 = .ok (.iload_n 3, 1) := by decide +kernel
theorem dX12_reckon_4 : decode cX12_reckon 4 = .ok (.iload 5, 2) := by decide +kernel
theorem dX12_reckon_6 : decode cX12_reckon 6 = .ok (.invokevirtual 374, 3) := by decide +kernel
theorem dX12_reckon_9 : decode cX12_reckon 9 = .ok (.istore 6, 2) := by decide +kernel
theorem dX12_reckon_11 : decode cX12_reckon 11 = .ok (.iload 6, 2) := by decide +kernel
theorem dX12_reckon_13 : decode cX12_reckon 13 = .ok (.ifCond .ge 8, 3) := by decide +kernel
theorem dX12_reckon_16 : decode cX12_reckon 16 = .ok (.bipush 9, 2) := by decide +kernel
theorem dX12_reckon_18 : decode cX12_reckon 18 = .ok (.goto 10, 3) := by decide +kernel
theorem dX12_reckon_21 : decode cX12_reckon 21 = .ok (.aload_n 0, 1) := by decide +kernel
theorem dX12_reckon_22 : decode cX12_reckon 22 = .ok (.getfield 109, 3) := by decide +kernel
theorem dX12_reckon_25 : decode cX12_reckon 25 = .ok (.iload 6, 2) := by decide +kernel
theorem dX12_reckon_27 : decode cX12_reckon 27 = .ok (.iaload, 1) := by decide +kernel
theorem dX12_reckon_28 : decode cX12_reckon 28 = .ok (.istore 7, 2) := by decide +kernel
theorem dX12_reckon_30 : decode cX12_reckon 30 = .ok (.iload 6, 2) := by decide +kernel
theorem dX12_reckon_32 : decode cX12_reckon 32 = .ok (.ifCond .ge 7, 3) := by decide +kernel
theorem dX12_reckon_35 : decode cX12_reckon 35 = .ok (.iconst 0, 1) := by decide +kernel
theorem dX12_reckon_36 : decode cX12_reckon 36 = .ok (.goto 10, 3) := by decide +kernel
theorem dX12_reckon_39 : decode cX12_reckon 39 = .ok (.aload_n 0, 1) := by decide +kernel
theorem dX12_reckon_40 : decode cX12_reckon 40 = .ok (.getfield 112, 3) := by decide +kernel
theorem dX12_reckon_43 : decode cX12_reckon 43 = .ok (.iload 6, 2) := by decide +kernel
theorem dX12_reckon_45 : decode cX12_reckon 45 = .ok (.iaload, 1) := by decide +kernel
theorem dX12_reckon_46 : decode cX12_reckon 46 = .ok (.istore 8, 2) := by decide +kernel
theorem dX12_reckon_48 : decode cX12_reckon 48 = .ok (.iload 7, 2) := by decide +kernel
theorem dX12_reckon_50 : decode cX12_reckon 50 = .ok (.bipush 11, 2) := by decide +kernel
theorem dX12_reckon_52 : decode cX12_reckon 52 = .ok (.if_icmp .ne 117, 3) := by decide +kernel
theorem dX12_reckon_55 : decode cX12_reckon 55 = .ok (.iconst 3, 1) := by decide +kernel
theorem dX12_reckon_56 : decode cX12_reckon 56 = .ok (.bipush 30, 2) := by decide +kernel
theorem dX12_reckon_58 : decode cX12_reckon 58 = .ok (.iload 4, 2) := by decide +kernel
theorem dX12_reckon_60 : decode cX12_reckon 60 = .ok (.imul, 1) := by decide +kernel
theorem dX12_reckon_61 : decode cX12_reckon 61 = .ok (.iload_n 1, 1) := by decide +kernel
theorem dX12_reckon_62 : decode cX12_reckon 62 = .ok (.iadd, 1) := by decide +kernel
theorem dX12_reckon_63 : decode cX12_reckon 63 = .ok (.imul, 1) := by decide +kernel
theorem dX12_reckon_64 : decode cX12_reckon 64 = .ok (.aload_n 0, 1) := by decide +kernel
theorem dX12_reckon_65 : decode cX12_reckon 65 = .ok (.getfield 118, 3) := by decide +kernel
theorem dX12_reckon_68 : decode cX12_reckon 68 = .ok (.iload 6, 2) := by decide +kernel
theorem dX12_reckon_70 : decode cX12_reckon 70 = .ok (.iaload, 1) := by decide +kernel
theorem dX12_reckon_71 : decode cX12_reckon 71 = .ok (.iadd, 1) := by decide +kernel
theorem dX12_reckon_72 : decode cX12_reckon 72 = .ok (.bipush 12, 2) := by decide +kernel
theorem dX12_reckon_74 : decode cX12_reckon 74 = .ok (.isub, 1) := by decide +kernel
theorem dX12_reckon_75 : decode cX12_reckon 75 = .ok (.istore 9, 2) := by decide +kernel
theorem dX12_reckon_77 : decode cX12_reckon 77 = .ok (.aload_n 0, 1) := by decide +kernel
theorem dX12_reckon_78 : decode cX12_reckon 78 = .ok (.getfield 130, 3) := by decide +kernel
theorem dX12_reckon_81 : decode cX12_reckon 81 = .ok (.iload 9, 2) := by decide +kernel
theorem dX12_reckon_83 : decode cX12_reckon 83 = .ok (.iaload, 1) := by decide +kernel
theorem dX12_reckon_84 : decode cX12_reckon 84 = .ok (.ifCond .lt 13, 3) := by decide +kernel
theorem dX12_reckon_87 : decode cX12_reckon 87 = .ok (.aload_n 0, 1) := by decide +kernel
theorem dX12_reckon_88 : decode cX12_reckon 88 = .ok (.getfield 130, 3) := by decide +kernel
theorem dX12_reckon_91 : decode cX12_reckon 91 = .ok (.iload 9, 2) := by decide +kernel
theorem dX12_reckon_93 : decode cX12_reckon 93 = .ok (.iaload, 1) := by decide +kernel
theorem dX12_reckon_94 : decode cX12_reckon 94 = .ok (.goto 25, 3) := by decide +kernel
theorem dX12_reckon_97 : decode cX12_reckon 97 = .ok (.aload_n 0, 1) := by decide +kernel
theorem dX12_reckon_98 : decode cX12_reckon 98 = .ok (.getfield 121, 3) := by decide +kernel
theorem dX12_reckon_101 : decode cX12_reckon 101 = .ok (.iload 6, 2) := by decide +kernel
theorem dX12_reckon_103 : decode cX12_reckon 103 = .ok (.iaload, 1) := by decide +kernel
theorem dX12_reckon_104 : decode cX12_reckon 104 = .ok (.ifCond .lt 13, 3) := by decide +kernel
theorem dX12_reckon_107 : decode cX12_reckon 107 = .ok (.aload_n 0, 1) := by decide +kernel
theorem dX12_reckon_108 : decode cX12_reckon 108 = .ok (.getfield 121, 3) := by decide +kernel
theorem dX12_reckon_111 : decode cX12_reckon 111 = .ok (.iload 6, 2) := by decide +kernel
theorem dX12_reckon_113 : decode cX12_reckon 113 = .ok (.iaload, 1) := by decide +kernel
theorem dX12_reckon_114 : decode cX12_reckon 114 = .ok (.goto 5, 3) := by decide +kernel
theorem dX12_reckon_117 : decode cX12_reckon 117 = .ok (.bipush 9, 2) := by decide +kernel
theorem dX12_reckon_119 : decode cX12_reckon 119 = .ok (.istore 7, 2) := by decide +kernel
theorem dX12_reckon_121 : decode cX12_reckon 121 = .ok (.aload_n 0, 1) := by decide +kernel
theorem dX12_reckon_122 : decode cX12_reckon 122 = .ok (.getfield 130, 3) := by decide +kernel
theorem dX12_reckon_125 : decode cX12_reckon 125 = .ok (.iload 9, 2) := by decide +kernel
theorem dX12_reckon_127 : decode cX12_reckon 127 = .ok (.iaload, 1) := by decide +kernel
theorem dX12_reckon_128 : decode cX12_reckon 128 = .ok (.ifCond .lt 13, 3) := by decide +kernel
theorem dX12_reckon_131 : decode cX12_reckon 131 = .ok (.aload_n 0, 1) := by decide +kernel
theorem dX12_reckon_132 : decode cX12_reckon 132 = .ok (.getfield 133, 3) := by decide +kernel
theorem dX12_reckon_135 : decode cX12_reckon 135 = .ok (.iload 9, 2) := by decide +kernel
theorem dX12_reckon_137 : decode cX12_reckon 137 = .ok (.iaload, 1) := by decide +kernel
theorem dX12_reckon_138 : decode cX12_reckon 138 = .ok (.goto 10, 3) := by decide +kernel
theorem dX12_reckon_141 : decode cX12_reckon 141 = .ok (.aload_n 0, 1) := by decide +kernel
theorem dX12_reckon_142 : decode cX12_reckon 142 = .ok (.getfield 124, 3) := by decide +kernel
theorem dX12_reckon_145 : decode cX12_reckon 145 = .ok (.iload 6, 2) := by decide +kernel
theorem dX12_reckon_147 : decode cX12_reckon 147 = .ok (.iaload, 1) := by decide +kernel
theorem dX12_reckon_148 : decode cX12_reckon 148 = .ok (.istore 8, 2) := by decide +kernel
theorem dX12_reckon_150 : decode cX12_reckon 150 = .ok (.aload_n 0, 1) := by decide +kernel
theorem dX12_reckon_151 : decode cX12_reckon 151 = .ok (.iload_n 2, 1) := by decide +kernel
theorem dX12_reckon_152 : decode cX12_reckon 152 = .ok (.iload 7, 2) := by decide +kernel
theorem dX12_reckon_154 : decode cX12_reckon 154 = .ok (.invokevirtual 395, 3) := by decide +kernel
theorem dX12_reckon_157 : decode cX12_reckon 157 = .ok (.ifCond .eq 8, 3) := by decide +kernel
theorem dX12_reckon_160 : decode cX12_reckon 160 = .ok (.iload 7, 2) := by decide +kernel
theorem dX12_reckon_162 : decode cX12_reckon 162 = .ok (.goto 5, 3) := by decide +kernel
theorem dX12_reckon_165 : decode cX12_reckon 165 = .ok (.bipush 9, 2) := by decide +kernel
theorem dX12_reckon_167 : decode cX12_reckon 167 = .ok (.istore 7, 2) := by decide +kernel
theorem dX12_reckon_169 : decode cX12_reckon 169 = .ok (.iload 7, 2) := by decide +kernel
theorem dX12_reckon_171 : decode cX12_reckon 171 = .ok (.bipush 8, 2) := by decide +kernel
theorem dX12_reckon_173 : decode cX12_reckon 173 = .ok (.if_icmp .eq 15, 3) := by decide +kernel
theorem dX12_reckon_176 : decode cX12_reckon 176 = .ok (.iload 7, 2) := by decide +kernel
theorem dX12_reckon_178 : decode cX12_reckon 178 = .ok (.bipush 9, 2) := by decide +kernel
theorem dX12_reckon_180 : decode cX12_reckon 180 = .ok (.if_icmp .ne 12, 3) := by decide +kernel
theorem dX12_reckon_183 : decode cX12_reckon 183 = .ok (.iload_n 2, 1) := by decide +kernel
theorem dX12_reckon_184 : decode cX12_reckon 184 = .ok (.iconst 2, 1) := by decide +kernel
theorem dX12_reckon_185 : decode cX12_reckon 185 = .ok (.if_icmp .ge 7, 3) := by decide +kernel
theorem dX12_reckon_188 : decode cX12_reckon 188 = .ok (.iconst 1, 1) := by decide +kernel
theorem dX12_reckon_189 : decode cX12_reckon 189 = .ok (.goto 4, 3) := by decide +kernel
theorem dX12_reckon_192 : decode cX12_reckon 192 = .ok (.iconst 0, 1) := by decide +kernel
theorem dX12_reckon_193 : decode cX12_reckon 193 = .ok (.istore 9, 2) := by decide +kernel
theorem dX12_reckon_195 : decode cX12_reckon 195 = .ok (.aload_n 0, 1) := by decide +kernel
theorem dX12_reckon_196 : decode cX12_reckon 196 = .ok (.getfield 127, 3) := by decide +kernel
theorem dX12_reckon_199 : decode cX12_reckon 199 = .ok (.bipush 12, 2) := by decide +kernel
theorem dX12_reckon_201 : decode cX12_reckon 201 = .ok (.bipush 30, 2) := by decide +kernel
theorem dX12_reckon_203 : decode cX12_reckon 203 = .ok (.iload 4, 2) := by decide +kernel
theorem dX12_reckon_205 : decode cX12_reckon 205 = .ok (.imul, 1) := by decide +kernel
theorem dX12_reckon_206 : decode cX12_reckon 206 = .ok (.iload_n 1, 1) := by decide +kernel
theorem dX12_reckon_207 : decode cX12_reckon 207 = .ok (.iadd, 1) := by decide +kernel
theorem dX12_reckon_208 : decode cX12_reckon 208 = .ok (.imul, 1) := by decide +kernel
theorem dX12_reckon_209 : decode cX12_reckon 209 = .ok (.iload_n 2, 1) := by decide +kernel
theorem dX12_reckon_210 : decode cX12_reckon 210 = .ok (.iadd, 1) := by decide +kernel
theorem dX12_reckon_211 : decode cX12_reckon 211 = .ok (.iload 9, 2) := by decide +kernel
theorem dX12_reckon_213 : decode cX12_reckon 213 = .ok (.ifCond .eq 13, 3) := by decide +kernel
theorem dX12_reckon_216 : decode cX12_reckon 216 = .ok (.aload_n 0, 1) := by decide +kernel
theorem dX12_reckon_217 : decode cX12_reckon 217 = .ok (.iload_n 1, 1) := by decide +kernel
theorem dX12_reckon_218 : decode cX12_reckon 218 = .ok (.iload_n 2, 1) := by decide +kernel
theorem dX12_reckon_219 : decode cX12_reckon 219 = .ok (.iload_n 3, 1) := by decide +kernel
theorem dX12_reckon_220 : decode cX12_reckon 220 = .ok (.invokevirtual 398, 3) := by decide +kernel
theorem dX12_reckon_223 : decode cX12_reckon 223 = .ok (.goto 33, 3) := by decide +kernel
theorem dX12_reckon_226 : decode cX12_reckon 226 = .ok (.iload 7, 2) := by decide +kernel
theorem dX12_reckon_228 : decode cX12_reckon 228 = .ok (.bipush 6, 2) := by decide +kernel
theorem dX12_reckon_230 : decode cX12_reckon 230 = .ok (.if_icmp .le 11, 3) := by decide +kernel
theorem dX12_reckon_233 : decode cX12_reckon 233 = .ok (.aload_n 0, 1) := by decide +kernel
theorem dX12_reckon_234 : decode cX12_reckon 234 = .ok (.iload_n 2, 1) := by decide +kernel
theorem dX12_reckon_235 : decode cX12_reckon 235 = .ok (.invokevirtual 371, 3) := by decide +kernel
theorem dX12_reckon_238 : decode cX12_reckon 238 = .ok (.goto 18, 3) := by decide +kernel
theorem dX12_reckon_241 : decode cX12_reckon 241 = .ok (.aload_n 0, 1) := by decide +kernel
theorem dX12_reckon_242 : decode cX12_reckon 242 = .ok (.iload_n 1, 1) := by decide +kernel
theorem dX12_reckon_243 : decode cX12_reckon 243 = .ok (.iload_n 2, 1) := by decide +kernel
theorem dX12_reckon_244 : decode cX12_reckon 244 = .ok (.iload 7, 2) := by decide +kernel
theorem dX12_reckon_246 : decode cX12_reckon 246 = .ok (.iload 8, 2) := by decide +kernel
theorem dX12_reckon_248 : decode cX12_reckon 248 = .ok (.iload_n 3, 1) := by decide +kernel
theorem dX12_reckon_249 : decode cX12_reckon 249 = .ok (.iload 4, 2) := by decide +kernel
theorem dX12_reckon_251 : decode cX12_reckon 251 = .ok (.iload 5, 2) := by decide +kernel
theorem dX12_reckon_253 : decode cX12_reckon 253 = .ok (.invokevirtual 401, 3) := by decide +kernel
theorem dX12_reckon_256 : decode cX12_reckon 256 = .ok (.iastore, 1) := by decide +kernel
theorem dX12_reckon_257 : decode cX12_reckon 257 = .ok (.iload_n 2, 1) := by decide +kernel
theorem dX12_reckon_258 : decode cX12_reckon 258 = .ok (.iconst 5, 1) := by decide +kernel
theorem dX12_reckon_259 : decode cX12_reckon 259 = .ok (.if_icmp .ge 39, 3) := by decide +kernel
theorem dX12_reckon_262 : decode cX12_reckon 262 = .ok (.iload 4, 2) := by decide +kernel
theorem dX12_reckon_264 : decode cX12_reckon 264 = .ok (.ifCond .ne 34, 3) := by decide +kernel
theorem dX12_reckon_267 : decode cX12_reckon 267 = .ok (.aload_n 0, 1) := by decide +kernel
theorem dX12_reckon_268 : decode cX12_reckon 268 = .ok (.getfield 139, 3) := by decide +kernel
theorem dX12_reckon_271 : decode cX12_reckon 271 = .ok (.iconst 5, 1) := by decide +kernel
theorem dX12_reckon_272 : decode cX12_reckon 272 = .ok (.iload_n 1, 1) := by decide +kernel
theorem dX12_reckon_273 : decode cX12_reckon 273 = .ok (.imul, 1) := by decide +kernel
theorem dX12_reckon_274 : decode cX12_reckon 274 = .ok (.iload_n 2, 1) := by decide +kernel
theorem dX12_reckon_275 : decode cX12_reckon 275 = .ok (.iadd, 1) := by decide +kernel
theorem dX12_reckon_276 : decode cX12_reckon 276 = .ok (.iload 6, 2) := by decide +kernel
theorem dX12_reckon_278 : decode cX12_reckon 278 = .ok (.ifCond .lt 18, 3) := by decide +kernel
theorem dX12_reckon_281 : decode cX12_reckon 281 = .ok (.aload_n 0, 1) := by decide +kernel
theorem dX12_reckon_282 : decode cX12_reckon 282 = .ok (.getfield 115, 3) := by decide +kernel
theorem dX12_reckon_285 : decode cX12_reckon 285 = .ok (.iload 6, 2) := by decide +kernel
theorem dX12_reckon_287 : decode cX12_reckon 287 = .ok (.iaload, 1) := by decide +kernel
theorem dX12_reckon_288 : decode cX12_reckon 288 = .ok (.iconst 1, 1) := by decide +kernel
theorem dX12_reckon_289 : decode cX12_reckon 289 = .ok (.if_icmp .ne 7, 3) := by decide +kernel
theorem dX12_reckon_292 : decode cX12_reckon 292 = .ok (.iconst 1, 1) := by decide +kernel
theorem dX12_reckon_293 : decode cX12_reckon 293 = .ok (.goto 4, 3) := by decide +kernel
theorem dX12_reckon_296 : decode cX12_reckon 296 = .ok (.iconst 0, 1) := by decide +kernel
theorem dX12_reckon_297 : decode cX12_reckon 297 = .ok (.iastore, 1) := by decide +kernel
theorem dX12_reckon_298 : decode cX12_reckon 298 = .ok (.return_, 1) := by decide +kernel
theorem dX12_style_0 : decode cX12_style 0 = .ok (.aload_n 0, 1) := by decide +kernel
theorem dX12_style_1 : decode cX12_style 1 = .ok (.iload_n 1, 1) := by decide +kernel
theorem dX12_style_2 : decode cX12_style 2 = .ok (.iload_n 2, 1) := by decide +kernel
theorem dX12_style_3 : decode cX12_style 3 = .ok (.iload_n 3, 1) := by decide +kernel
theorem dX12_style_4 : decode cX12_style 4 = .ok (.iload 4, 2) := by decide +kernel
theorem dX12_style_6 : decode cX12_style 6 = .ok (.invokevirtual 405, 3) := by decide +kernel
theorem dX12_style_9 : decode cX12_style 9 = .ok (.aload_n 0, 1) := by decide +kernel
theorem dX12_style_10 : decode cX12_style 10 = .ok (.iload_n 1, 1) := by decide +kernel
theorem dX12_style_11 : decode cX12_style 11 = .ok (.iconst 1, 1) := by decide +kernel
theorem dX12_style_12 : decode cX12_style 12 = .ok (.iload_n 2, 1) := by decide +kernel
theorem dX12_style_13 : decode cX12_style 13 = .ok (.iload_n 3, 1) := by decide +kernel
theorem dX12_style_14 : decode cX12_style 14 = .ok (.iload 4, 2) := by decide +kernel
theorem dX12_style_16 : decode cX12_style 16 = .ok (.invokevirtual 409, 3) := by decide +kernel
theorem dX12_style_19 : decode cX12_style 19 = .ok (.iconst 0, 1) := by decide +kernel
theorem dX12_style_20 : decode cX12_style 20 = .ok (.istore 5, 2) := by decide +kernel
theorem dX12_style_22 : decode cX12_style 22 = .ok (.iload 5, 2) := by decide +kernel
theorem dX12_style_24 : decode cX12_style 24 = .ok (.bipush 12, 2) := by decide +kernel
theorem dX12_style_26 : decode cX12_style 26 = .ok (.if_icmp .ge 37, 3) := by decide +kernel
theorem dX12_style_29 : decode cX12_style 29 = .ok (.iload 5, 2) := by decide +kernel
theorem dX12_style_31 : decode cX12_style 31 = .ok (.iconst 1, 1) := by decide +kernel
theorem dX12_style_32 : decode cX12_style 32 = .ok (.if_icmp .eq 25, 3) := by decide +kernel
theorem dX12_style_35 : decode cX12_style 35 = .ok (.iload 4, 2) := by decide +kernel
theorem dX12_style_37 : decode cX12_style 37 = .ok (.ifCond .eq 9, 3) := by decide +kernel
theorem dX12_style_40 : decode cX12_style 40 = .ok (.iload 5, 2) := by decide +kernel
theorem dX12_style_42 : decode cX12_style 42 = .ok (.iconst 4, 1) := by decide +kernel
theorem dX12_style_43 : decode cX12_style 43 = .ok (.if_icmp .ge 14, 3) := by decide +kernel
theorem dX12_style_46 : decode cX12_style 46 = .ok (.aload_n 0, 1) := by decide +kernel
theorem dX12_style_47 : decode cX12_style 47 = .ok (.iload_n 1, 1) := by decide +kernel
theorem dX12_style_48 : decode cX12_style 48 = .ok (.iload 5, 2) := by decide +kernel
theorem dX12_style_50 : decode cX12_style 50 = .ok (.iload_n 2, 1) := by decide +kernel
theorem dX12_style_51 : decode cX12_style 51 = .ok (.iload_n 3, 1) := by decide +kernel
theorem dX12_style_52 : decode cX12_style 52 = .ok (.iload 4, 2) := by decide +kernel
theorem dX12_style_54 : decode cX12_style 54 = .ok (.invokevirtual 409, 3) := by decide +kernel
theorem dX12_style_57 : decode cX12_style 57 = .ok (.iinc 5 1, 3) := by decide +kernel
theorem dX12_style_60 : decode cX12_style 60 = .ok (.goto (-38), 3) := by decide +kernel
theorem dX12_style_63 : decode cX12_style 63 = .ok (.return_, 1) := by decide +kernel
theorem dX12_sized_0 : decode cX12_sized 0 = .ok (.bipush 12, 2) := by decide +kernel
theorem dX12_sized_2 : decode cX12_sized 2 = .ok (.bipush 30, 2) := by decide +kernel
theorem dX12_sized_4 : decode cX12_sized 4 = .ok (.iload_n 2, 1) := by decide +kernel
theorem dX12_sized_5 : decode cX12_sized 5 = .ok (.imul, 1) := by decide +kernel
theorem dX12_sized_6 : decode cX12_sized 6 = .ok (.iload_n 1, 1) := by decide +kernel
theorem dX12_sized_7 : decode cX12_sized 7 = .ok (.iadd, 1) := by decide +kernel
theorem dX12_sized_8 : decode cX12_sized 8 = .ok (.imul, 1) := by decide +kernel
theorem dX12_sized_9 : decode cX12_sized 9 = .ok (.istore_n 3, 1) := by decide +kernel
theorem dX12_sized_10 : decode cX12_sized 10 = .ok (.aload_n 0, 1) := by decide +kernel
theorem dX12_sized_11 : decode cX12_sized 11 = .ok (.getfield 127, 3) := by decide +kernel
theorem dX12_sized_14 : decode cX12_sized 14 = .ok (.iload_n 3, 1) := by decide +kernel
theorem dX12_sized_15 : decode cX12_sized 15 = .ok (.bipush 6, 2) := by decide +kernel
theorem dX12_sized_17 : decode cX12_sized 17 = .ok (.iadd, 1) := by decide +kernel
theorem dX12_sized_18 : decode cX12_sized 18 = .ok (.iaload, 1) := by decide +kernel
theorem dX12_sized_19 : decode cX12_sized 19 = .ok (.ifCond .gt 5, 3) := by decide +kernel
theorem dX12_sized_22 : decode cX12_sized 22 = .ok (.iconst (-1), 1) := by decide +kernel
theorem dX12_sized_23 : decode cX12_sized 23 = .ok (.ireturn, 1) := by decide +kernel
theorem dX12_sized_24 : decode cX12_sized 24 = .ok (.aload_n 0, 1) := by decide +kernel
theorem dX12_sized_25 : decode cX12_sized 25 = .ok (.getfield 127, 3) := by decide +kernel
theorem dX12_sized_28 : decode cX12_sized 28 = .ok (.iload_n 3, 1) := by decide +kernel
theorem dX12_sized_29 : decode cX12_sized 29 = .ok (.iconst 2, 1) := by decide +kernel
theorem dX12_sized_30 : decode cX12_sized 30 = .ok (.iadd, 1) := by decide +kernel
theorem dX12_sized_31 : decode cX12_sized 31 = .ok (.iaload, 1) := by decide +kernel
theorem dX12_sized_32 : decode cX12_sized 32 = .ok (.ldc_w 370, 3) := by decide +kernel
theorem dX12_sized_35 : decode cX12_sized 35 = .ok (.if_icmp .eq 12, 3) := by decide +kernel
theorem dX12_sized_38 : decode cX12_sized 38 = .ok (.aload_n 0, 1) := by decide +kernel
theorem dX12_sized_39 : decode cX12_sized 39 = .ok (.getfield 127, 3) := by decide +kernel
theorem dX12_sized_42 : decode cX12_sized 42 = .ok (.iload_n 3, 1) := by decide +kernel
theorem dX12_sized_43 : decode cX12_sized 43 = .ok (.iconst 2, 1) := by decide +kernel
theorem dX12_sized_44 : decode cX12_sized 44 = .ok (.iadd, 1) := by decide +kernel
theorem dX12_sized_45 : decode cX12_sized 45 = .ok (.iaload, 1) := by decide +kernel
theorem dX12_sized_46 : decode cX12_sized 46 = .ok (.ireturn, 1) := by decide +kernel
theorem dX12_sized_47 : decode cX12_sized 47 = .ok (.iconst 0, 1) := by decide +kernel
theorem dX12_sized_48 : decode cX12_sized 48 = .ok (.istore 4, 2) := by decide +kernel
theorem dX12_sized_50 : decode cX12_sized 50 = .ok (.aload_n 0, 1) := by decide +kernel
theorem dX12_sized_51 : decode cX12_sized 51 = .ok (.iload_n 1, 1) := by decide +kernel
theorem dX12_sized_52 : decode cX12_sized 52 = .ok (.invokevirtual 274, 3) := by decide +kernel
theorem dX12_sized_55 : decode cX12_sized 55 = .ok (.iconst 0, 1) := by decide +kernel
theorem dX12_sized_56 : decode cX12_sized 56 = .ok (.istore 5, 2) := by decide +kernel
theorem dX12_sized_58 : decode cX12_sized 58 = .ok (.iload 5, 2) := by decide +kernel
theorem dX12_sized_60 : decode cX12_sized 60 = .ok (.aload_n 0, 1) := by decide +kernel
theorem dX12_sized_61 : decode cX12_sized 61 = .ok (.getfield 261, 3) := by decide +kernel
theorem dX12_sized_64 : decode cX12_sized 64 = .ok (.if_icmp .ge 83, 3) := by decide +kernel
theorem dX12_sized_67 : decode cX12_sized 67 = .ok (.bipush 12, 2) := by decide +kernel
theorem dX12_sized_69 : decode cX12_sized 69 = .ok (.bipush 60, 2) := by decide +kernel
theorem dX12_sized_71 : decode cX12_sized 71 = .ok (.aload_n 0, 1) := by decide +kernel
theorem dX12_sized_72 : decode cX12_sized 72 = .ok (.getfield 199, 3) := by decide +kernel
theorem dX12_sized_75 : decode cX12_sized 75 = .ok (.iload 5, 2) := by decide +kernel
theorem dX12_sized_77 : decode cX12_sized 77 = .ok (.iaload, 1) := by decide +kernel
theorem dX12_sized_78 : decode cX12_sized 78 = .ok (.iadd, 1) := by decide +kernel
theorem dX12_sized_79 : decode cX12_sized 79 = .ok (.imul, 1) := by decide +kernel
theorem dX12_sized_80 : decode cX12_sized 80 = .ok (.istore 6, 2) := by decide +kernel
theorem dX12_sized_82 : decode cX12_sized 82 = .ok (.aload_n 0, 1) := by decide +kernel
theorem dX12_sized_83 : decode cX12_sized 83 = .ok (.aload_n 0, 1) := by decide +kernel
theorem dX12_sized_84 : decode cX12_sized 84 = .ok (.getfield 199, 3) := by decide +kernel
theorem dX12_sized_87 : decode cX12_sized 87 = .ok (.iload 5, 2) := by decide +kernel
theorem dX12_sized_89 : decode cX12_sized 89 = .ok (.iaload, 1) := by decide +kernel
theorem dX12_sized_90 : decode cX12_sized 90 = .ok (.iload_n 2, 1) := by decide +kernel
theorem dX12_sized_91 : decode cX12_sized 91 = .ok (.iconst 2, 1) := by decide +kernel
theorem dX12_sized_92 : decode cX12_sized 92 = .ok (.iconst 1, 1) := by decide +kernel
theorem dX12_sized_93 : decode cX12_sized 93 = .ok (.invokevirtual 413, 3) := by decide +kernel
theorem dX12_sized_96 : decode cX12_sized 96 = .ok (.iload 4, 2) := by decide +kernel
theorem dX12_sized_98 : decode cX12_sized 98 = .ok (.aload_n 0, 1) := by decide +kernel
theorem dX12_sized_99 : decode cX12_sized 99 = .ok (.getfield 127, 3) := by decide +kernel
theorem dX12_sized_102 : decode cX12_sized 102 = .ok (.iload 6, 2) := by decide +kernel
theorem dX12_sized_104 : decode cX12_sized 104 = .ok (.iconst 2, 1) := by decide +kernel
theorem dX12_sized_105 : decode cX12_sized 105 = .ok (.iadd, 1) := by decide +kernel
theorem dX12_sized_106 : decode cX12_sized 106 = .ok (.iaload, 1) := by decide +kernel
theorem dX12_sized_107 : decode cX12_sized 107 = .ok (.ldc_w 370, 3) := by decide +kernel
theorem dX12_sized_110 : decode cX12_sized 110 = .ok (.if_icmp .ne 7, 3) := by decide +kernel
theorem dX12_sized_113 : decode cX12_sized 113 = .ok (.iconst 0, 1) := by decide +kernel
theorem dX12_sized_114 : decode cX12_sized 114 = .ok (.goto 12, 3) := by decide +kernel
theorem dX12_sized_117 : decode cX12_sized 117 = .ok (.aload_n 0, 1) := by decide +kernel
theorem dX12_sized_118 : decode cX12_sized 118 = .ok (.getfield 127, 3) := by decide +kernel
theorem dX12_sized_121 : decode cX12_sized 121 = .ok (.iload 6, 2) := by decide +kernel
theorem dX12_sized_123 : decode cX12_sized 123 = .ok (.iconst 2, 1) := by decide +kernel
theorem dX12_sized_124 : decode cX12_sized 124 = .ok (.iadd, 1) := by decide +kernel
theorem dX12_sized_125 : decode cX12_sized 125 = .ok (.iaload, 1) := by decide +kernel
theorem dX12_sized_126 : decode cX12_sized 126 = .ok (.iconst 2, 1) := by decide +kernel
theorem dX12_sized_127 : decode cX12_sized 127 = .ok (.aload_n 0, 1) := by decide +kernel
theorem dX12_sized_128 : decode cX12_sized 128 = .ok (.getfield 127, 3) := by decide +kernel
theorem dX12_sized_131 : decode cX12_sized 131 = .ok (.iload 6, 2) := by decide +kernel
theorem dX12_sized_133 : decode cX12_sized 133 = .ok (.iconst 3, 1) := by decide +kernel
theorem dX12_sized_134 : decode cX12_sized 134 = .ok (.iadd, 1) := by decide +kernel
theorem dX12_sized_135 : decode cX12_sized 135 = .ok (.iaload, 1) := by decide +kernel
theorem dX12_sized_136 : decode cX12_sized 136 = .ok (.imul, 1) := by decide +kernel
theorem dX12_sized_137 : decode cX12_sized 137 = .ok (.iadd, 1) := by decide +kernel
theorem dX12_sized_138 : decode cX12_sized 138 = .ok (.iadd, 1) := by decide +kernel
theorem dX12_sized_139 : decode cX12_sized 139 = .ok (.istore 4, 2) := by decide +kernel
theorem dX12_sized_141 : decode cX12_sized 141 = .ok (.iinc 5 1, 3) := by decide +kernel
theorem dX12_sized_144 : decode cX12_sized 144 = .ok (.goto (-86), 3) := by decide +kernel
theorem dX12_sized_147 : decode cX12_sized 147 = .ok (.iload 4, 2) := by decide +kernel
theorem dX12_sized_149 : decode cX12_sized 149 = .ok (.ireturn, 1) := by decide +kernel
theorem dX12_byFrames_0 : decode cX12_byFrames 0 = .ok (.aload_n 0, 1) := by decide +kernel
theorem dX12_byFrames_1 : decode cX12_byFrames 1 = .ok (.getfield 127, 3) := by decide +kernel
theorem dX12_byFrames_4 : decode cX12_byFrames 4 = .ok (.bipush 12, 2) := by decide +kernel
theorem dX12_byFrames_6 : decode cX12_byFrames 6 = .ok (.iload_n 1, 1) := by decide +kernel
theorem dX12_byFrames_7 : decode cX12_byFrames 7 = .ok (.imul, 1) := by decide +kernel
theorem dX12_byFrames_8 : decode cX12_byFrames 8 = .ok (.bipush 11, 2) := by decide +kernel
theorem dX12_byFrames_10 : decode cX12_byFrames 10 = .ok (.iadd, 1) := by decide +kernel
theorem dX12_byFrames_11 : decode cX12_byFrames 11 = .ok (.iaload, 1) := by decide +kernel
theorem dX12_byFrames_12 : decode cX12_byFrames 12 = .ok (.istore_n 3, 1) := by decide +kernel
theorem dX12_byFrames_13 : decode cX12_byFrames 13 = .ok (.bipush 55, 2) := by decide +kernel
theorem dX12_byFrames_15 : decode cX12_byFrames 15 = .ok (.iload_n 3, 1) := by decide +kernel
theorem dX12_byFrames_16 : decode cX12_byFrames 16 = .ok (.imul, 1) := by decide +kernel
theorem dX12_byFrames_17 : decode cX12_byFrames 17 = .ok (.bipush 11, 2) := by decide +kernel
theorem dX12_byFrames_19 : decode cX12_byFrames 19 = .ok (.iload_n 2, 1) := by decide +kernel
theorem dX12_byFrames_20 : decode cX12_byFrames 20 = .ok (.imul, 1) := by decide +kernel
theorem dX12_byFrames_21 : decode cX12_byFrames 21 = .ok (.iadd, 1) := by decide +kernel
theorem dX12_byFrames_22 : decode cX12_byFrames 22 = .ok (.istore 4, 2) := by decide +kernel
theorem dX12_byFrames_24 : decode cX12_byFrames 24 = .ok (.aload_n 0, 1) := by decide +kernel
theorem dX12_byFrames_25 : decode cX12_byFrames 25 = .ok (.getfield 416, 3) := by decide +kernel
theorem dX12_byFrames_28 : decode cX12_byFrames 28 = .ok (.aload_n 0, 1) := by decide +kernel
theorem dX12_byFrames_29 : decode cX12_byFrames 29 = .ok (.getfield 154, 3) := by decide +kernel
theorem dX12_byFrames_32 : decode cX12_byFrames 32 = .ok (.iload_n 1, 1) := by decide +kernel
theorem dX12_byFrames_33 : decode cX12_byFrames 33 = .ok (.iaload, 1) := by decide +kernel
theorem dX12_byFrames_34 : decode cX12_byFrames 34 = .ok (.isub, 1) := by decide +kernel
theorem dX12_byFrames_35 : decode cX12_byFrames 35 = .ok (.istore 5, 2) := by decide +kernel
theorem dX12_byFrames_37 : decode cX12_byFrames 37 = .ok (.iload 5, 2) := by decide +kernel
theorem dX12_byFrames_39 : decode cX12_byFrames 39 = .ok (.aload_n 0, 1) := by decide +kernel
theorem dX12_byFrames_40 : decode cX12_byFrames 40 = .ok (.getfield 157, 3) := by decide +kernel
theorem dX12_byFrames_43 : decode cX12_byFrames 43 = .ok (.iload_n 3, 1) := by decide +kernel
theorem dX12_byFrames_44 : decode cX12_byFrames 44 = .ok (.iaload, 1) := by decide +kernel
theorem dX12_byFrames_45 : decode cX12_byFrames 45 = .ok (.irem, 1) := by decide +kernel
theorem dX12_byFrames_46 : decode cX12_byFrames 46 = .ok (.istore 6, 2) := by decide +kernel
theorem dX12_byFrames_48 : decode cX12_byFrames 48 = .ok (.aload_n 0, 1) := by decide +kernel
theorem dX12_byFrames_49 : decode cX12_byFrames 49 = .ok (.getfield 163, 3) := by decide +kernel
theorem dX12_byFrames_52 : decode cX12_byFrames 52 = .ok (.iload_n 3, 1) := by decide +kernel
theorem dX12_byFrames_53 : decode cX12_byFrames 53 = .ok (.iaload, 1) := by decide +kernel
theorem dX12_byFrames_54 : decode cX12_byFrames 54 = .ok (.iconst 1, 1) := by decide +kernel
theorem dX12_byFrames_55 : decode cX12_byFrames 55 = .ok (.if_icmp .ne 30, 3) := by decide +kernel
theorem dX12_byFrames_58 : decode cX12_byFrames 58 = .ok (.iload 5, 2) := by decide +kernel
theorem dX12_byFrames_60 : decode cX12_byFrames 60 = .ok (.aload_n 0, 1) := by decide +kernel
theorem dX12_byFrames_61 : decode cX12_byFrames 61 = .ok (.getfield 157, 3) := by decide +kernel
theorem dX12_byFrames_64 : decode cX12_byFrames 64 = .ok (.iload_n 3, 1) := by decide +kernel
theorem dX12_byFrames_65 : decode cX12_byFrames 65 = .ok (.iaload, 1) := by decide +kernel
theorem dX12_byFrames_66 : decode cX12_byFrames 66 = .ok (.idiv, 1) := by decide +kernel
theorem dX12_byFrames_67 : decode cX12_byFrames 67 = .ok (.iconst 2, 1) := by decide +kernel
theorem dX12_byFrames_68 : decode cX12_byFrames 68 = .ok (.irem, 1) := by decide +kernel
theorem dX12_byFrames_69 : decode cX12_byFrames 69 = .ok (.iconst 1, 1) := by decide +kernel
theorem dX12_byFrames_70 : decode cX12_byFrames 70 = .ok (.if_icmp .ne 15, 3) := by decide +kernel
theorem dX12_byFrames_73 : decode cX12_byFrames 73 = .ok (.aload_n 0, 1) := by decide +kernel
theorem dX12_byFrames_74 : decode cX12_byFrames 74 = .ok (.getfield 157, 3) := by decide +kernel
theorem dX12_byFrames_77 : decode cX12_byFrames 77 = .ok (.iload_n 3, 1) := by decide +kernel
theorem dX12_byFrames_78 : decode cX12_byFrames 78 = .ok (.iaload, 1) := by decide +kernel
theorem dX12_byFrames_79 : decode cX12_byFrames 79 = .ok (.iload 6, 2) := by decide +kernel
theorem dX12_byFrames_81 : decode cX12_byFrames 81 = .ok (.isub, 1) := by decide +kernel
theorem dX12_byFrames_82 : decode cX12_byFrames 82 = .ok (.goto 5, 3) := by decide +kernel
theorem dX12_byFrames_85 : decode cX12_byFrames 85 = .ok (.iload 6, 2) := by decide +kernel
theorem dX12_byFrames_87 : decode cX12_byFrames 87 = .ok (.istore 6, 2) := by decide +kernel
theorem dX12_byFrames_89 : decode cX12_byFrames 89 = .ok (.iconst (-1), 1) := by decide +kernel
theorem dX12_byFrames_90 : decode cX12_byFrames 90 = .ok (.istore 7, 2) := by decide +kernel
theorem dX12_byFrames_92 : decode cX12_byFrames 92 = .ok (.iconst (-1), 1) := by decide +kernel
theorem dX12_byFrames_93 : decode cX12_byFrames 93 = .ok (.istore 8, 2) := by decide +kernel
theorem dX12_byFrames_95 : decode cX12_byFrames 95 = .ok (.iconst 0, 1) := by decide +kernel
theorem dX12_byFrames_96 : decode cX12_byFrames 96 = .ok (.istore 9, 2) := by decide +kernel
theorem dX12_byFrames_98 : decode cX12_byFrames 98 = .ok (.iload 9, 2) := by decide +kernel
theorem dX12_byFrames_100 : decode cX12_byFrames 100 = .ok (.bipush 11, 2) := by decide +kernel
theorem dX12_byFrames_102 : decode cX12_byFrames 102 = .ok (.if_icmp .ge 97, 3) := by decide +kernel
theorem dX12_byFrames_105 : decode cX12_byFrames 105 = .ok (.aload_n 0, 1) := by decide +kernel
theorem dX12_byFrames_106 : decode cX12_byFrames 106 = .ok (.getfield 166, 3) := by decide +kernel
theorem dX12_byFrames_109 : decode cX12_byFrames 109 = .ok (.iload 4, 2) := by decide +kernel
theorem dX12_byFrames_111 : decode cX12_byFrames 111 = .ok (.iload 9, 2) := by decide +kernel
theorem dX12_byFrames_113 : decode cX12_byFrames 113 = .ok (.iadd, 1) := by decide +kernel
theorem dX12_byFrames_114 : decode cX12_byFrames 114 = .ok (.iaload, 1) := by decide +kernel
theorem dX12_byFrames_115 : decode cX12_byFrames 115 = .ok (.iconst 1, 1) := by decide +kernel
theorem dX12_byFrames_116 : decode cX12_byFrames 116 = .ok (.if_icmp .ne 7, 3) := by decide +kernel
theorem dX12_byFrames_119 : decode cX12_byFrames 119 = .ok (.iconst 1, 1) := by decide +kernel
theorem dX12_byFrames_120 : decode cX12_byFrames 120 = .ok (.goto 4, 3) := by decide +kernel
theorem dX12_byFrames_123 : decode cX12_byFrames 123 = .ok (.iconst 0, 1) := by decide +kernel
theorem dX12_byFrames_124 : decode cX12_byFrames 124 = .ok (.istore 10, 2) := by decide +kernel
theorem dX12_byFrames_126 : decode cX12_byFrames 126 = .ok (.iload 10, 2) := by decide +kernel
theorem dX12_byFrames_128 : decode cX12_byFrames 128 = .ok (.ifCond .eq 25, 3) := by decide +kernel
theorem dX12_byFrames_131 : decode cX12_byFrames 131 = .ok (.iload 9, 2) := by decide +kernel
theorem dX12_byFrames_133 : decode cX12_byFrames 133 = .ok (.aload_n 0, 1) := by decide +kernel
theorem dX12_byFrames_134 : decode cX12_byFrames 134 = .ok (.getfield 157, 3) := by decide +kernel
theorem dX12_byFrames_137 : decode cX12_byFrames 137 = .ok (.iload_n 3, 1) := by decide +kernel
theorem dX12_byFrames_138 : decode cX12_byFrames 138 = .ok (.iaload, 1) := by decide +kernel
theorem dX12_byFrames_139 : decode cX12_byFrames 139 = .ok (.imul, 1) := by decide +kernel
theorem dX12_byFrames_140 : decode cX12_byFrames 140 = .ok (.bipush 10, 2) := by decide +kernel
theorem dX12_byFrames_142 : decode cX12_byFrames 142 = .ok (.iload 6, 2) := by decide +kernel
theorem dX12_byFrames_144 : decode cX12_byFrames 144 = .ok (.imul, 1) := by decide +kernel
theorem dX12_byFrames_145 : decode cX12_byFrames 145 = .ok (.if_icmp .gt 8, 3) := by decide +kernel
theorem dX12_byFrames_148 : decode cX12_byFrames 148 = .ok (.iload 9, 2) := by decide +kernel
theorem dX12_byFrames_150 : decode cX12_byFrames 150 = .ok (.goto 5, 3) := by decide +kernel
theorem dX12_byFrames_153 : decode cX12_byFrames 153 = .ok (.iload 7, 2) := by decide +kernel
theorem dX12_byFrames_155 : decode cX12_byFrames 155 = .ok (.istore 7, 2) := by decide +kernel
theorem dX12_byFrames_157 : decode cX12_byFrames 157 = .ok (.iload 10, 2) := by decide +kernel
theorem dX12_byFrames_159 : decode cX12_byFrames 159 = .ok (.ifCond .eq 30, 3) := by decide +kernel
theorem dX12_byFrames_162 : decode cX12_byFrames 162 = .ok (.iload 9, 2) := by decide +kernel
theorem dX12_byFrames_164 : decode cX12_byFrames 164 = .ok (.aload_n 0, 1) := by decide +kernel
theorem dX12_byFrames_165 : decode cX12_byFrames 165 = .ok (.getfield 157, 3) := by decide +kernel
theorem dX12_byFrames_168 : decode cX12_byFrames 168 = .ok (.iload_n 3, 1) := by decide +kernel
theorem dX12_byFrames_169 : decode cX12_byFrames 169 = .ok (.iaload, 1) := by decide +kernel
theorem dX12_byFrames_170 : decode cX12_byFrames 170 = .ok (.imul, 1) := by decide +kernel
theorem dX12_byFrames_171 : decode cX12_byFrames 171 = .ok (.bipush 10, 2) := by decide +kernel
theorem dX12_byFrames_173 : decode cX12_byFrames 173 = .ok (.iload 6, 2) := by decide +kernel
theorem dX12_byFrames_175 : decode cX12_byFrames 175 = .ok (.imul, 1) := by decide +kernel
theorem dX12_byFrames_176 : decode cX12_byFrames 176 = .ok (.if_icmp .le 13, 3) := by decide +kernel
theorem dX12_byFrames_179 : decode cX12_byFrames 179 = .ok (.iload 8, 2) := by decide +kernel
theorem dX12_byFrames_181 : decode cX12_byFrames 181 = .ok (.ifCond .ge 8, 3) := by decide +kernel
theorem dX12_byFrames_184 : decode cX12_byFrames 184 = .ok (.iload 9, 2) := by decide +kernel
theorem dX12_byFrames_186 : decode cX12_byFrames 186 = .ok (.goto 5, 3) := by decide +kernel
theorem dX12_byFrames_189 : decode cX12_byFrames 189 = .ok (.iload 8, 2) := by decide +kernel
theorem dX12_byFrames_191 : decode cX12_byFrames 191 = .ok (.istore 8, 2) := by decide +kernel
theorem dX12_byFrames_193 : decode cX12_byFrames 193 = .ok (.iinc 9 1, 3) := by decide +kernel
theorem dX12_byFrames_196 : decode cX12_byFrames 196 = .ok (.goto (-98), 3) := by decide +kernel
theorem dX12_byFrames_199 : decode cX12_byFrames 199 = .ok (.aload_n 0, 1) := by decide +kernel
theorem dX12_byFrames_200 : decode cX12_byFrames 200 = .ok (.getfield 127, 3) := by decide +kernel
theorem dX12_byFrames_203 : decode cX12_byFrames 203 = .ok (.bipush 12, 2) := by decide +kernel
theorem dX12_byFrames_205 : decode cX12_byFrames 205 = .ok (.iload_n 1, 1) := by decide +kernel
theorem dX12_byFrames_206 : decode cX12_byFrames 206 = .ok (.imul, 1) := by decide +kernel
theorem dX12_byFrames_207 : decode cX12_byFrames 207 = .ok (.iload_n 2, 1) := by decide +kernel
theorem dX12_byFrames_208 : decode cX12_byFrames 208 = .ok (.iadd, 1) := by decide +kernel
theorem dX12_byFrames_209 : decode cX12_byFrames 209 = .ok (.iaload, 1) := by decide +kernel
theorem dX12_byFrames_210 : decode cX12_byFrames 210 = .ok (.ldc_w 370, 3) := by decide +kernel
theorem dX12_byFrames_213 : decode cX12_byFrames 213 = .ok (.if_icmp .ne 7, 3) := by decide +kernel
theorem dX12_byFrames_216 : decode cX12_byFrames 216 = .ok (.iconst 0, 1) := by decide +kernel
theorem dX12_byFrames_217 : decode cX12_byFrames 217 = .ok (.goto 14, 3) := by decide +kernel
theorem dX12_byFrames_220 : decode cX12_byFrames 220 = .ok (.aload_n 0, 1) := by decide +kernel
theorem dX12_byFrames_221 : decode cX12_byFrames 221 = .ok (.getfield 127, 3) := by decide +kernel
theorem dX12_byFrames_224 : decode cX12_byFrames 224 = .ok (.bipush 12, 2) := by decide +kernel
theorem dX12_byFrames_226 : decode cX12_byFrames 226 = .ok (.iload_n 1, 1) := by decide +kernel
theorem dX12_byFrames_227 : decode cX12_byFrames 227 = .ok (.imul, 1) := by decide +kernel
theorem dX12_byFrames_228 : decode cX12_byFrames 228 = .ok (.iload_n 2, 1) := by decide +kernel
theorem dX12_byFrames_229 : decode cX12_byFrames 229 = .ok (.iadd, 1) := by decide +kernel
theorem dX12_byFrames_230 : decode cX12_byFrames 230 = .ok (.iaload, 1) := by decide +kernel
theorem dX12_byFrames_231 : decode cX12_byFrames 231 = .ok (.istore 9, 2) := by decide +kernel
theorem dX12_byFrames_233 : decode cX12_byFrames 233 = .ok (.iload 7, 2) := by decide +kernel
theorem dX12_byFrames_235 : decode cX12_byFrames 235 = .ok (.ifCond .ge 9, 3) := by decide +kernel
theorem dX12_byFrames_238 : decode cX12_byFrames 238 = .ok (.iload 9, 2) := by decide +kernel
theorem dX12_byFrames_240 : decode cX12_byFrames 240 = .ok (.i2l, 1) := by decide +kernel
theorem dX12_byFrames_241 : decode cX12_byFrames 241 = .ok (.goto 14, 3) := by decide +kernel
theorem dX12_byFrames_244 : decode cX12_byFrames 244 = .ok (.aload_n 0, 1) := by decide +kernel
theorem dX12_byFrames_245 : decode cX12_byFrames 245 = .ok (.getfield 169, 3) := by decide +kernel
theorem dX12_byFrames_248 : decode cX12_byFrames 248 = .ok (.iload 4, 2) := by decide +kernel
theorem dX12_byFrames_250 : decode cX12_byFrames 250 = .ok (.iload 7, 2) := by decide +kernel
theorem dX12_byFrames_252 : decode cX12_byFrames 252 = .ok (.iadd, 1) := by decide +kernel
theorem dX12_byFrames_253 : decode cX12_byFrames 253 = .ok (.iaload, 1) := by decide +kernel
theorem dX12_byFrames_254 : decode cX12_byFrames 254 = .ok (.i2l, 1) := by decide +kernel
theorem dX12_byFrames_255 : decode cX12_byFrames 255 = .ok (.lstore 10, 2) := by decide +kernel
theorem dX12_byFrames_257 : decode cX12_byFrames 257 = .ok (.iload 8, 2) := by decide +kernel
theorem dX12_byFrames_259 : decode cX12_byFrames 259 = .ok (.ifCond .ge 9, 3) := by decide +kernel
theorem dX12_byFrames_262 : decode cX12_byFrames 262 = .ok (.iload 9, 2) := by decide +kernel
theorem dX12_byFrames_264 : decode cX12_byFrames 264 = .ok (.i2l, 1) := by decide +kernel
theorem dX12_byFrames_265 : decode cX12_byFrames 265 = .ok (.goto 14, 3) := by decide +kernel
theorem dX12_byFrames_268 : decode cX12_byFrames 268 = .ok (.aload_n 0, 1) := by decide +kernel
theorem dX12_byFrames_269 : decode cX12_byFrames 269 = .ok (.getfield 169, 3) := by decide +kernel
theorem dX12_byFrames_272 : decode cX12_byFrames 272 = .ok (.iload 4, 2) := by decide +kernel
theorem dX12_byFrames_274 : decode cX12_byFrames 274 = .ok (.iload 8, 2) := by decide +kernel
theorem dX12_byFrames_276 : decode cX12_byFrames 276 = .ok (.iadd, 1) := by decide +kernel
theorem dX12_byFrames_277 : decode cX12_byFrames 277 = .ok (.iaload, 1) := by decide +kernel
theorem dX12_byFrames_278 : decode cX12_byFrames 278 = .ok (.i2l, 1) := by decide +kernel
theorem dX12_byFrames_279 : decode cX12_byFrames 279 = .ok (.lstore 12, 2) := by decide +kernel
theorem dX12_byFrames_281 : decode cX12_byFrames 281 = .ok (.iload 7, 2) := by decide +kernel
theorem dX12_byFrames_283 : decode cX12_byFrames 283 = .ok (.ifCond .ge 7, 3) := by decide +kernel
theorem dX12_byFrames_286 : decode cX12_byFrames 286 = .ok (.iconst 0, 1) := by decide +kernel
theorem dX12_byFrames_287 : decode cX12_byFrames 287 = .ok (.goto 5, 3) := by decide +kernel
theorem dX12_byFrames_290 : decode cX12_byFrames 290 = .ok (.iload 7, 2) := by decide +kernel
theorem dX12_byFrames_292 : decode cX12_byFrames 292 = .ok (.istore 14, 2) := by decide +kernel
theorem dX12_byFrames_294 : decode cX12_byFrames 294 = .ok (.iload 8, 2) := by decide +kernel
theorem dX12_byFrames_296 : decode cX12_byFrames 296 = .ok (.ifCond .ge 8, 3) := by decide +kernel
theorem dX12_byFrames_299 : decode cX12_byFrames 299 = .ok (.bipush 10, 2) := by decide +kernel
theorem dX12_byFrames_301 : decode cX12_byFrames 301 = .ok (.goto 5, 3) := by decide +kernel
theorem dX12_byFrames_304 : decode cX12_byFrames 304 = .ok (.iload 8, 2) := by decide +kernel
theorem dX12_byFrames_306 : decode cX12_byFrames 306 = .ok (.istore 15, 2) := by decide +kernel
theorem dX12_byFrames_308 : decode cX12_byFrames 308 = .ok (.iload 14, 2) := by decide +kernel
theorem dX12_byFrames_310 : decode cX12_byFrames 310 = .ok (.iload 15, 2) := by decide +kernel
theorem dX12_byFrames_312 : decode cX12_byFrames 312 = .ok (.if_icmp .ne 9, 3) := by decide +kernel
theorem dX12_byFrames_315 : decode cX12_byFrames 315 = .ok (.lload 10, 2) := by decide +kernel
theorem dX12_byFrames_317 : decode cX12_byFrames 317 = .ok (.l2i, 1) := by decide +kernel
theorem dX12_byFrames_318 : decode cX12_byFrames 318 = .ok (.goto 44, 3) := by decide +kernel
theorem dX12_byFrames_321 : decode cX12_byFrames 321 = .ok (.lload 10, 2) := by decide +kernel
theorem dX12_byFrames_323 : decode cX12_byFrames 323 = .ok (.lload 12, 2) := by decide +kernel
theorem dX12_byFrames_325 : decode cX12_byFrames 325 = .ok (.lload 10, 2) := by decide +kernel
theorem dX12_byFrames_327 : decode cX12_byFrames 327 = .ok (.lsub, 1) := by decide +kernel
theorem dX12_byFrames_328 : decode cX12_byFrames 328 = .ok (.bipush 10, 2) := by decide +kernel
theorem dX12_byFrames_330 : decode cX12_byFrames 330 = .ok (.iload 6, 2) := by decide +kernel
theorem dX12_byFrames_332 : decode cX12_byFrames 332 = .ok (.imul, 1) := by decide +kernel
theorem dX12_byFrames_333 : decode cX12_byFrames 333 = .ok (.iload 14, 2) := by decide +kernel
theorem dX12_byFrames_335 : decode cX12_byFrames 335 = .ok (.aload_n 0, 1) := by decide +kernel
theorem dX12_byFrames_336 : decode cX12_byFrames 336 = .ok (.getfield 157, 3) := by decide +kernel
theorem dX12_byFrames_339 : decode cX12_byFrames 339 = .ok (.iload_n 3, 1) := by decide +kernel
theorem dX12_byFrames_340 : decode cX12_byFrames 340 = .ok (.iaload, 1) := by decide +kernel
theorem dX12_byFrames_341 : decode cX12_byFrames 341 = .ok (.imul, 1) := by decide +kernel
theorem dX12_byFrames_342 : decode cX12_byFrames 342 = .ok (.isub, 1) := by decide +kernel
theorem dX12_byFrames_343 : decode cX12_byFrames 343 = .ok (.i2l, 1) := by decide +kernel
theorem dX12_byFrames_344 : decode cX12_byFrames 344 = .ok (.lmul, 1) := by decide +kernel
theorem dX12_byFrames_345 : decode cX12_byFrames 345 = .ok (.aload_n 0, 1) := by decide +kernel
theorem dX12_byFrames_346 : decode cX12_byFrames 346 = .ok (.getfield 157, 3) := by decide +kernel
theorem dX12_byFrames_349 : decode cX12_byFrames 349 = .ok (.iload_n 3, 1) := by decide +kernel
theorem dX12_byFrames_350 : decode cX12_byFrames 350 = .ok (.iaload, 1) := by decide +kernel
theorem dX12_byFrames_351 : decode cX12_byFrames 351 = .ok (.i2l, 1) := by decide +kernel
theorem dX12_byFrames_352 : decode cX12_byFrames 352 = .ok (.iload 15, 2) := by decide +kernel
theorem dX12_byFrames_354 : decode cX12_byFrames 354 = .ok (.iload 14, 2) := by decide +kernel
theorem dX12_byFrames_356 : decode cX12_byFrames 356 = .ok (.isub, 1) := by decide +kernel
theorem dX12_byFrames_357 : decode cX12_byFrames 357 = .ok (.i2l, 1) := by decide +kernel
theorem dX12_byFrames_358 : decode cX12_byFrames 358 = .ok (.lmul, 1) := by decide +kernel
theorem dX12_byFrames_359 : decode cX12_byFrames 359 = .ok (.ldiv, 1) := by decide +kernel
theorem dX12_byFrames_360 : decode cX12_byFrames 360 = .ok (.ladd, 1) := by decide +kernel
theorem dX12_byFrames_361 : decode cX12_byFrames 361 = .ok (.l2i, 1) := by decide +kernel
theorem dX12_byFrames_362 : decode cX12_byFrames 362 = .ok (.ireturn, 1) := by decide +kernel
theorem dX12_plays_0 : decode cX12_plays 0 = .ok (.aload_n 0, 1) := by decide +kernel
theorem dX12_plays_1 : decode cX12_plays 1 = .ok (.getfield 127, 3) := by decide +kernel
theorem dX12_plays_4 : decode cX12_plays 4 = .ok (.bipush 12, 2) := by decide +kernel
theorem dX12_plays_6 : decode cX12_plays 6 = .ok (.iload_n 1, 1) := by decide +kernel
theorem dX12_plays_7 : decode cX12_plays 7 = .ok (.imul, 1) := by decide +kernel
theorem dX12_plays_8 : decode cX12_plays 8 = .ok (.bipush 11, 2) := by decide +kernel
theorem dX12_plays_10 : decode cX12_plays 10 = .ok (.iadd, 1) := by decide +kernel
theorem dX12_plays_11 : decode cX12_plays 11 = .ok (.iaload, 1) := by decide +kernel
theorem dX12_plays_12 : decode cX12_plays 12 = .ok (.istore_n 3, 1) := by decide +kernel
theorem dX12_plays_13 : decode cX12_plays 13 = .ok (.iconst 0, 1) := by decide +kernel
theorem dX12_plays_14 : decode cX12_plays 14 = .ok (.istore 4, 2) := by decide +kernel
theorem dX12_plays_16 : decode cX12_plays 16 = .ok (.iconst 0, 1) := by decide +kernel
theorem dX12_plays_17 : decode cX12_plays 17 = .ok (.istore 5, 2) := by decide +kernel
theorem dX12_plays_19 : decode cX12_plays 19 = .ok (.iload 5, 2) := by decide +kernel
theorem dX12_plays_21 : decode cX12_plays 21 = .ok (.bipush 11, 2) := by decide +kernel
theorem dX12_plays_23 : decode cX12_plays 23 = .ok (.if_icmp .ge 50, 3) := by decide +kernel
theorem dX12_plays_26 : decode cX12_plays 26 = .ok (.aload_n 0, 1) := by decide +kernel
theorem dX12_plays_27 : decode cX12_plays 27 = .ok (.iload_n 3, 1) := by decide +kernel
theorem dX12_plays_28 : decode cX12_plays 28 = .ok (.iconst 0, 1) := by decide +kernel
theorem dX12_plays_29 : decode cX12_plays 29 = .ok (.iconst 3, 1) := by decide +kernel
theorem dX12_plays_30 : decode cX12_plays 30 = .ok (.invokevirtual 230, 3) := by decide +kernel
theorem dX12_plays_33 : decode cX12_plays 33 = .ok (.ifCond .eq 40, 3) := by decide +kernel
theorem dX12_plays_36 : decode cX12_plays 36 = .ok (.iload 4, 2) := by decide +kernel
theorem dX12_plays_38 : decode cX12_plays 38 = .ok (.aload_n 0, 1) := by decide +kernel
theorem dX12_plays_39 : decode cX12_plays 39 = .ok (.getfield 166, 3) := by decide +kernel
theorem dX12_plays_42 : decode cX12_plays 42 = .ok (.bipush 55, 2) := by decide +kernel
theorem dX12_plays_44 : decode cX12_plays 44 = .ok (.iload_n 3, 1) := by decide +kernel
theorem dX12_plays_45 : decode cX12_plays 45 = .ok (.imul, 1) := by decide +kernel
theorem dX12_plays_46 : decode cX12_plays 46 = .ok (.bipush 11, 2) := by decide +kernel
theorem dX12_plays_48 : decode cX12_plays 48 = .ok (.iload_n 2, 1) := by decide +kernel
theorem dX12_plays_49 : decode cX12_plays 49 = .ok (.imul, 1) := by decide +kernel
theorem dX12_plays_50 : decode cX12_plays 50 = .ok (.iadd, 1) := by decide +kernel
theorem dX12_plays_51 : decode cX12_plays 51 = .ok (.iload 5, 2) := by decide +kernel
theorem dX12_plays_53 : decode cX12_plays 53 = .ok (.iadd, 1) := by decide +kernel
theorem dX12_plays_54 : decode cX12_plays 54 = .ok (.iaload, 1) := by decide +kernel
theorem dX12_plays_55 : decode cX12_plays 55 = .ok (.iconst 1, 1) := by decide +kernel
theorem dX12_plays_56 : decode cX12_plays 56 = .ok (.if_icmp .ne 7, 3) := by decide +kernel
theorem dX12_plays_59 : decode cX12_plays 59 = .ok (.iconst 1, 1) := by decide +kernel
theorem dX12_plays_60 : decode cX12_plays 60 = .ok (.goto 4, 3) := by decide +kernel
theorem dX12_plays_63 : decode cX12_plays 63 = .ok (.iconst 0, 1) := by decide +kernel
theorem dX12_plays_64 : decode cX12_plays 64 = .ok (.ior, 1) := by decide +kernel
theorem dX12_plays_65 : decode cX12_plays 65 = .ok (.istore 4, 2) := by decide +kernel
theorem dX12_plays_67 : decode cX12_plays 67 = .ok (.iinc 5 1, 3) := by decide +kernel
theorem dX12_plays_70 : decode cX12_plays 70 = .ok (.goto (-51), 3) := by decide +kernel
theorem dX12_plays_73 : decode cX12_plays 73 = .ok (.iload 4, 2) := by decide +kernel
theorem dX12_plays_75 : decode cX12_plays 75 = .ok (.ifCond .eq 43, 3) := by decide +kernel
theorem dX12_plays_78 : decode cX12_plays 78 = .ok (.aload_n 0, 1) := by decide +kernel
theorem dX12_plays_79 : decode cX12_plays 79 = .ok (.getfield 154, 3) := by decide +kernel
theorem dX12_plays_82 : decode cX12_plays 82 = .ok (.iload_n 1, 1) := by decide +kernel
theorem dX12_plays_83 : decode cX12_plays 83 = .ok (.iaload, 1) := by decide +kernel
theorem dX12_plays_84 : decode cX12_plays 84 = .ok (.ifCond .lt 34, 3) := by decide +kernel
theorem dX12_plays_87 : decode cX12_plays 87 = .ok (.aload_n 0, 1) := by decide +kernel
theorem dX12_plays_88 : decode cX12_plays 88 = .ok (.getfield 416, 3) := by decide +kernel
theorem dX12_plays_91 : decode cX12_plays 91 = .ok (.aload_n 0, 1) := by decide +kernel
theorem dX12_plays_92 : decode cX12_plays 92 = .ok (.getfield 154, 3) := by decide +kernel
theorem dX12_plays_95 : decode cX12_plays 95 = .ok (.iload_n 1, 1) := by decide +kernel
theorem dX12_plays_96 : decode cX12_plays 96 = .ok (.iaload, 1) := by decide +kernel
theorem dX12_plays_97 : decode cX12_plays 97 = .ok (.isub, 1) := by decide +kernel
theorem dX12_plays_98 : decode cX12_plays 98 = .ok (.aload_n 0, 1) := by decide +kernel
theorem dX12_plays_99 : decode cX12_plays 99 = .ok (.getfield 157, 3) := by decide +kernel
theorem dX12_plays_102 : decode cX12_plays 102 = .ok (.iload_n 3, 1) := by decide +kernel
theorem dX12_plays_103 : decode cX12_plays 103 = .ok (.iaload, 1) := by decide +kernel
theorem dX12_plays_104 : decode cX12_plays 104 = .ok (.aload_n 0, 1) := by decide +kernel
theorem dX12_plays_105 : decode cX12_plays 105 = .ok (.getfield 160, 3) := by decide +kernel
theorem dX12_plays_108 : decode cX12_plays 108 = .ok (.iload_n 3, 1) := by decide +kernel
theorem dX12_plays_109 : decode cX12_plays 109 = .ok (.iaload, 1) := by decide +kernel
theorem dX12_plays_110 : decode cX12_plays 110 = .ok (.imul, 1) := by decide +kernel
theorem dX12_plays_111 : decode cX12_plays 111 = .ok (.if_icmp .ge 7, 3) := by decide +kernel
theorem dX12_plays_114 : decode cX12_plays 114 = .ok (.iconst 1, 1) := by decide +kernel
theorem dX12_plays_115 : decode cX12_plays 115 = .ok (.goto 4, 3) := by decide +kernel
theorem dX12_plays_118 : decode cX12_plays 118 = .ok (.iconst 0, 1) := by decide +kernel
theorem dX12_plays_119 : decode cX12_plays 119 = .ok (.ireturn, 1) := by decide +kernel
theorem dX12_moves_0 : decode cX12_moves 0 = .ok (.aload_n 0, 1) := by decide +kernel
theorem dX12_moves_1 : decode cX12_moves 1 = .ok (.getfield 142, 3) := by decide +kernel
theorem dX12_moves_4 : decode cX12_moves 4 = .ok (.iconst 5, 1) := by decide +kernel
theorem dX12_moves_5 : decode cX12_moves 5 = .ok (.iload_n 1, 1) := by decide +kernel
theorem dX12_moves_6 : decode cX12_moves 6 = .ok (.imul, 1) := by decide +kernel
theorem dX12_moves_7 : decode cX12_moves 7 = .ok (.iload_n 2, 1) := by decide +kernel
theorem dX12_moves_8 : decode cX12_moves 8 = .ok (.iadd, 1) := by decide +kernel
theorem dX12_moves_9 : decode cX12_moves 9 = .ok (.iaload, 1) := by decide +kernel
theorem dX12_moves_10 : decode cX12_moves 10 = .ok (.ifCond .lt 35, 3) := by decide +kernel
theorem dX12_moves_13 : decode cX12_moves 13 = .ok (.aload_n 0, 1) := by decide +kernel
theorem dX12_moves_14 : decode cX12_moves 14 = .ok (.getfield 416, 3) := by decide +kernel
theorem dX12_moves_17 : decode cX12_moves 17 = .ok (.aload_n 0, 1) := by decide +kernel
theorem dX12_moves_18 : decode cX12_moves 18 = .ok (.getfield 142, 3) := by decide +kernel
theorem dX12_moves_21 : decode cX12_moves 21 = .ok (.iconst 5, 1) := by decide +kernel
theorem dX12_moves_22 : decode cX12_moves 22 = .ok (.iload_n 1, 1) := by decide +kernel
theorem dX12_moves_23 : decode cX12_moves 23 = .ok (.imul, 1) := by decide +kernel
theorem dX12_moves_24 : decode cX12_moves 24 = .ok (.iload_n 2, 1) := by decide +kernel
theorem dX12_moves_25 : decode cX12_moves 25 = .ok (.iadd, 1) := by decide +kernel
theorem dX12_moves_26 : decode cX12_moves 26 = .ok (.iaload, 1) := by decide +kernel
theorem dX12_moves_27 : decode cX12_moves 27 = .ok (.isub, 1) := by decide +kernel
theorem dX12_moves_28 : decode cX12_moves 28 = .ok (.aload_n 0, 1) := by decide +kernel
theorem dX12_moves_29 : decode cX12_moves 29 = .ok (.getfield 145, 3) := by decide +kernel
theorem dX12_moves_32 : decode cX12_moves 32 = .ok (.iconst 5, 1) := by decide +kernel
theorem dX12_moves_33 : decode cX12_moves 33 = .ok (.iload_n 1, 1) := by decide +kernel
theorem dX12_moves_34 : decode cX12_moves 34 = .ok (.imul, 1) := by decide +kernel
theorem dX12_moves_35 : decode cX12_moves 35 = .ok (.iload_n 2, 1) := by decide +kernel
theorem dX12_moves_36 : decode cX12_moves 36 = .ok (.iadd, 1) := by decide +kernel
theorem dX12_moves_37 : decode cX12_moves 37 = .ok (.iaload, 1) := by decide +kernel
theorem dX12_moves_38 : decode cX12_moves 38 = .ok (.if_icmp .ge 7, 3) := by decide +kernel
theorem dX12_moves_41 : decode cX12_moves 41 = .ok (.iconst 1, 1) := by decide +kernel
theorem dX12_moves_42 : decode cX12_moves 42 = .ok (.goto 4, 3) := by decide +kernel
theorem dX12_moves_45 : decode cX12_moves 45 = .ok (.iconst 0, 1) := by decide +kernel
theorem dX12_moves_46 : decode cX12_moves 46 = .ok (.ireturn, 1) := by decide +kernel
theorem dX12_seenOf_0 : decode cX12_seenOf 0 = .ok (.iconst 5, 1) := by decide +kernel
theorem dX12_seenOf_1 : decode cX12_seenOf 1 = .ok (.iload_n 1, 1) := by decide +kernel
theorem dX12_seenOf_2 : decode cX12_seenOf 2 = .ok (.imul, 1) := by decide +kernel
theorem dX12_seenOf_3 : decode cX12_seenOf 3 = .ok (.iload_n 2, 1) := by decide +kernel
theorem dX12_seenOf_4 : decode cX12_seenOf 4 = .ok (.iadd, 1) := by decide +kernel
theorem dX12_seenOf_5 : decode cX12_seenOf 5 = .ok (.istore_n 3, 1) := by decide +kernel
theorem dX12_seenOf_6 : decode cX12_seenOf 6 = .ok (.aload_n 0, 1) := by decide +kernel
theorem dX12_seenOf_7 : decode cX12_seenOf 7 = .ok (.iload_n 1, 1) := by decide +kernel
theorem dX12_seenOf_8 : decode cX12_seenOf 8 = .ok (.iload_n 2, 1) := by decide +kernel
theorem dX12_seenOf_9 : decode cX12_seenOf 9 = .ok (.invokevirtual 419, 3) := by decide +kernel
theorem dX12_seenOf_12 : decode cX12_seenOf 12 = .ok (.ifCond .eq 52, 3) := by decide +kernel
theorem dX12_seenOf_15 : decode cX12_seenOf 15 = .ok (.aload_n 0, 1) := by decide +kernel
theorem dX12_seenOf_16 : decode cX12_seenOf 16 = .ok (.getfield 151, 3) := by decide +kernel
theorem dX12_seenOf_19 : decode cX12_seenOf 19 = .ok (.iload_n 3, 1) := by decide +kernel
theorem dX12_seenOf_20 : decode cX12_seenOf 20 = .ok (.iaload, 1) := by decide +kernel
theorem dX12_seenOf_21 : decode cX12_seenOf 21 = .ok (.aload_n 0, 1) := by decide +kernel
theorem dX12_seenOf_22 : decode cX12_seenOf 22 = .ok (.getfield 148, 3) := by decide +kernel
theorem dX12_seenOf_25 : decode cX12_seenOf 25 = .ok (.iload_n 3, 1) := by decide +kernel
theorem dX12_seenOf_26 : decode cX12_seenOf 26 = .ok (.iaload, 1) := by decide +kernel
theorem dX12_seenOf_27 : decode cX12_seenOf 27 = .ok (.isub, 1) := by decide +kernel
theorem dX12_seenOf_28 : decode cX12_seenOf 28 = .ok (.i2l, 1) := by decide +kernel
theorem dX12_seenOf_29 : decode cX12_seenOf 29 = .ok (.lstore 4, 2) := by decide +kernel
theorem dX12_seenOf_31 : decode cX12_seenOf 31 = .ok (.aload_n 0, 1) := by decide +kernel
theorem dX12_seenOf_32 : decode cX12_seenOf 32 = .ok (.getfield 148, 3) := by decide +kernel
theorem dX12_seenOf_35 : decode cX12_seenOf 35 = .ok (.iload_n 3, 1) := by decide +kernel
theorem dX12_seenOf_36 : decode cX12_seenOf 36 = .ok (.iaload, 1) := by decide +kernel
theorem dX12_seenOf_37 : decode cX12_seenOf 37 = .ok (.i2l, 1) := by decide +kernel
theorem dX12_seenOf_38 : decode cX12_seenOf 38 = .ok (.lload 4, 2) := by decide +kernel
theorem dX12_seenOf_40 : decode cX12_seenOf 40 = .ok (.aload_n 0, 1) := by decide +kernel
theorem dX12_seenOf_41 : decode cX12_seenOf 41 = .ok (.getfield 416, 3) := by decide +kernel
theorem dX12_seenOf_44 : decode cX12_seenOf 44 = .ok (.aload_n 0, 1) := by decide +kernel
theorem dX12_seenOf_45 : decode cX12_seenOf 45 = .ok (.getfield 142, 3) := by decide +kernel
theorem dX12_seenOf_48 : decode cX12_seenOf 48 = .ok (.iload_n 3, 1) := by decide +kernel
theorem dX12_seenOf_49 : decode cX12_seenOf 49 = .ok (.iaload, 1) := by decide +kernel
theorem dX12_seenOf_50 : decode cX12_seenOf 50 = .ok (.isub, 1) := by decide +kernel
theorem dX12_seenOf_51 : decode cX12_seenOf 51 = .ok (.i2l, 1) := by decide +kernel
theorem dX12_seenOf_52 : decode cX12_seenOf 52 = .ok (.lmul, 1) := by decide +kernel
theorem dX12_seenOf_53 : decode cX12_seenOf 53 = .ok (.aload_n 0, 1) := by decide +kernel
theorem dX12_seenOf_54 : decode cX12_seenOf 54 = .ok (.getfield 145, 3) := by decide +kernel
theorem dX12_seenOf_57 : decode cX12_seenOf 57 = .ok (.iload_n 3, 1) := by decide +kernel
theorem dX12_seenOf_58 : decode cX12_seenOf 58 = .ok (.iaload, 1) := by decide +kernel
theorem dX12_seenOf_59 : decode cX12_seenOf 59 = .ok (.i2l, 1) := by decide +kernel
theorem dX12_seenOf_60 : decode cX12_seenOf 60 = .ok (.ldiv, 1) := by decide +kernel
theorem dX12_seenOf_61 : decode cX12_seenOf 61 = .ok (.ladd, 1) := by decide +kernel
theorem dX12_seenOf_62 : decode cX12_seenOf 62 = .ok (.l2i, 1) := by decide +kernel
theorem dX12_seenOf_63 : decode cX12_seenOf 63 = .ok (.ireturn, 1) := by decide +kernel
theorem dX12_seenOf_64 : decode cX12_seenOf 64 = .ok (.aload_n 0, 1) := by decide +kernel
theorem dX12_seenOf_65 : decode cX12_seenOf 65 = .ok (.iload_n 1, 1) := by decide +kernel
theorem dX12_seenOf_66 : decode cX12_seenOf 66 = .ok (.iload_n 2, 1) := by decide +kernel
theorem dX12_seenOf_67 : decode cX12_seenOf 67 = .ok (.invokevirtual 422, 3) := by decide +kernel
theorem dX12_seenOf_70 : decode cX12_seenOf 70 = .ok (.ifCond .eq 21, 3) := by decide +kernel
theorem dX12_seenOf_73 : decode cX12_seenOf 73 = .ok (.aload_n 0, 1) := by decide +kernel
theorem dX12_seenOf_74 : decode cX12_seenOf 74 = .ok (.getfield 139, 3) := by decide +kernel
theorem dX12_seenOf_77 : decode cX12_seenOf 77 = .ok (.iload_n 3, 1) := by decide +kernel
theorem dX12_seenOf_78 : decode cX12_seenOf 78 = .ok (.iaload, 1) := by decide +kernel
theorem dX12_seenOf_79 : decode cX12_seenOf 79 = .ok (.ifCond .ne 12, 3) := by decide +kernel
theorem dX12_seenOf_82 : decode cX12_seenOf 82 = .ok (.aload_n 0, 1) := by decide +kernel
theorem dX12_seenOf_83 : decode cX12_seenOf 83 = .ok (.iload_n 1, 1) := by decide +kernel
theorem dX12_seenOf_84 : decode cX12_seenOf 84 = .ok (.iload_n 2, 1) := by decide +kernel
theorem dX12_seenOf_85 : decode cX12_seenOf 85 = .ok (.invokevirtual 425, 3) := by decide +kernel
theorem dX12_seenOf_88 : decode cX12_seenOf 88 = .ok (.goto 14, 3) := by decide +kernel
theorem dX12_seenOf_91 : decode cX12_seenOf 91 = .ok (.aload_n 0, 1) := by decide +kernel
theorem dX12_seenOf_92 : decode cX12_seenOf 92 = .ok (.getfield 127, 3) := by decide +kernel
theorem dX12_seenOf_95 : decode cX12_seenOf 95 = .ok (.bipush 12, 2) := by decide +kernel
theorem dX12_seenOf_97 : decode cX12_seenOf 97 = .ok (.iload_n 1, 1) := by decide +kernel
theorem dX12_seenOf_98 : decode cX12_seenOf 98 = .ok (.imul, 1) := by decide +kernel
theorem dX12_seenOf_99 : decode cX12_seenOf 99 = .ok (.iload_n 2, 1) := by decide +kernel
theorem dX12_seenOf_100 : decode cX12_seenOf 100 = .ok (.iadd, 1) := by decide +kernel
theorem dX12_seenOf_101 : decode cX12_seenOf 101 = .ok (.iaload, 1) := by decide +kernel
theorem dX12_seenOf_102 : decode cX12_seenOf 102 = .ok (.ireturn, 1) := by decide +kernel
theorem dX12_differs_0 : decode cX12_differs 0 = .ok (.iconst 3, 1) := by decide +kernel
theorem dX12_differs_1 : decode cX12_differs 1 = .ok (.iload_n 1, 1) := by decide +kernel
theorem dX12_differs_2 : decode cX12_differs 2 = .ok (.imul, 1) := by decide +kernel
theorem dX12_differs_3 : decode cX12_differs 3 = .ok (.iload_n 2, 1) := by decide +kernel
theorem dX12_differs_4 : decode cX12_differs 4 = .ok (.iadd, 1) := by decide +kernel
theorem dX12_differs_5 : decode cX12_differs 5 = .ok (.bipush 12, 2) := by decide +kernel
theorem dX12_differs_7 : decode cX12_differs 7 = .ok (.isub, 1) := by decide +kernel
theorem dX12_differs_8 : decode cX12_differs 8 = .ok (.istore_n 3, 1) := by decide +kernel
theorem dX12_differs_9 : decode cX12_differs 9 = .ok (.iload_n 2, 1) := by decide +kernel
theorem dX12_differs_10 : decode cX12_differs 10 = .ok (.bipush 12, 2) := by decide +kernel
theorem dX12_differs_12 : decode cX12_differs 12 = .ok (.if_icmp .ge 31, 3) := by decide +kernel
theorem dX12_differs_15 : decode cX12_differs 15 = .ok (.aload_n 0, 1) := by decide +kernel
theorem dX12_differs_16 : decode cX12_differs 16 = .ok (.getfield 127, 3) := by decide +kernel
theorem dX12_differs_19 : decode cX12_differs 19 = .ok (.bipush 12, 2) := by decide +kernel
theorem dX12_differs_21 : decode cX12_differs 21 = .ok (.iload_n 1, 1) := by decide +kernel
theorem dX12_differs_22 : decode cX12_differs 22 = .ok (.imul, 1) := by decide +kernel
theorem dX12_differs_23 : decode cX12_differs 23 = .ok (.iload_n 2, 1) := by decide +kernel
theorem dX12_differs_24 : decode cX12_differs 24 = .ok (.iadd, 1) := by decide +kernel
theorem dX12_differs_25 : decode cX12_differs 25 = .ok (.iaload, 1) := by decide +kernel
theorem dX12_differs_26 : decode cX12_differs 26 = .ok (.aload_n 0, 1) := by decide +kernel
theorem dX12_differs_27 : decode cX12_differs 27 = .ok (.getfield 205, 3) := by decide +kernel
theorem dX12_differs_30 : decode cX12_differs 30 = .ok (.iload_n 2, 1) := by decide +kernel
theorem dX12_differs_31 : decode cX12_differs 31 = .ok (.iaload, 1) := by decide +kernel
theorem dX12_differs_32 : decode cX12_differs 32 = .ok (.if_icmp .eq 7, 3) := by decide +kernel
theorem dX12_differs_35 : decode cX12_differs 35 = .ok (.iconst 1, 1) := by decide +kernel
theorem dX12_differs_36 : decode cX12_differs 36 = .ok (.goto 48, 3) := by decide +kernel
theorem dX12_differs_39 : decode cX12_differs 39 = .ok (.iconst 0, 1) := by decide +kernel
theorem dX12_differs_40 : decode cX12_differs 40 = .ok (.goto 44, 3) := by decide +kernel
theorem dX12_differs_43 : decode cX12_differs 43 = .ok (.aload_n 0, 1) := by decide +kernel
theorem dX12_differs_44 : decode cX12_differs 44 = .ok (.getfield 130, 3) := by decide +kernel
theorem dX12_differs_47 : decode cX12_differs 47 = .ok (.iload_n 3, 1) := by decide +kernel
theorem dX12_differs_48 : decode cX12_differs 48 = .ok (.iaload, 1) := by decide +kernel
theorem dX12_differs_49 : decode cX12_differs 49 = .ok (.aload_n 0, 1) := by decide +kernel
theorem dX12_differs_50 : decode cX12_differs 50 = .ok (.getfield 208, 3) := by decide +kernel
theorem dX12_differs_53 : decode cX12_differs 53 = .ok (.iload_n 2, 1) := by decide +kernel
theorem dX12_differs_54 : decode cX12_differs 54 = .ok (.bipush 12, 2) := by decide +kernel
theorem dX12_differs_56 : decode cX12_differs 56 = .ok (.isub, 1) := by decide +kernel
theorem dX12_differs_57 : decode cX12_differs 57 = .ok (.iaload, 1) := by decide +kernel
theorem dX12_differs_58 : decode cX12_differs 58 = .ok (.if_icmp .ne 21, 3) := by decide +kernel
theorem dX12_differs_61 : decode cX12_differs 61 = .ok (.aload_n 0, 1) := by decide +kernel
theorem dX12_differs_62 : decode cX12_differs 62 = .ok (.getfield 133, 3) := by decide +kernel
theorem dX12_differs_65 : decode cX12_differs 65 = .ok (.iload_n 3, 1) := by decide +kernel
theorem dX12_differs_66 : decode cX12_differs 66 = .ok (.iaload, 1) := by decide +kernel
theorem dX12_differs_67 : decode cX12_differs 67 = .ok (.aload_n 0, 1) := by decide +kernel
theorem dX12_differs_68 : decode cX12_differs 68 = .ok (.getfield 211, 3) := by decide +kernel
theorem dX12_differs_71 : decode cX12_differs 71 = .ok (.iload_n 2, 1) := by decide +kernel
theorem dX12_differs_72 : decode cX12_differs 72 = .ok (.bipush 12, 2) := by decide +kernel
theorem dX12_differs_74 : decode cX12_differs 74 = .ok (.isub, 1) := by decide +kernel
theorem dX12_differs_75 : decode cX12_differs 75 = .ok (.iaload, 1) := by decide +kernel
theorem dX12_differs_76 : decode cX12_differs 76 = .ok (.if_icmp .eq 7, 3) := by decide +kernel
theorem dX12_differs_79 : decode cX12_differs 79 = .ok (.iconst 1, 1) := by decide +kernel
theorem dX12_differs_80 : decode cX12_differs 80 = .ok (.goto 4, 3) := by decide +kernel
theorem dX12_differs_83 : decode cX12_differs 83 = .ok (.iconst 0, 1) := by decide +kernel
theorem dX12_differs_84 : decode cX12_differs 84 = .ok (.ireturn, 1) := by decide +kernel
theorem dX12_transit_0 : decode cX12_transit 0 = .ok (.iconst 5, 1) := by decide +kernel
theorem dX12_transit_1 : decode cX12_transit 1 = .ok (.iload_n 1, 1) := by decide +kernel
theorem dX12_transit_2 : decode cX12_transit 2 = .ok (.imul, 1) := by decide +kernel
theorem dX12_transit_3 : decode cX12_transit 3 = .ok (.iload_n 2, 1) := by decide +kernel
theorem dX12_transit_4 : decode cX12_transit 4 = .ok (.iadd, 1) := by decide +kernel
theorem dX12_transit_5 : decode cX12_transit 5 = .ok (.istore 4, 2) := by decide +kernel
theorem dX12_transit_7 : decode cX12_transit 7 = .ok (.aload_n 0, 1) := by decide +kernel
theorem dX12_transit_8 : decode cX12_transit 8 = .ok (.getfield 127, 3) := by decide +kernel
theorem dX12_transit_11 : decode cX12_transit 11 = .ok (.bipush 12, 2) := by decide +kernel
theorem dX12_transit_13 : decode cX12_transit 13 = .ok (.iload_n 1, 1) := by decide +kernel
theorem dX12_transit_14 : decode cX12_transit 14 = .ok (.imul, 1) := by decide +kernel
theorem dX12_transit_15 : decode cX12_transit 15 = .ok (.iload_n 2, 1) := by decide +kernel
theorem dX12_transit_16 : decode cX12_transit 16 = .ok (.iadd, 1) := by decide +kernel
theorem dX12_transit_17 : decode cX12_transit 17 = .ok (.iaload, 1) := by decide +kernel
theorem dX12_transit_18 : decode cX12_transit 18 = .ok (.istore 5, 2) := by decide +kernel
theorem dX12_transit_20 : decode cX12_transit 20 = .ok (.aload_n 0, 1) := by decide +kernel
theorem dX12_transit_21 : decode cX12_transit 21 = .ok (.iload_n 1, 1) := by decide +kernel
theorem dX12_transit_22 : decode cX12_transit 22 = .ok (.iload_n 2, 1) := by decide +kernel
theorem dX12_transit_23 : decode cX12_transit 23 = .ok (.invokevirtual 428, 3) := by decide +kernel
theorem dX12_transit_26 : decode cX12_transit 26 = .ok (.ifCond .ne 4, 3) := by decide +kernel
theorem dX12_transit_29 : decode cX12_transit 29 = .ok (.return_, 1) := by decide +kernel
theorem dX12_transit_30 : decode cX12_transit 30 = .ok (.aload_n 0, 1) := by decide +kernel
theorem dX12_transit_31 : decode cX12_transit 31 = .ok (.getfield 127, 3) := by decide +kernel
theorem dX12_transit_34 : decode cX12_transit 34 = .ok (.bipush 12, 2) := by decide +kernel
theorem dX12_transit_36 : decode cX12_transit 36 = .ok (.iload_n 1, 1) := by decide +kernel
theorem dX12_transit_37 : decode cX12_transit 37 = .ok (.imul, 1) := by decide +kernel
theorem dX12_transit_38 : decode cX12_transit 38 = .ok (.bipush 10, 2) := by decide +kernel
theorem dX12_transit_40 : decode cX12_transit 40 = .ok (.iadd, 1) := by decide +kernel
theorem dX12_transit_41 : decode cX12_transit 41 = .ok (.iaload, 1) := by decide +kernel
theorem dX12_transit_42 : decode cX12_transit 42 = .ok (.istore 6, 2) := by decide +kernel
theorem dX12_transit_44 : decode cX12_transit 44 = .ok (.iload_n 3, 1) := by decide +kernel
theorem dX12_transit_45 : decode cX12_transit 45 = .ok (.ifCond .eq 32, 3) := by decide +kernel
theorem dX12_transit_48 : decode cX12_transit 48 = .ok (.iload 5, 2) := by decide +kernel
theorem dX12_transit_50 : decode cX12_transit 50 = .ok (.ldc_w 370, 3) := by decide +kernel
theorem dX12_transit_53 : decode cX12_transit 53 = .ok (.if_icmp .eq 24, 3) := by decide +kernel
theorem dX12_transit_56 : decode cX12_transit 56 = .ok (.aload_n 0, 1) := by decide +kernel
theorem dX12_transit_57 : decode cX12_transit 57 = .ok (.getfield 205, 3) := by decide +kernel
theorem dX12_transit_60 : decode cX12_transit 60 = .ok (.iload_n 2, 1) := by decide +kernel
theorem dX12_transit_61 : decode cX12_transit 61 = .ok (.iaload, 1) := by decide +kernel
theorem dX12_transit_62 : decode cX12_transit 62 = .ok (.ldc_w 370, 3) := by decide +kernel
theorem dX12_transit_65 : decode cX12_transit 65 = .ok (.if_icmp .eq 12, 3) := by decide +kernel
theorem dX12_transit_68 : decode cX12_transit 68 = .ok (.iload 6, 2) := by decide +kernel
theorem dX12_transit_70 : decode cX12_transit 70 = .ok (.ifCond .le 7, 3) := by decide +kernel
theorem dX12_transit_73 : decode cX12_transit 73 = .ok (.iconst 1, 1) := by decide +kernel
theorem dX12_transit_74 : decode cX12_transit 74 = .ok (.goto 4, 3) := by decide +kernel
theorem dX12_transit_77 : decode cX12_transit 77 = .ok (.iconst 0, 1) := by decide +kernel
theorem dX12_transit_78 : decode cX12_transit 78 = .ok (.istore 7, 2) := by decide +kernel
theorem dX12_transit_80 : decode cX12_transit 80 = .ok (.iload 6, 2) := by decide +kernel
theorem dX12_transit_82 : decode cX12_transit 82 = .ok (.istore 8, 2) := by decide +kernel
theorem dX12_transit_84 : decode cX12_transit 84 = .ok (.iload 7, 2) := by decide +kernel
theorem dX12_transit_86 : decode cX12_transit 86 = .ok (.ifCond .eq 82, 3) := by decide +kernel
theorem dX12_transit_89 : decode cX12_transit 89 = .ok (.aload_n 0, 1) := by decide +kernel
theorem dX12_transit_90 : decode cX12_transit 90 = .ok (.iload_n 1, 1) := by decide +kernel
theorem dX12_transit_91 : decode cX12_transit 91 = .ok (.iload_n 2, 1) := by decide +kernel
theorem dX12_transit_92 : decode cX12_transit 92 = .ok (.invokevirtual 419, 3) := by decide +kernel
theorem dX12_transit_95 : decode cX12_transit 95 = .ok (.ifCond .eq 73, 3) := by decide +kernel
theorem dX12_transit_98 : decode cX12_transit 98 = .ok (.iload 5, 2) := by decide +kernel
theorem dX12_transit_100 : decode cX12_transit 100 = .ok (.aload_n 0, 1) := by decide +kernel
theorem dX12_transit_101 : decode cX12_transit 101 = .ok (.getfield 148, 3) := by decide +kernel
theorem dX12_transit_104 : decode cX12_transit 104 = .ok (.iload 4, 2) := by decide +kernel
theorem dX12_transit_106 : decode cX12_transit 106 = .ok (.iaload, 1) := by decide +kernel
theorem dX12_transit_107 : decode cX12_transit 107 = .ok (.if_icmp .ne 61, 3) := by decide +kernel
theorem dX12_transit_110 : decode cX12_transit 110 = .ok (.aload_n 0, 1) := by decide +kernel
theorem dX12_transit_111 : decode cX12_transit 111 = .ok (.getfield 416, 3) := by decide +kernel
theorem dX12_transit_114 : decode cX12_transit 114 = .ok (.aload_n 0, 1) := by decide +kernel
theorem dX12_transit_115 : decode cX12_transit 115 = .ok (.getfield 142, 3) := by decide +kernel
theorem dX12_transit_118 : decode cX12_transit 118 = .ok (.iload 4, 2) := by decide +kernel
theorem dX12_transit_120 : decode cX12_transit 120 = .ok (.iaload, 1) := by decide +kernel
theorem dX12_transit_121 : decode cX12_transit 121 = .ok (.isub, 1) := by decide +kernel
theorem dX12_transit_122 : decode cX12_transit 122 = .ok (.i2l, 1) := by decide +kernel
theorem dX12_transit_123 : decode cX12_transit 123 = .ok (.lstore 9, 2) := by decide +kernel
theorem dX12_transit_125 : decode cX12_transit 125 = .ok (.iload 6, 2) := by decide +kernel
theorem dX12_transit_127 : decode cX12_transit 127 = .ok (.i2l, 1) := by decide +kernel
theorem dX12_transit_128 : decode cX12_transit 128 = .ok (.lload 9, 2) := by decide +kernel
theorem dX12_transit_130 : decode cX12_transit 130 = .ok (.lmul, 1) := by decide +kernel
theorem dX12_transit_131 : decode cX12_transit 131 = .ok (.aload_n 0, 1) := by decide +kernel
theorem dX12_transit_132 : decode cX12_transit 132 = .ok (.getfield 145, 3) := by decide +kernel
theorem dX12_transit_135 : decode cX12_transit 135 = .ok (.iload 4, 2) := by decide +kernel
theorem dX12_transit_137 : decode cX12_transit 137 = .ok (.iaload, 1) := by decide +kernel
theorem dX12_transit_138 : decode cX12_transit 138 = .ok (.i2l, 1) := by decide +kernel
theorem dX12_transit_139 : decode cX12_transit 139 = .ok (.ladd, 1) := by decide +kernel
theorem dX12_transit_140 : decode cX12_transit 140 = .ok (.lconst 1, 1) := by decide +kernel
theorem dX12_transit_141 : decode cX12_transit 141 = .ok (.lsub, 1) := by decide +kernel
theorem dX12_transit_142 : decode cX12_transit 142 = .ok (.aload_n 0, 1) := by decide +kernel
theorem dX12_transit_143 : decode cX12_transit 143 = .ok (.getfield 145, 3) := by decide +kernel
theorem dX12_transit_146 : decode cX12_transit 146 = .ok (.iload 4, 2) := by decide +kernel
theorem dX12_transit_148 : decode cX12_transit 148 = .ok (.iaload, 1) := by decide +kernel
theorem dX12_transit_149 : decode cX12_transit 149 = .ok (.i2l, 1) := by decide +kernel
theorem dX12_transit_150 : decode cX12_transit 150 = .ok (.ldiv, 1) := by decide +kernel
theorem dX12_transit_151 : decode cX12_transit 151 = .ok (.l2i, 1) := by decide +kernel
theorem dX12_transit_152 : decode cX12_transit 152 = .ok (.istore 8, 2) := by decide +kernel
theorem dX12_transit_154 : decode cX12_transit 154 = .ok (.iload 8, 2) := by decide +kernel
theorem dX12_transit_156 : decode cX12_transit 156 = .ok (.iconst 1, 1) := by decide +kernel
theorem dX12_transit_157 : decode cX12_transit 157 = .ok (.if_icmp .ge 7, 3) := by decide +kernel
theorem dX12_transit_160 : decode cX12_transit 160 = .ok (.iconst 1, 1) := by decide +kernel
theorem dX12_transit_161 : decode cX12_transit 161 = .ok (.goto 5, 3) := by decide +kernel
theorem dX12_transit_164 : decode cX12_transit 164 = .ok (.iload 8, 2) := by decide +kernel
theorem dX12_transit_166 : decode cX12_transit 166 = .ok (.istore 8, 2) := by decide +kernel
theorem dX12_transit_168 : decode cX12_transit 168 = .ok (.aload_n 0, 1) := by decide +kernel
theorem dX12_transit_169 : decode cX12_transit 169 = .ok (.getfield 142, 3) := by decide +kernel
theorem dX12_transit_172 : decode cX12_transit 172 = .ok (.iload 4, 2) := by decide +kernel
theorem dX12_transit_174 : decode cX12_transit 174 = .ok (.iload 7, 2) := by decide +kernel
theorem dX12_transit_176 : decode cX12_transit 176 = .ok (.ifCond .eq 10, 3) := by decide +kernel
theorem dX12_transit_179 : decode cX12_transit 179 = .ok (.aload_n 0, 1) := by decide +kernel
theorem dX12_transit_180 : decode cX12_transit 180 = .ok (.getfield 416, 3) := by decide +kernel
theorem dX12_transit_183 : decode cX12_transit 183 = .ok (.goto 4, 3) := by decide +kernel
theorem dX12_transit_186 : decode cX12_transit 186 = .ok (.iconst (-1), 1) := by decide +kernel
theorem dX12_transit_187 : decode cX12_transit 187 = .ok (.iastore, 1) := by decide +kernel
theorem dX12_transit_188 : decode cX12_transit 188 = .ok (.aload_n 0, 1) := by decide +kernel
theorem dX12_transit_189 : decode cX12_transit 189 = .ok (.getfield 145, 3) := by decide +kernel
theorem dX12_transit_192 : decode cX12_transit 192 = .ok (.iload 4, 2) := by decide +kernel
theorem dX12_transit_194 : decode cX12_transit 194 = .ok (.iload 8, 2) := by decide +kernel
theorem dX12_transit_196 : decode cX12_transit 196 = .ok (.iastore, 1) := by decide +kernel
theorem dX12_transit_197 : decode cX12_transit 197 = .ok (.aload_n 0, 1) := by decide +kernel
theorem dX12_transit_198 : decode cX12_transit 198 = .ok (.getfield 148, 3) := by decide +kernel
theorem dX12_transit_201 : decode cX12_transit 201 = .ok (.iload 4, 2) := by decide +kernel
theorem dX12_transit_203 : decode cX12_transit 203 = .ok (.aload_n 0, 1) := by decide +kernel
theorem dX12_transit_204 : decode cX12_transit 204 = .ok (.getfield 214, 3) := by decide +kernel
theorem dX12_transit_207 : decode cX12_transit 207 = .ok (.iload 4, 2) := by decide +kernel
theorem dX12_transit_209 : decode cX12_transit 209 = .ok (.iaload, 1) := by decide +kernel
theorem dX12_transit_210 : decode cX12_transit 210 = .ok (.iastore, 1) := by decide +kernel
theorem dX12_transit_211 : decode cX12_transit 211 = .ok (.aload_n 0, 1) := by decide +kernel
theorem dX12_transit_212 : decode cX12_transit 212 = .ok (.getfield 151, 3) := by decide +kernel
theorem dX12_transit_215 : decode cX12_transit 215 = .ok (.iload 4, 2) := by decide +kernel
theorem dX12_transit_217 : decode cX12_transit 217 = .ok (.iload 5, 2) := by decide +kernel
theorem dX12_transit_219 : decode cX12_transit 219 = .ok (.iastore, 1) := by decide +kernel
theorem dX12_transit_220 : decode cX12_transit 220 = .ok (.return_, 1) := by decide +kernel
theorem dX12_restyle_0 : decode cX12_restyle 0 = .ok (.aload_n 0, 1) := by decide +kernel
theorem dX12_restyle_1 : decode cX12_restyle 1 = .ok (.aload_n 0, 1) := by decide +kernel
theorem dX12_restyle_2 : decode cX12_restyle 2 = .ok (.getfield 431, 3) := by decide +kernel
theorem dX12_restyle_5 : decode cX12_restyle 5 = .ok (.iload_n 1, 1) := by decide +kernel
theorem dX12_restyle_6 : decode cX12_restyle 6 = .ok (.invokevirtual 288, 3) := by decide +kernel
theorem dX12_restyle_9 : decode cX12_restyle 9 = .ok (.istore_n 2, 1) := by decide +kernel
theorem dX12_restyle_10 : decode cX12_restyle 10 = .ok (.aload_n 0, 1) := by decide +kernel
theorem dX12_restyle_11 : decode cX12_restyle 11 = .ok (.getfield 136, 3) := by decide +kernel
theorem dX12_restyle_14 : decode cX12_restyle 14 = .ok (.iload_n 1, 1) := by decide +kernel
theorem dX12_restyle_15 : decode cX12_restyle 15 = .ok (.iaload, 1) := by decide +kernel
theorem dX12_restyle_16 : decode cX12_restyle 16 = .ok (.istore_n 3, 1) := by decide +kernel
theorem dX12_restyle_17 : decode cX12_restyle 17 = .ok (.iconst 0, 1) := by decide +kernel
theorem dX12_restyle_18 : decode cX12_restyle 18 = .ok (.istore 4, 2) := by decide +kernel
theorem dX12_restyle_20 : decode cX12_restyle 20 = .ok (.iload 4, 2) := by decide +kernel
theorem dX12_restyle_22 : decode cX12_restyle 22 = .ok (.bipush 12, 2) := by decide +kernel
theorem dX12_restyle_24 : decode cX12_restyle 24 = .ok (.if_icmp .ge 28, 3) := by decide +kernel
theorem dX12_restyle_27 : decode cX12_restyle 27 = .ok (.aload_n 0, 1) := by decide +kernel
theorem dX12_restyle_28 : decode cX12_restyle 28 = .ok (.getfield 205, 3) := by decide +kernel
theorem dX12_restyle_31 : decode cX12_restyle 31 = .ok (.iload 4, 2) := by decide +kernel
theorem dX12_restyle_33 : decode cX12_restyle 33 = .ok (.aload_n 0, 1) := by decide +kernel
theorem dX12_restyle_34 : decode cX12_restyle 34 = .ok (.getfield 127, 3) := by decide +kernel
theorem dX12_restyle_37 : decode cX12_restyle 37 = .ok (.bipush 12, 2) := by decide +kernel
theorem dX12_restyle_39 : decode cX12_restyle 39 = .ok (.iload_n 1, 1) := by decide +kernel
theorem dX12_restyle_40 : decode cX12_restyle 40 = .ok (.imul, 1) := by decide +kernel
theorem dX12_restyle_41 : decode cX12_restyle 41 = .ok (.iload 4, 2) := by decide +kernel
theorem dX12_restyle_43 : decode cX12_restyle 43 = .ok (.iadd, 1) := by decide +kernel
theorem dX12_restyle_44 : decode cX12_restyle 44 = .ok (.iaload, 1) := by decide +kernel
theorem dX12_restyle_45 : decode cX12_restyle 45 = .ok (.iastore, 1) := by decide +kernel
theorem dX12_restyle_46 : decode cX12_restyle 46 = .ok (.iinc 4 1, 3) := by decide +kernel
theorem dX12_restyle_49 : decode cX12_restyle 49 = .ok (.goto (-29), 3) := by decide +kernel
theorem dX12_restyle_52 : decode cX12_restyle 52 = .ok (.iconst 0, 1) := by decide +kernel
theorem dX12_restyle_53 : decode cX12_restyle 53 = .ok (.istore 4, 2) := by decide +kernel
theorem dX12_restyle_55 : decode cX12_restyle 55 = .ok (.iload 4, 2) := by decide +kernel
theorem dX12_restyle_57 : decode cX12_restyle 57 = .ok (.iconst 3, 1) := by decide +kernel
theorem dX12_restyle_58 : decode cX12_restyle 58 = .ok (.if_icmp .ge 45, 3) := by decide +kernel
theorem dX12_restyle_61 : decode cX12_restyle 61 = .ok (.aload_n 0, 1) := by decide +kernel
theorem dX12_restyle_62 : decode cX12_restyle 62 = .ok (.getfield 208, 3) := by decide +kernel
theorem dX12_restyle_65 : decode cX12_restyle 65 = .ok (.iload 4, 2) := by decide +kernel
theorem dX12_restyle_67 : decode cX12_restyle 67 = .ok (.aload_n 0, 1) := by decide +kernel
theorem dX12_restyle_68 : decode cX12_restyle 68 = .ok (.getfield 130, 3) := by decide +kernel
theorem dX12_restyle_71 : decode cX12_restyle 71 = .ok (.iconst 3, 1) := by decide +kernel
theorem dX12_restyle_72 : decode cX12_restyle 72 = .ok (.iload_n 1, 1) := by decide +kernel
theorem dX12_restyle_73 : decode cX12_restyle 73 = .ok (.imul, 1) := by decide +kernel
theorem dX12_restyle_74 : decode cX12_restyle 74 = .ok (.iload 4, 2) := by decide +kernel
theorem dX12_restyle_76 : decode cX12_restyle 76 = .ok (.iadd, 1) := by decide +kernel
theorem dX12_restyle_77 : decode cX12_restyle 77 = .ok (.iaload, 1) := by decide +kernel
theorem dX12_restyle_78 : decode cX12_restyle 78 = .ok (.iastore, 1) := by decide +kernel
theorem dX12_restyle_79 : decode cX12_restyle 79 = .ok (.aload_n 0, 1) := by decide +kernel
theorem dX12_restyle_80 : decode cX12_restyle 80 = .ok (.getfield 211, 3) := by decide +kernel
theorem dX12_restyle_83 : decode cX12_restyle 83 = .ok (.iload 4, 2) := by decide +kernel
theorem dX12_restyle_85 : decode cX12_restyle 85 = .ok (.aload_n 0, 1) := by decide +kernel
theorem dX12_restyle_86 : decode cX12_restyle 86 = .ok (.getfield 133, 3) := by decide +kernel
theorem dX12_restyle_89 : decode cX12_restyle 89 = .ok (.iconst 3, 1) := by decide +kernel
theorem dX12_restyle_90 : decode cX12_restyle 90 = .ok (.iload_n 1, 1) := by decide +kernel
theorem dX12_restyle_91 : decode cX12_restyle 91 = .ok (.imul, 1) := by decide +kernel
theorem dX12_restyle_92 : decode cX12_restyle 92 = .ok (.iload 4, 2) := by decide +kernel
theorem dX12_restyle_94 : decode cX12_restyle 94 = .ok (.iadd, 1) := by decide +kernel
theorem dX12_restyle_95 : decode cX12_restyle 95 = .ok (.iaload, 1) := by decide +kernel
theorem dX12_restyle_96 : decode cX12_restyle 96 = .ok (.iastore, 1) := by decide +kernel
theorem dX12_restyle_97 : decode cX12_restyle 97 = .ok (.iinc 4 1, 3) := by decide +kernel
theorem dX12_restyle_100 : decode cX12_restyle 100 = .ok (.goto (-45), 3) := by decide +kernel
theorem dX12_restyle_103 : decode cX12_restyle 103 = .ok (.aload_n 0, 1) := by decide +kernel
theorem dX12_restyle_104 : decode cX12_restyle 104 = .ok (.iload_n 1, 1) := by decide +kernel
theorem dX12_restyle_105 : decode cX12_restyle 105 = .ok (.iconst 0, 1) := by decide +kernel
theorem dX12_restyle_106 : decode cX12_restyle 106 = .ok (.iconst 0, 1) := by decide +kernel
theorem dX12_restyle_107 : decode cX12_restyle 107 = .ok (.iconst 0, 1) := by decide +kernel
theorem dX12_restyle_108 : decode cX12_restyle 108 = .ok (.invokevirtual 413, 3) := by decide +kernel
theorem dX12_restyle_111 : decode cX12_restyle 111 = .ok (.aload_n 0, 1) := by decide +kernel
theorem dX12_restyle_112 : decode cX12_restyle 112 = .ok (.getfield 136, 3) := by decide +kernel
theorem dX12_restyle_115 : decode cX12_restyle 115 = .ok (.iload_n 1, 1) := by decide +kernel
theorem dX12_restyle_116 : decode cX12_restyle 116 = .ok (.aload_n 0, 1) := by decide +kernel
theorem dX12_restyle_117 : decode cX12_restyle 117 = .ok (.iload_n 1, 1) := by decide +kernel
theorem dX12_restyle_118 : decode cX12_restyle 118 = .ok (.iconst 0, 1) := by decide +kernel
theorem dX12_restyle_119 : decode cX12_restyle 119 = .ok (.invokevirtual 434, 3) := by decide +kernel
theorem dX12_restyle_122 : decode cX12_restyle 122 = .ok (.iastore, 1) := by decide +kernel
theorem dX12_restyle_123 : decode cX12_restyle 123 = .ok (.iload_n 2, 1) := by decide +kernel
theorem dX12_restyle_124 : decode cX12_restyle 124 = .ok (.ifCond .eq 13, 3) := by decide +kernel
theorem dX12_restyle_127 : decode cX12_restyle 127 = .ok (.aload_n 0, 1) := by decide +kernel
theorem dX12_restyle_128 : decode cX12_restyle 128 = .ok (.getfield 136, 3) := by decide +kernel
theorem dX12_restyle_131 : decode cX12_restyle 131 = .ok (.iload_n 1, 1) := by decide +kernel
theorem dX12_restyle_132 : decode cX12_restyle 132 = .ok (.iaload, 1) := by decide +kernel
theorem dX12_restyle_133 : decode cX12_restyle 133 = .ok (.iload_n 3, 1) := by decide +kernel
theorem dX12_restyle_134 : decode cX12_restyle 134 = .ok (.if_icmp .eq 7, 3) := by decide +kernel
theorem dX12_restyle_137 : decode cX12_restyle 137 = .ok (.iconst 1, 1) := by decide +kernel
theorem dX12_restyle_138 : decode cX12_restyle 138 = .ok (.goto 4, 3) := by decide +kernel
theorem dX12_restyle_141 : decode cX12_restyle 141 = .ok (.iconst 0, 1) := by decide +kernel
theorem dX12_restyle_142 : decode cX12_restyle 142 = .ok (.istore 4, 2) := by decide +kernel
theorem dX12_restyle_144 : decode cX12_restyle 144 = .ok (.iconst 0, 1) := by decide +kernel
theorem dX12_restyle_145 : decode cX12_restyle 145 = .ok (.istore 5, 2) := by decide +kernel
theorem dX12_restyle_147 : decode cX12_restyle 147 = .ok (.iload 5, 2) := by decide +kernel
theorem dX12_restyle_149 : decode cX12_restyle 149 = .ok (.bipush 15, 2) := by decide +kernel
theorem dX12_restyle_151 : decode cX12_restyle 151 = .ok (.if_icmp .ge 21, 3) := by decide +kernel
theorem dX12_restyle_154 : decode cX12_restyle 154 = .ok (.iload 4, 2) := by decide +kernel
theorem dX12_restyle_156 : decode cX12_restyle 156 = .ok (.aload_n 0, 1) := by decide +kernel
theorem dX12_restyle_157 : decode cX12_restyle 157 = .ok (.iload_n 1, 1) := by decide +kernel
theorem dX12_restyle_158 : decode cX12_restyle 158 = .ok (.iload 5, 2) := by decide +kernel
theorem dX12_restyle_160 : decode cX12_restyle 160 = .ok (.invokevirtual 428, 3) := by decide +kernel
theorem dX12_restyle_163 : decode cX12_restyle 163 = .ok (.ior, 1) := by decide +kernel
theorem dX12_restyle_164 : decode cX12_restyle 164 = .ok (.istore 4, 2) := by decide +kernel
theorem dX12_restyle_166 : decode cX12_restyle 166 = .ok (.iinc 5 1, 3) := by decide +kernel
theorem dX12_restyle_169 : decode cX12_restyle 169 = .ok (.goto (-22), 3) := by decide +kernel
theorem dX12_restyle_172 : decode cX12_restyle 172 = .ok (.iconst 0, 1) := by decide +kernel
theorem dX12_restyle_173 : decode cX12_restyle 173 = .ok (.istore 5, 2) := by decide +kernel
theorem dX12_restyle_175 : decode cX12_restyle 175 = .ok (.iload 5, 2) := by decide +kernel
theorem dX12_restyle_177 : decode cX12_restyle 177 = .ok (.iconst 5, 1) := by decide +kernel
theorem dX12_restyle_178 : decode cX12_restyle 178 = .ok (.if_icmp .ge 17, 3) := by decide +kernel
theorem dX12_restyle_181 : decode cX12_restyle 181 = .ok (.aload_n 0, 1) := by decide +kernel
theorem dX12_restyle_182 : decode cX12_restyle 182 = .ok (.iload_n 1, 1) := by decide +kernel
theorem dX12_restyle_183 : decode cX12_restyle 183 = .ok (.iload 5, 2) := by decide +kernel
theorem dX12_restyle_185 : decode cX12_restyle 185 = .ok (.iload_n 2, 1) := by decide +kernel
theorem dX12_restyle_186 : decode cX12_restyle 186 = .ok (.invokevirtual 437, 3) := by decide +kernel
theorem dX12_restyle_189 : decode cX12_restyle 189 = .ok (.iinc 5 1, 3) := by decide +kernel
theorem dX12_restyle_192 : decode cX12_restyle 192 = .ok (.goto (-17), 3) := by decide +kernel
theorem dX12_restyle_195 : decode cX12_restyle 195 = .ok (.aload_n 0, 1) := by decide +kernel
theorem dX12_restyle_196 : decode cX12_restyle 196 = .ok (.aload_n 0, 1) := by decide +kernel
theorem dX12_restyle_197 : decode cX12_restyle 197 = .ok (.getfield 127, 3) := by decide +kernel
theorem dX12_restyle_200 : decode cX12_restyle 200 = .ok (.bipush 12, 2) := by decide +kernel
theorem dX12_restyle_202 : decode cX12_restyle 202 = .ok (.iload_n 1, 1) := by decide +kernel
theorem dX12_restyle_203 : decode cX12_restyle 203 = .ok (.imul, 1) := by decide +kernel
theorem dX12_restyle_204 : decode cX12_restyle 204 = .ok (.bipush 11, 2) := by decide +kernel
theorem dX12_restyle_206 : decode cX12_restyle 206 = .ok (.iadd, 1) := by decide +kernel
theorem dX12_restyle_207 : decode cX12_restyle 207 = .ok (.iaload, 1) := by decide +kernel
theorem dX12_restyle_208 : decode cX12_restyle 208 = .ok (.iconst 0, 1) := by decide +kernel
theorem dX12_restyle_209 : decode cX12_restyle 209 = .ok (.iconst 3, 1) := by decide +kernel
theorem dX12_restyle_210 : decode cX12_restyle 210 = .ok (.invokevirtual 230, 3) := by decide +kernel
theorem dX12_restyle_213 : decode cX12_restyle 213 = .ok (.istore 5, 2) := by decide +kernel
theorem dX12_restyle_215 : decode cX12_restyle 215 = .ok (.aload_n 0, 1) := by decide +kernel
theorem dX12_restyle_216 : decode cX12_restyle 216 = .ok (.getfield 154, 3) := by decide +kernel
theorem dX12_restyle_219 : decode cX12_restyle 219 = .ok (.iload_n 1, 1) := by decide +kernel
theorem dX12_restyle_220 : decode cX12_restyle 220 = .ok (.iload_n 2, 1) := by decide +kernel
theorem dX12_restyle_221 : decode cX12_restyle 221 = .ok (.ifCond .eq 13, 3) := by decide +kernel
theorem dX12_restyle_224 : decode cX12_restyle 224 = .ok (.aload_n 0, 1) := by decide +kernel
theorem dX12_restyle_225 : decode cX12_restyle 225 = .ok (.iload_n 1, 1) := by decide +kernel
theorem dX12_restyle_226 : decode cX12_restyle 226 = .ok (.bipush 11, 2) := by decide +kernel
theorem dX12_restyle_228 : decode cX12_restyle 228 = .ok (.invokevirtual 428, 3) := by decide +kernel
theorem dX12_restyle_231 : decode cX12_restyle 231 = .ok (.ifCond .eq 19, 3) := by decide +kernel
theorem dX12_restyle_234 : decode cX12_restyle 234 = .ok (.iload 5, 2) := by decide +kernel
theorem dX12_restyle_236 : decode cX12_restyle 236 = .ok (.ifCond .eq 10, 3) := by decide +kernel
theorem dX12_restyle_239 : decode cX12_restyle 239 = .ok (.aload_n 0, 1) := by decide +kernel
theorem dX12_restyle_240 : decode cX12_restyle 240 = .ok (.getfield 416, 3) := by decide +kernel
theorem dX12_restyle_243 : decode cX12_restyle 243 = .ok (.goto 13, 3) := by decide +kernel
theorem dX12_restyle_246 : decode cX12_restyle 246 = .ok (.iconst (-1), 1) := by decide +kernel
theorem dX12_restyle_247 : decode cX12_restyle 247 = .ok (.goto 9, 3) := by decide +kernel
theorem dX12_restyle_250 : decode cX12_restyle 250 = .ok (.aload_n 0, 1) := by decide +kernel
theorem dX12_restyle_251 : decode cX12_restyle 251 = .ok (.getfield 154, 3) := by decide +kernel
theorem dX12_restyle_254 : decode cX12_restyle 254 = .ok (.iload_n 1, 1) := by decide +kernel
theorem dX12_restyle_255 : decode cX12_restyle 255 = .ok (.iaload, 1) := by decide +kernel
theorem dX12_restyle_256 : decode cX12_restyle 256 = .ok (.iastore, 1) := by decide +kernel
theorem dX12_restyle_257 : decode cX12_restyle 257 = .ok (.iconst 0, 1) := by decide +kernel
theorem dX12_restyle_258 : decode cX12_restyle 258 = .ok (.istore 6, 2) := by decide +kernel
theorem dX12_restyle_260 : decode cX12_restyle 260 = .ok (.iload 6, 2) := by decide +kernel
theorem dX12_restyle_262 : decode cX12_restyle 262 = .ok (.aload_n 0, 1) := by decide +kernel
theorem dX12_restyle_263 : decode cX12_restyle 263 = .ok (.getfield 441, 3) := by decide +kernel
theorem dX12_restyle_266 : decode cX12_restyle 266 = .ok (.if_icmp .ge 57, 3) := by decide +kernel
theorem dX12_restyle_269 : decode cX12_restyle 269 = .ok (.aload_n 0, 1) := by decide +kernel
theorem dX12_restyle_270 : decode cX12_restyle 270 = .ok (.getfield 184, 3) := by decide +kernel
theorem dX12_restyle_273 : decode cX12_restyle 273 = .ok (.iload 6, 2) := by decide +kernel
theorem dX12_restyle_275 : decode cX12_restyle 275 = .ok (.aload_n 0, 1) := by decide +kernel
theorem dX12_restyle_276 : decode cX12_restyle 276 = .ok (.getfield 172, 3) := by decide +kernel
theorem dX12_restyle_279 : decode cX12_restyle 279 = .ok (.iload 6, 2) := by decide +kernel
theorem dX12_restyle_281 : decode cX12_restyle 281 = .ok (.iaload, 1) := by decide +kernel
theorem dX12_restyle_282 : decode cX12_restyle 282 = .ok (.iload_n 1, 1) := by decide +kernel
theorem dX12_restyle_283 : decode cX12_restyle 283 = .ok (.if_icmp .ne 26, 3) := by decide +kernel
theorem dX12_restyle_286 : decode cX12_restyle 286 = .ok (.iload_n 2, 1) := by decide +kernel
theorem dX12_restyle_287 : decode cX12_restyle 287 = .ok (.ifCond .eq 22, 3) := by decide +kernel
theorem dX12_restyle_290 : decode cX12_restyle 290 = .ok (.aload_n 0, 1) := by decide +kernel
theorem dX12_restyle_291 : decode cX12_restyle 291 = .ok (.iload_n 1, 1) := by decide +kernel
theorem dX12_restyle_292 : decode cX12_restyle 292 = .ok (.aload_n 0, 1) := by decide +kernel
theorem dX12_restyle_293 : decode cX12_restyle 293 = .ok (.getfield 175, 3) := by decide +kernel
theorem dX12_restyle_296 : decode cX12_restyle 296 = .ok (.iload 6, 2) := by decide +kernel
theorem dX12_restyle_298 : decode cX12_restyle 298 = .ok (.iaload, 1) := by decide +kernel
theorem dX12_restyle_299 : decode cX12_restyle 299 = .ok (.invokevirtual 428, 3) := by decide +kernel
theorem dX12_restyle_302 : decode cX12_restyle 302 = .ok (.ifCond .eq 7, 3) := by decide +kernel
theorem dX12_restyle_305 : decode cX12_restyle 305 = .ok (.iconst 1, 1) := by decide +kernel
theorem dX12_restyle_306 : decode cX12_restyle 306 = .ok (.goto 10, 3) := by decide +kernel
theorem dX12_restyle_309 : decode cX12_restyle 309 = .ok (.aload_n 0, 1) := by decide +kernel
theorem dX12_restyle_310 : decode cX12_restyle 310 = .ok (.getfield 184, 3) := by decide +kernel
theorem dX12_restyle_313 : decode cX12_restyle 313 = .ok (.iload 6, 2) := by decide +kernel
theorem dX12_restyle_315 : decode cX12_restyle 315 = .ok (.iaload, 1) := by decide +kernel
theorem dX12_restyle_316 : decode cX12_restyle 316 = .ok (.iastore, 1) := by decide +kernel
theorem dX12_restyle_317 : decode cX12_restyle 317 = .ok (.iinc 6 1, 3) := by decide +kernel
theorem dX12_restyle_320 : decode cX12_restyle 320 = .ok (.goto (-60), 3) := by decide +kernel
theorem dX12_restyle_323 : decode cX12_restyle 323 = .ok (.iload 4, 2) := by decide +kernel
theorem dX12_restyle_325 : decode cX12_restyle 325 = .ok (.ireturn, 1) := by decide +kernel
theorem dX12_flags_0 : decode cX12_flags 0 = .ok (.iconst 0, 1) := by decide +kernel
theorem dX12_flags_1 : decode cX12_flags 1 = .ok (.istore_n 1, 1) := by decide +kernel
theorem dX12_flags_2 : decode cX12_flags 2 = .ok (.iconst 0, 1) := by decide +kernel
theorem dX12_flags_3 : decode cX12_flags 3 = .ok (.istore_n 2, 1) := by decide +kernel
theorem dX12_flags_4 : decode cX12_flags 4 = .ok (.iload_n 2, 1) := by decide +kernel
theorem dX12_flags_5 : decode cX12_flags 5 = .ok (.aload_n 0, 1) := by decide +kernel
theorem dX12_flags_6 : decode cX12_flags 6 = .ok (.getfield 325, 3) := by decide +kernel
theorem dX12_flags_9 : decode cX12_flags 9 = .ok (.if_icmp .ge 23, 3) := by decide +kernel
theorem dX12_flags_12 : decode cX12_flags 12 = .ok (.iload_n 1, 1) := by decide +kernel
theorem dX12_flags_13 : decode cX12_flags 13 = .ok (.aload_n 0, 1) := by decide +kernel
theorem dX12_flags_14 : decode cX12_flags 14 = .ok (.getfield 82, 3) := by decide +kernel
theorem dX12_flags_17 : decode cX12_flags 17 = .ok (.aload_n 0, 1) := by decide +kernel
theorem dX12_flags_18 : decode cX12_flags 18 = .ok (.getfield 100, 3) := by decide +kernel
theorem dX12_flags_21 : decode cX12_flags 21 = .ok (.iload_n 2, 1) := by decide +kernel
theorem dX12_flags_22 : decode cX12_flags 22 = .ok (.iaload, 1) := by decide +kernel
theorem dX12_flags_23 : decode cX12_flags 23 = .ok (.iaload, 1) := by decide +kernel
theorem dX12_flags_24 : decode cX12_flags 24 = .ok (.ior, 1) := by decide +kernel
theorem dX12_flags_25 : decode cX12_flags 25 = .ok (.istore_n 1, 1) := by decide +kernel
theorem dX12_flags_26 : decode cX12_flags 26 = .ok (.iinc 2 1, 3) := by decide +kernel
theorem dX12_flags_29 : decode cX12_flags 29 = .ok (.goto (-25), 3) := by decide +kernel
theorem dX12_flags_32 : decode cX12_flags 32 = .ok (.iload_n 1, 1) := by decide +kernel
theorem dX12_flags_33 : decode cX12_flags 33 = .ok (.bipush 14, 2) := by decide +kernel
theorem dX12_flags_35 : decode cX12_flags 35 = .ok (.ishr, 1) := by decide +kernel
theorem dX12_flags_36 : decode cX12_flags 36 = .ok (.ireturn, 1) := by decide +kernel
theorem dX12_plain_0 : decode cX12_plain 0 = .ok (.aload_n 0, 1) := by decide +kernel
theorem dX12_plain_1 : decode cX12_plain 1 = .ok (.getfield 34, 3) := by decide +kernel
theorem dX12_plain_4 : decode cX12_plain 4 = .ok (.iload_n 1, 1) := by decide +kernel
theorem dX12_plain_5 : decode cX12_plain 5 = .ok (.iaload, 1) := by decide +kernel
theorem dX12_plain_6 : decode cX12_plain 6 = .ok (.ifCond .ne 7, 3) := by decide +kernel
theorem dX12_plain_9 : decode cX12_plain 9 = .ok (.iconst 1, 1) := by decide +kernel
theorem dX12_plain_10 : decode cX12_plain 10 = .ok (.goto 4, 3) := by decide +kernel
theorem dX12_plain_13 : decode cX12_plain 13 = .ok (.iconst 0, 1) := by decide +kernel
theorem dX12_plain_14 : decode cX12_plain 14 = .ok (.istore_n 2, 1) := by decide +kernel
theorem dX12_plain_15 : decode cX12_plain 15 = .ok (.iconst 0, 1) := by decide +kernel
theorem dX12_plain_16 : decode cX12_plain 16 = .ok (.istore_n 3, 1) := by decide +kernel
theorem dX12_plain_17 : decode cX12_plain 17 = .ok (.iload_n 3, 1) := by decide +kernel
theorem dX12_plain_18 : decode cX12_plain 18 = .ok (.bipush 15, 2) := by decide +kernel
theorem dX12_plain_20 : decode cX12_plain 20 = .ok (.if_icmp .ge 34, 3) := by decide +kernel
theorem dX12_plain_23 : decode cX12_plain 23 = .ok (.iload_n 2, 1) := by decide +kernel
theorem dX12_plain_24 : decode cX12_plain 24 = .ok (.aload_n 0, 1) := by decide +kernel
theorem dX12_plain_25 : decode cX12_plain 25 = .ok (.getfield 109, 3) := by decide +kernel
theorem dX12_plain_28 : decode cX12_plain 28 = .ok (.bipush 16, 2) := by decide +kernel
theorem dX12_plain_30 : decode cX12_plain 30 = .ok (.bipush 40, 2) := by decide +kernel
theorem dX12_plain_32 : decode cX12_plain 32 = .ok (.iload_n 1, 1) := by decide +kernel
theorem dX12_plain_33 : decode cX12_plain 33 = .ok (.iadd, 1) := by decide +kernel
theorem dX12_plain_34 : decode cX12_plain 34 = .ok (.imul, 1) := by decide +kernel
theorem dX12_plain_35 : decode cX12_plain 35 = .ok (.iload_n 3, 1) := by decide +kernel
theorem dX12_plain_36 : decode cX12_plain 36 = .ok (.iadd, 1) := by decide +kernel
theorem dX12_plain_37 : decode cX12_plain 37 = .ok (.iaload, 1) := by decide +kernel
theorem dX12_plain_38 : decode cX12_plain 38 = .ok (.ifCond .ge 7, 3) := by decide +kernel
theorem dX12_plain_41 : decode cX12_plain 41 = .ok (.iconst 1, 1) := by decide +kernel
theorem dX12_plain_42 : decode cX12_plain 42 = .ok (.goto 4, 3) := by decide +kernel
theorem dX12_plain_45 : decode cX12_plain 45 = .ok (.iconst 0, 1) := by decide +kernel
theorem dX12_plain_46 : decode cX12_plain 46 = .ok (.iand, 1) := by decide +kernel
theorem dX12_plain_47 : decode cX12_plain 47 = .ok (.istore_n 2, 1) := by decide +kernel
theorem dX12_plain_48 : decode cX12_plain 48 = .ok (.iinc 3 1, 3) := by decide +kernel
theorem dX12_plain_51 : decode cX12_plain 51 = .ok (.goto (-34), 3) := by decide +kernel
theorem dX12_plain_54 : decode cX12_plain 54 = .ok (.iload_n 2, 1) := by decide +kernel
theorem dX12_plain_55 : decode cX12_plain 55 = .ok (.ireturn, 1) := by decide +kernel
theorem dX12_twins_0 : decode cX12_twins 0 = .ok (.aload_n 0, 1) := by decide +kernel
theorem dX12_twins_1 : decode cX12_twins 1 = .ok (.getfield 7, 3) := by decide +kernel
theorem dX12_twins_4 : decode cX12_twins 4 = .ok (.iload_n 1, 1) := by decide +kernel
theorem dX12_twins_5 : decode cX12_twins 5 = .ok (.iaload, 1) := by decide +kernel
theorem dX12_twins_6 : decode cX12_twins 6 = .ok (.aload_n 0, 1) := by decide +kernel
theorem dX12_twins_7 : decode cX12_twins 7 = .ok (.getfield 7, 3) := by decide +kernel
theorem dX12_twins_10 : decode cX12_twins 10 = .ok (.iload_n 2, 1) := by decide +kernel
theorem dX12_twins_11 : decode cX12_twins 11 = .ok (.iaload, 1) := by decide +kernel
theorem dX12_twins_12 : decode cX12_twins 12 = .ok (.if_icmp .ne 82, 3) := by decide +kernel
theorem dX12_twins_15 : decode cX12_twins 15 = .ok (.aload_n 0, 1) := by decide +kernel
theorem dX12_twins_16 : decode cX12_twins 16 = .ok (.getfield 13, 3) := by decide +kernel
theorem dX12_twins_19 : decode cX12_twins 19 = .ok (.iload_n 1, 1) := by decide +kernel
theorem dX12_twins_20 : decode cX12_twins 20 = .ok (.iaload, 1) := by decide +kernel
theorem dX12_twins_21 : decode cX12_twins 21 = .ok (.aload_n 0, 1) := by decide +kernel
theorem dX12_twins_22 : decode cX12_twins 22 = .ok (.getfield 13, 3) := by decide +kernel
theorem dX12_twins_25 : decode cX12_twins 25 = .ok (.iload_n 2, 1) := by decide +kernel
theorem dX12_twins_26 : decode cX12_twins 26 = .ok (.iaload, 1) := by decide +kernel
theorem dX12_twins_27 : decode cX12_twins 27 = .ok (.if_icmp .ne 67, 3) := by decide +kernel
theorem dX12_twins_30 : decode cX12_twins 30 = .ok (.aload_n 0, 1) := by decide +kernel
theorem dX12_twins_31 : decode cX12_twins 31 = .ok (.getfield 16, 3) := by decide +kernel
theorem dX12_twins_34 : decode cX12_twins 34 = .ok (.iload_n 1, 1) := by decide +kernel
theorem dX12_twins_35 : decode cX12_twins 35 = .ok (.iaload, 1) := by decide +kernel
theorem dX12_twins_36 : decode cX12_twins 36 = .ok (.aload_n 0, 1) := by decide +kernel
theorem dX12_twins_37 : decode cX12_twins 37 = .ok (.getfield 16, 3) := by decide +kernel
theorem dX12_twins_40 : decode cX12_twins 40 = .ok (.iload_n 2, 1) := by decide +kernel
theorem dX12_twins_41 : decode cX12_twins 41 = .ok (.iaload, 1) := by decide +kernel
theorem dX12_twins_42 : decode cX12_twins 42 = .ok (.if_icmp .ne 52, 3) := by decide +kernel
theorem dX12_twins_45 : decode cX12_twins 45 = .ok (.aload_n 0, 1) := by decide +kernel
theorem dX12_twins_46 : decode cX12_twins 46 = .ok (.getfield 19, 3) := by decide +kernel
theorem dX12_twins_49 : decode cX12_twins 49 = .ok (.iload_n 1, 1) := by decide +kernel
theorem dX12_twins_50 : decode cX12_twins 50 = .ok (.iaload, 1) := by decide +kernel
theorem dX12_twins_51 : decode cX12_twins 51 = .ok (.aload_n 0, 1) := by decide +kernel
theorem dX12_twins_52 : decode cX12_twins 52 = .ok (.getfield 19, 3) := by decide +kernel
theorem dX12_twins_55 : decode cX12_twins 55 = .ok (.iload_n 2, 1) := by decide +kernel
theorem dX12_twins_56 : decode cX12_twins 56 = .ok (.iaload, 1) := by decide +kernel
theorem dX12_twins_57 : decode cX12_twins 57 = .ok (.if_icmp .ne 37, 3) := by decide +kernel
theorem dX12_twins_60 : decode cX12_twins 60 = .ok (.aload_n 0, 1) := by decide +kernel
theorem dX12_twins_61 : decode cX12_twins 61 = .ok (.getfield 22, 3) := by decide +kernel
theorem dX12_twins_64 : decode cX12_twins 64 = .ok (.iload_n 1, 1) := by decide +kernel
theorem dX12_twins_65 : decode cX12_twins 65 = .ok (.iaload, 1) := by decide +kernel
theorem dX12_twins_66 : decode cX12_twins 66 = .ok (.aload_n 0, 1) := by decide +kernel
theorem dX12_twins_67 : decode cX12_twins 67 = .ok (.getfield 22, 3) := by decide +kernel
theorem dX12_twins_70 : decode cX12_twins 70 = .ok (.iload_n 2, 1) := by decide +kernel
theorem dX12_twins_71 : decode cX12_twins 71 = .ok (.iaload, 1) := by decide +kernel
theorem dX12_twins_72 : decode cX12_twins 72 = .ok (.if_icmp .ne 22, 3) := by decide +kernel
theorem dX12_twins_75 : decode cX12_twins 75 = .ok (.aload_n 0, 1) := by decide +kernel
theorem dX12_twins_76 : decode cX12_twins 76 = .ok (.getfield 25, 3) := by decide +kernel
theorem dX12_twins_79 : decode cX12_twins 79 = .ok (.iload_n 1, 1) := by decide +kernel
theorem dX12_twins_80 : decode cX12_twins 80 = .ok (.iaload, 1) := by decide +kernel
theorem dX12_twins_81 : decode cX12_twins 81 = .ok (.aload_n 0, 1) := by decide +kernel
theorem dX12_twins_82 : decode cX12_twins 82 = .ok (.getfield 25, 3) := by decide +kernel
theorem dX12_twins_85 : decode cX12_twins 85 = .ok (.iload_n 2, 1) := by decide +kernel
theorem dX12_twins_86 : decode cX12_twins 86 = .ok (.iaload, 1) := by decide +kernel
theorem dX12_twins_87 : decode cX12_twins 87 = .ok (.if_icmp .ne 7, 3) := by decide +kernel
theorem dX12_twins_90 : decode cX12_twins 90 = .ok (.iconst 1, 1) := by decide +kernel
theorem dX12_twins_91 : decode cX12_twins 91 = .ok (.goto 4, 3) := by decide +kernel
theorem dX12_twins_94 : decode cX12_twins 94 = .ok (.iconst 0, 1) := by decide +kernel
theorem dX12_twins_95 : decode cX12_twins 95 = .ok (.istore_n 3, 1) := by decide +kernel
theorem dX12_twins_96 : decode cX12_twins 96 = .ok (.iload_n 3, 1) := by decide +kernel
theorem dX12_twins_97 : decode cX12_twins 97 = .ok (.ifCond .eq 38, 3) := by decide +kernel
theorem dX12_twins_100 : decode cX12_twins 100 = .ok (.aload_n 0, 1) := by decide +kernel
theorem dX12_twins_101 : decode cX12_twins 101 = .ok (.getfield 196, 3) := by decide +kernel
theorem dX12_twins_104 : decode cX12_twins 104 = .ok (.iload_n 1, 1) := by decide +kernel
theorem dX12_twins_105 : decode cX12_twins 105 = .ok (.iaload, 1) := by decide +kernel
theorem dX12_twins_106 : decode cX12_twins 106 = .ok (.aload_n 0, 1) := by decide +kernel
theorem dX12_twins_107 : decode cX12_twins 107 = .ok (.getfield 196, 3) := by decide +kernel
theorem dX12_twins_110 : decode cX12_twins 110 = .ok (.iload_n 2, 1) := by decide +kernel
theorem dX12_twins_111 : decode cX12_twins 111 = .ok (.iaload, 1) := by decide +kernel
theorem dX12_twins_112 : decode cX12_twins 112 = .ok (.if_icmp .ne 23, 3) := by decide +kernel
theorem dX12_twins_115 : decode cX12_twins 115 = .ok (.aload_n 0, 1) := by decide +kernel
theorem dX12_twins_116 : decode cX12_twins 116 = .ok (.iload_n 1, 1) := by decide +kernel
theorem dX12_twins_117 : decode cX12_twins 117 = .ok (.invokevirtual 444, 3) := by decide +kernel
theorem dX12_twins_120 : decode cX12_twins 120 = .ok (.ifCond .eq 15, 3) := by decide +kernel
theorem dX12_twins_123 : decode cX12_twins 123 = .ok (.aload_n 0, 1) := by decide +kernel
theorem dX12_twins_124 : decode cX12_twins 124 = .ok (.iload_n 2, 1) := by decide +kernel
theorem dX12_twins_125 : decode cX12_twins 125 = .ok (.invokevirtual 444, 3) := by decide +kernel
theorem dX12_twins_128 : decode cX12_twins 128 = .ok (.ifCond .eq 7, 3) := by decide +kernel
theorem dX12_twins_131 : decode cX12_twins 131 = .ok (.iconst 1, 1) := by decide +kernel
theorem dX12_twins_132 : decode cX12_twins 132 = .ok (.goto 4, 3) := by decide +kernel
theorem dX12_twins_135 : decode cX12_twins 135 = .ok (.iconst 0, 1) := by decide +kernel
theorem dX12_twins_136 : decode cX12_twins 136 = .ok (.ireturn, 1) := by decide +kernel
theorem dX12_ahead_0 : decode cX12_ahead 0 = .ok (.aload_n 0, 1) := by decide +kernel
theorem dX12_ahead_1 : decode cX12_ahead 1 = .ok (.iload_n 1, 1) := by decide +kernel
theorem dX12_ahead_2 : decode cX12_ahead 2 = .ok (.invokevirtual 248, 3) := by decide +kernel
theorem dX12_ahead_5 : decode cX12_ahead 5 = .ok (.iconst 1, 1) := by decide +kernel
theorem dX12_ahead_6 : decode cX12_ahead 6 = .ok (.isub, 1) := by decide +kernel
theorem dX12_ahead_7 : decode cX12_ahead 7 = .ok (.istore_n 2, 1) := by decide +kernel
theorem dX12_ahead_8 : decode cX12_ahead 8 = .ok (.iload_n 2, 1) := by decide +kernel
theorem dX12_ahead_9 : decode cX12_ahead 9 = .ok (.ifCond .ge 7, 3) := by decide +kernel
theorem dX12_ahead_12 : decode cX12_ahead 12 = .ok (.iconst (-1), 1) := by decide +kernel
theorem dX12_ahead_13 : decode cX12_ahead 13 = .ok (.goto 47, 3) := by decide +kernel
theorem dX12_ahead_16 : decode cX12_ahead 16 = .ok (.aload_n 0, 1) := by decide +kernel
theorem dX12_ahead_17 : decode cX12_ahead 17 = .ok (.getfield 28, 3) := by decide +kernel
theorem dX12_ahead_20 : decode cX12_ahead 20 = .ok (.iload_n 1, 1) := by decide +kernel
theorem dX12_ahead_21 : decode cX12_ahead 21 = .ok (.iaload, 1) := by decide +kernel
theorem dX12_ahead_22 : decode cX12_ahead 22 = .ok (.ifCond .lt 22, 3) := by decide +kernel
theorem dX12_ahead_25 : decode cX12_ahead 25 = .ok (.aload_n 0, 1) := by decide +kernel
theorem dX12_ahead_26 : decode cX12_ahead 26 = .ok (.getfield 37, 3) := by decide +kernel
theorem dX12_ahead_29 : decode cX12_ahead 29 = .ok (.bipush 30, 2) := by decide +kernel
theorem dX12_ahead_31 : decode cX12_ahead 31 = .ok (.aload_n 0, 1) := by decide +kernel
theorem dX12_ahead_32 : decode cX12_ahead 32 = .ok (.getfield 28, 3) := by decide +kernel
theorem dX12_ahead_35 : decode cX12_ahead 35 = .ok (.iload_n 1, 1) := by decide +kernel
theorem dX12_ahead_36 : decode cX12_ahead 36 = .ok (.iaload, 1) := by decide +kernel
theorem dX12_ahead_37 : decode cX12_ahead 37 = .ok (.imul, 1) := by decide +kernel
theorem dX12_ahead_38 : decode cX12_ahead 38 = .ok (.iload_n 2, 1) := by decide +kernel
theorem dX12_ahead_39 : decode cX12_ahead 39 = .ok (.iadd, 1) := by decide +kernel
theorem dX12_ahead_40 : decode cX12_ahead 40 = .ok (.iaload, 1) := by decide +kernel
theorem dX12_ahead_41 : decode cX12_ahead 41 = .ok (.goto 19, 3) := by decide +kernel
theorem dX12_ahead_44 : decode cX12_ahead 44 = .ok (.aload_n 0, 1) := by decide +kernel
theorem dX12_ahead_45 : decode cX12_ahead 45 = .ok (.getfield 43, 3) := by decide +kernel
theorem dX12_ahead_48 : decode cX12_ahead 48 = .ok (.bipush 30, 2) := by decide +kernel
theorem dX12_ahead_50 : decode cX12_ahead 50 = .ok (.aload_n 0, 1) := by decide +kernel
theorem dX12_ahead_51 : decode cX12_ahead 51 = .ok (.getfield 31, 3) := by decide +kernel
theorem dX12_ahead_54 : decode cX12_ahead 54 = .ok (.iload_n 1, 1) := by decide +kernel
theorem dX12_ahead_55 : decode cX12_ahead 55 = .ok (.iaload, 1) := by decide +kernel
theorem dX12_ahead_56 : decode cX12_ahead 56 = .ok (.imul, 1) := by decide +kernel
theorem dX12_ahead_57 : decode cX12_ahead 57 = .ok (.iload_n 2, 1) := by decide +kernel
theorem dX12_ahead_58 : decode cX12_ahead 58 = .ok (.iadd, 1) := by decide +kernel
theorem dX12_ahead_59 : decode cX12_ahead 59 = .ok (.iaload, 1) := by decide +kernel
theorem dX12_ahead_60 : decode cX12_ahead 60 = .ok (.ireturn, 1) := by decide +kernel
theorem dX12_flush_0 : decode cX12_flush 0 = .ok (.aload_n 0, 1) := by decide +kernel
theorem dX12_flush_1 : decode cX12_flush 1 = .ok (.invokevirtual 447, 3) := by decide +kernel
theorem dX12_flush_4 : decode cX12_flush 4 = .ok (.aload_n 0, 1) := by decide +kernel
theorem dX12_flush_5 : decode cX12_flush 5 = .ok (.invokevirtual 450, 3) := by decide +kernel
theorem dX12_flush_8 : decode cX12_flush 8 = .ok (.aload_n 0, 1) := by decide +kernel
theorem dX12_flush_9 : decode cX12_flush 9 = .ok (.invokevirtual 453, 3) := by decide +kernel
theorem dX12_flush_12 : decode cX12_flush 12 = .ok (.istore_n 1, 1) := by decide +kernel
theorem dX12_flush_13 : decode cX12_flush 13 = .ok (.iconst 0, 1) := by decide +kernel
theorem dX12_flush_14 : decode cX12_flush 14 = .ok (.istore_n 2, 1) := by decide +kernel
theorem dX12_flush_15 : decode cX12_flush 15 = .ok (.iconst 0, 1) := by decide +kernel
theorem dX12_flush_16 : decode cX12_flush 16 = .ok (.istore_n 3, 1) := by decide +kernel
theorem dX12_flush_17 : decode cX12_flush 17 = .ok (.iconst 0, 1) := by decide +kernel
theorem dX12_flush_18 : decode cX12_flush 18 = .ok (.istore 4, 2) := by decide +kernel
theorem dX12_flush_20 : decode cX12_flush 20 = .ok (.iconst 0, 1) := by decide +kernel
theorem dX12_flush_21 : decode cX12_flush 21 = .ok (.istore 5, 2) := by decide +kernel
theorem dX12_flush_23 : decode cX12_flush 23 = .ok (.iload 5, 2) := by decide +kernel
theorem dX12_flush_25 : decode cX12_flush 25 = .ok (.aload_n 0, 1) := by decide +kernel
theorem dX12_flush_26 : decode cX12_flush 26 = .ok (.getfield 217, 3) := by decide +kernel
theorem dX12_flush_29 : decode cX12_flush 29 = .ok (.if_icmp .ge 59, 3) := by decide +kernel
theorem dX12_flush_32 : decode cX12_flush 32 = .ok (.iconst 0, 1) := by decide +kernel
theorem dX12_flush_33 : decode cX12_flush 33 = .ok (.istore 6, 2) := by decide +kernel
theorem dX12_flush_35 : decode cX12_flush 35 = .ok (.iload 6, 2) := by decide +kernel
theorem dX12_flush_37 : decode cX12_flush 37 = .ok (.iconst 5, 1) := by decide +kernel
theorem dX12_flush_38 : decode cX12_flush 38 = .ok (.if_icmp .ge 44, 3) := by decide +kernel
theorem dX12_flush_41 : decode cX12_flush 41 = .ok (.aload_n 0, 1) := by decide +kernel
theorem dX12_flush_42 : decode cX12_flush 42 = .ok (.iload_n 1, 1) := by decide +kernel
theorem dX12_flush_43 : decode cX12_flush 43 = .ok (.aload_n 0, 1) := by decide +kernel
theorem dX12_flush_44 : decode cX12_flush 44 = .ok (.getfield 431, 3) := by decide +kernel
theorem dX12_flush_47 : decode cX12_flush 47 = .ok (.iand, 1) := by decide +kernel
theorem dX12_flush_48 : decode cX12_flush 48 = .ok (.iload 5, 2) := by decide +kernel
theorem dX12_flush_50 : decode cX12_flush 50 = .ok (.invokevirtual 288, 3) := by decide +kernel
theorem dX12_flush_53 : decode cX12_flush 53 = .ok (.ifCond .eq 29, 3) := by decide +kernel
theorem dX12_flush_56 : decode cX12_flush 56 = .ok (.aload_n 0, 1) := by decide +kernel
theorem dX12_flush_57 : decode cX12_flush 57 = .ok (.getfield 214, 3) := by decide +kernel
theorem dX12_flush_60 : decode cX12_flush 60 = .ok (.iconst 5, 1) := by decide +kernel
theorem dX12_flush_61 : decode cX12_flush 61 = .ok (.iload 5, 2) := by decide +kernel
theorem dX12_flush_63 : decode cX12_flush 63 = .ok (.imul, 1) := by decide +kernel
theorem dX12_flush_64 : decode cX12_flush 64 = .ok (.iload 6, 2) := by decide +kernel
theorem dX12_flush_66 : decode cX12_flush 66 = .ok (.iadd, 1) := by decide +kernel
theorem dX12_flush_67 : decode cX12_flush 67 = .ok (.aload_n 0, 1) := by decide +kernel
theorem dX12_flush_68 : decode cX12_flush 68 = .ok (.iload 5, 2) := by decide +kernel
theorem dX12_flush_70 : decode cX12_flush 70 = .ok (.iload 6, 2) := by decide +kernel
theorem dX12_flush_72 : decode cX12_flush 72 = .ok (.invokevirtual 457, 3) := by decide +kernel
theorem dX12_flush_75 : decode cX12_flush 75 = .ok (.iastore, 1) := by decide +kernel
theorem dX12_flush_76 : decode cX12_flush 76 = .ok (.iinc 6 1, 3) := by decide +kernel
theorem dX12_flush_79 : decode cX12_flush 79 = .ok (.goto (-44), 3) := by decide +kernel
theorem dX12_flush_82 : decode cX12_flush 82 = .ok (.iinc 5 1, 3) := by decide +kernel
theorem dX12_flush_85 : decode cX12_flush 85 = .ok (.goto (-62), 3) := by decide +kernel
theorem dX12_flush_88 : decode cX12_flush 88 = .ok (.iconst 0, 1) := by decide +kernel
theorem dX12_flush_89 : decode cX12_flush 89 = .ok (.istore 5, 2) := by decide +kernel
theorem dX12_flush_91 : decode cX12_flush 91 = .ok (.iload 5, 2) := by decide +kernel
theorem dX12_flush_93 : decode cX12_flush 93 = .ok (.aload_n 0, 1) := by decide +kernel
theorem dX12_flush_94 : decode cX12_flush 94 = .ok (.getfield 441, 3) := by decide +kernel
theorem dX12_flush_97 : decode cX12_flush 97 = .ok (.if_icmp .ge 17, 3) := by decide +kernel
theorem dX12_flush_100 : decode cX12_flush 100 = .ok (.aload_n 0, 1) := by decide +kernel
theorem dX12_flush_101 : decode cX12_flush 101 = .ok (.getfield 184, 3) := by decide +kernel
theorem dX12_flush_104 : decode cX12_flush 104 = .ok (.iload 5, 2) := by decide +kernel
theorem dX12_flush_106 : decode cX12_flush 106 = .ok (.iconst 0, 1) := by decide +kernel
theorem dX12_flush_107 : decode cX12_flush 107 = .ok (.iastore, 1) := by decide +kernel
theorem dX12_flush_108 : decode cX12_flush 108 = .ok (.iinc 5 1, 3) := by decide +kernel
theorem dX12_flush_111 : decode cX12_flush 111 = .ok (.goto (-20), 3) := by decide +kernel
theorem dX12_flush_114 : decode cX12_flush 114 = .ok (.iconst 0, 1) := by decide +kernel
theorem dX12_flush_115 : decode cX12_flush 115 = .ok (.istore 5, 2) := by decide +kernel
theorem dX12_flush_117 : decode cX12_flush 117 = .ok (.iload 5, 2) := by decide +kernel
theorem dX12_flush_119 : decode cX12_flush 119 = .ok (.aload_n 0, 1) := by decide +kernel
theorem dX12_flush_120 : decode cX12_flush 120 = .ok (.getfield 271, 3) := by decide +kernel
theorem dX12_flush_123 : decode cX12_flush 123 = .ok (.if_icmp .ge 192, 3) := by decide +kernel
theorem dX12_flush_126 : decode cX12_flush 126 = .ok (.aload_n 0, 1) := by decide +kernel
theorem dX12_flush_127 : decode cX12_flush 127 = .ok (.getfield 193, 3) := by decide +kernel
theorem dX12_flush_130 : decode cX12_flush 130 = .ok (.iload 5, 2) := by decide +kernel
theorem dX12_flush_132 : decode cX12_flush 132 = .ok (.iaload, 1) := by decide +kernel
theorem dX12_flush_133 : decode cX12_flush 133 = .ok (.istore 6, 2) := by decide +kernel
theorem dX12_flush_135 : decode cX12_flush 135 = .ok (.iload 4, 2) := by decide +kernel
theorem dX12_flush_137 : decode cX12_flush 137 = .ok (.aload_n 0, 1) := by decide +kernel
theorem dX12_flush_138 : decode cX12_flush 138 = .ok (.getfield 196, 3) := by decide +kernel
theorem dX12_flush_141 : decode cX12_flush 141 = .ok (.iload 6, 2) := by decide +kernel
theorem dX12_flush_143 : decode cX12_flush 143 = .ok (.iaload, 1) := by decide +kernel
theorem dX12_flush_144 : decode cX12_flush 144 = .ok (.ifCond .lt 28, 3) := by decide +kernel
theorem dX12_flush_147 : decode cX12_flush 147 = .ok (.aload_n 0, 1) := by decide +kernel
theorem dX12_flush_148 : decode cX12_flush 148 = .ok (.iload_n 3, 1) := by decide +kernel
theorem dX12_flush_149 : decode cX12_flush 149 = .ok (.iload 4, 2) := by decide +kernel
theorem dX12_flush_151 : decode cX12_flush 151 = .ok (.ior, 1) := by decide +kernel
theorem dX12_flush_152 : decode cX12_flush 152 = .ok (.aload_n 0, 1) := by decide +kernel
theorem dX12_flush_153 : decode cX12_flush 153 = .ok (.getfield 196, 3) := by decide +kernel
theorem dX12_flush_156 : decode cX12_flush 156 = .ok (.iload 6, 2) := by decide +kernel
theorem dX12_flush_158 : decode cX12_flush 158 = .ok (.iaload, 1) := by decide +kernel
theorem dX12_flush_159 : decode cX12_flush 159 = .ok (.invokevirtual 288, 3) := by decide +kernel
theorem dX12_flush_162 : decode cX12_flush 162 = .ok (.ifCond .eq 10, 3) := by decide +kernel
theorem dX12_flush_165 : decode cX12_flush 165 = .ok (.iconst 1, 1) := by decide +kernel
theorem dX12_flush_166 : decode cX12_flush 166 = .ok (.iload 6, 2) := by decide +kernel
theorem dX12_flush_168 : decode cX12_flush 168 = .ok (.ishl, 1) := by decide +kernel
theorem dX12_flush_169 : decode cX12_flush 169 = .ok (.goto 4, 3) := by decide +kernel
theorem dX12_flush_172 : decode cX12_flush 172 = .ok (.iconst 0, 1) := by decide +kernel
theorem dX12_flush_173 : decode cX12_flush 173 = .ok (.ior, 1) := by decide +kernel
theorem dX12_flush_174 : decode cX12_flush 174 = .ok (.istore 4, 2) := by decide +kernel
theorem dX12_flush_176 : decode cX12_flush 176 = .ok (.aload_n 0, 1) := by decide +kernel
theorem dX12_flush_177 : decode cX12_flush 177 = .ok (.aload_n 0, 1) := by decide +kernel
theorem dX12_flush_178 : decode cX12_flush 178 = .ok (.getfield 460, 3) := by decide +kernel
theorem dX12_flush_181 : decode cX12_flush 181 = .ok (.aload_n 0, 1) := by decide +kernel
theorem dX12_flush_182 : decode cX12_flush 182 = .ok (.getfield 431, 3) := by decide +kernel
theorem dX12_flush_185 : decode cX12_flush 185 = .ok (.iconst (-1), 1) := by decide +kernel
theorem dX12_flush_186 : decode cX12_flush 186 = .ok (.ixor, 1) := by decide +kernel
theorem dX12_flush_187 : decode cX12_flush 187 = .ok (.ior, 1) := by decide +kernel
theorem dX12_flush_188 : decode cX12_flush 188 = .ok (.iload 4, 2) := by decide +kernel
theorem dX12_flush_190 : decode cX12_flush 190 = .ok (.ior, 1) := by decide +kernel
theorem dX12_flush_191 : decode cX12_flush 191 = .ok (.iload 6, 2) := by decide +kernel
theorem dX12_flush_193 : decode cX12_flush 193 = .ok (.invokevirtual 288, 3) := by decide +kernel
theorem dX12_flush_196 : decode cX12_flush 196 = .ok (.ifCond .eq 56, 3) := by decide +kernel
theorem dX12_flush_199 : decode cX12_flush 199 = .ok (.iload_n 3, 1) := by decide +kernel
theorem dX12_flush_200 : decode cX12_flush 200 = .ok (.aload_n 0, 1) := by decide +kernel
theorem dX12_flush_201 : decode cX12_flush 201 = .ok (.iload 6, 2) := by decide +kernel
theorem dX12_flush_203 : decode cX12_flush 203 = .ok (.invokevirtual 463, 3) := by decide +kernel
theorem dX12_flush_206 : decode cX12_flush 206 = .ok (.ifCond .eq 10, 3) := by decide +kernel
theorem dX12_flush_209 : decode cX12_flush 209 = .ok (.iconst 1, 1) := by decide +kernel
theorem dX12_flush_210 : decode cX12_flush 210 = .ok (.iload 6, 2) := by decide +kernel
theorem dX12_flush_212 : decode cX12_flush 212 = .ok (.ishl, 1) := by decide +kernel
theorem dX12_flush_213 : decode cX12_flush 213 = .ok (.goto 4, 3) := by decide +kernel
theorem dX12_flush_216 : decode cX12_flush 216 = .ok (.iconst 0, 1) := by decide +kernel
theorem dX12_flush_217 : decode cX12_flush 217 = .ok (.ior, 1) := by decide +kernel
theorem dX12_flush_218 : decode cX12_flush 218 = .ok (.istore_n 3, 1) := by decide +kernel
theorem dX12_flush_219 : decode cX12_flush 219 = .ok (.iload_n 2, 1) := by decide +kernel
theorem dX12_flush_220 : decode cX12_flush 220 = .ok (.iconst 1, 1) := by decide +kernel
theorem dX12_flush_221 : decode cX12_flush 221 = .ok (.iload 6, 2) := by decide +kernel
theorem dX12_flush_223 : decode cX12_flush 223 = .ok (.ishl, 1) := by decide +kernel
theorem dX12_flush_224 : decode cX12_flush 224 = .ok (.ior, 1) := by decide +kernel
theorem dX12_flush_225 : decode cX12_flush 225 = .ok (.istore_n 2, 1) := by decide +kernel
theorem dX12_flush_226 : decode cX12_flush 226 = .ok (.aload_n 0, 1) := by decide +kernel
theorem dX12_flush_227 : decode cX12_flush 227 = .ok (.dup, 1) := by decide +kernel
theorem dX12_flush_228 : decode cX12_flush 228 = .ok (.getfield 431, 3) := by decide +kernel
theorem dX12_flush_231 : decode cX12_flush 231 = .ok (.iconst 1, 1) := by decide +kernel
theorem dX12_flush_232 : decode cX12_flush 232 = .ok (.iload 6, 2) := by decide +kernel
theorem dX12_flush_234 : decode cX12_flush 234 = .ok (.ishl, 1) := by decide +kernel
theorem dX12_flush_235 : decode cX12_flush 235 = .ok (.ior, 1) := by decide +kernel
theorem dX12_flush_236 : decode cX12_flush 236 = .ok (.putfield 431, 3) := by decide +kernel
theorem dX12_flush_239 : decode cX12_flush 239 = .ok (.aload_n 0, 1) := by decide +kernel
theorem dX12_flush_240 : decode cX12_flush 240 = .ok (.dup, 1) := by decide +kernel
theorem dX12_flush_241 : decode cX12_flush 241 = .ok (.getfield 466, 3) := by decide +kernel
theorem dX12_flush_244 : decode cX12_flush 244 = .ok (.iconst 1, 1) := by decide +kernel
theorem dX12_flush_245 : decode cX12_flush 245 = .ok (.iadd, 1) := by decide +kernel
theorem dX12_flush_246 : decode cX12_flush 246 = .ok (.putfield 466, 3) := by decide +kernel
theorem dX12_flush_249 : decode cX12_flush 249 = .ok (.goto 60, 3) := by decide +kernel
theorem dX12_flush_252 : decode cX12_flush 252 = .ok (.aload_n 0, 1) := by decide +kernel
theorem dX12_flush_253 : decode cX12_flush 253 = .ok (.getfield 127, 3) := by decide +kernel
theorem dX12_flush_256 : decode cX12_flush 256 = .ok (.bipush 12, 2) := by decide +kernel
theorem dX12_flush_258 : decode cX12_flush 258 = .ok (.iload 6, 2) := by decide +kernel
theorem dX12_flush_260 : decode cX12_flush 260 = .ok (.imul, 1) := by decide +kernel
theorem dX12_flush_261 : decode cX12_flush 261 = .ok (.bipush 6, 2) := by decide +kernel
theorem dX12_flush_263 : decode cX12_flush 263 = .ok (.iadd, 1) := by decide +kernel
theorem dX12_flush_264 : decode cX12_flush 264 = .ok (.iaload, 1) := by decide +kernel
theorem dX12_flush_265 : decode cX12_flush 265 = .ok (.ifCond .le 44, 3) := by decide +kernel
theorem dX12_flush_268 : decode cX12_flush 268 = .ok (.aload_n 0, 1) := by decide +kernel
theorem dX12_flush_269 : decode cX12_flush 269 = .ok (.iload 6, 2) := by decide +kernel
theorem dX12_flush_271 : decode cX12_flush 271 = .ok (.iconst 0, 1) := by decide +kernel
theorem dX12_flush_272 : decode cX12_flush 272 = .ok (.invokevirtual 434, 3) := by decide +kernel
theorem dX12_flush_275 : decode cX12_flush 275 = .ok (.istore 7, 2) := by decide +kernel
theorem dX12_flush_277 : decode cX12_flush 277 = .ok (.iload_n 3, 1) := by decide +kernel
theorem dX12_flush_278 : decode cX12_flush 278 = .ok (.iload 7, 2) := by decide +kernel
theorem dX12_flush_280 : decode cX12_flush 280 = .ok (.aload_n 0, 1) := by decide +kernel
theorem dX12_flush_281 : decode cX12_flush 281 = .ok (.getfield 136, 3) := by decide +kernel
theorem dX12_flush_284 : decode cX12_flush 284 = .ok (.iload 6, 2) := by decide +kernel
theorem dX12_flush_286 : decode cX12_flush 286 = .ok (.iaload, 1) := by decide +kernel
theorem dX12_flush_287 : decode cX12_flush 287 = .ok (.if_icmp .ne 7, 3) := by decide +kernel
theorem dX12_flush_290 : decode cX12_flush 290 = .ok (.iconst 0, 1) := by decide +kernel
theorem dX12_flush_291 : decode cX12_flush 291 = .ok (.goto 7, 3) := by decide +kernel
theorem dX12_flush_294 : decode cX12_flush 294 = .ok (.iconst 1, 1) := by decide +kernel
theorem dX12_flush_295 : decode cX12_flush 295 = .ok (.iload 6, 2) := by decide +kernel
theorem dX12_flush_297 : decode cX12_flush 297 = .ok (.ishl, 1) := by decide +kernel
theorem dX12_flush_298 : decode cX12_flush 298 = .ok (.ior, 1) := by decide +kernel
theorem dX12_flush_299 : decode cX12_flush 299 = .ok (.istore_n 3, 1) := by decide +kernel
theorem dX12_flush_300 : decode cX12_flush 300 = .ok (.aload_n 0, 1) := by decide +kernel
theorem dX12_flush_301 : decode cX12_flush 301 = .ok (.getfield 136, 3) := by decide +kernel
theorem dX12_flush_304 : decode cX12_flush 304 = .ok (.iload 6, 2) := by decide +kernel
theorem dX12_flush_306 : decode cX12_flush 306 = .ok (.iload 7, 2) := by decide +kernel
theorem dX12_flush_308 : decode cX12_flush 308 = .ok (.iastore, 1) := by decide +kernel
theorem dX12_flush_309 : decode cX12_flush 309 = .ok (.iinc 5 1, 3) := by decide +kernel
theorem dX12_flush_312 : decode cX12_flush 312 = .ok (.goto (-195), 3) := by decide +kernel
theorem dX12_flush_315 : decode cX12_flush 315 = .ok (.iconst 0, 1) := by decide +kernel
theorem dX12_flush_316 : decode cX12_flush 316 = .ok (.istore 5, 2) := by decide +kernel
theorem dX12_flush_318 : decode cX12_flush 318 = .ok (.iload 5, 2) := by decide +kernel
theorem dX12_flush_320 : decode cX12_flush 320 = .ok (.aload_n 0, 1) := by decide +kernel
theorem dX12_flush_321 : decode cX12_flush 321 = .ok (.getfield 271, 3) := by decide +kernel
theorem dX12_flush_324 : decode cX12_flush 324 = .ok (.if_icmp .ge 83, 3) := by decide +kernel
theorem dX12_flush_327 : decode cX12_flush 327 = .ok (.aload_n 0, 1) := by decide +kernel
theorem dX12_flush_328 : decode cX12_flush 328 = .ok (.invokevirtual 469, 3) := by decide +kernel
theorem dX12_flush_331 : decode cX12_flush 331 = .ok (.ifCond .ne 76, 3) := by decide +kernel
theorem dX12_flush_334 : decode cX12_flush 334 = .ok (.aload_n 0, 1) := by decide +kernel
theorem dX12_flush_335 : decode cX12_flush 335 = .ok (.getfield 193, 3) := by decide +kernel
theorem dX12_flush_338 : decode cX12_flush 338 = .ok (.iload 5, 2) := by decide +kernel
theorem dX12_flush_340 : decode cX12_flush 340 = .ok (.iaload, 1) := by decide +kernel
theorem dX12_flush_341 : decode cX12_flush 341 = .ok (.istore 6, 2) := by decide +kernel
theorem dX12_flush_343 : decode cX12_flush 343 = .ok (.aload_n 0, 1) := by decide +kernel
theorem dX12_flush_344 : decode cX12_flush 344 = .ok (.iload 6, 2) := by decide +kernel
theorem dX12_flush_346 : decode cX12_flush 346 = .ok (.invokevirtual 472, 3) := by decide +kernel
theorem dX12_flush_349 : decode cX12_flush 349 = .ok (.istore 7, 2) := by decide +kernel
theorem dX12_flush_351 : decode cX12_flush 351 = .ok (.aload_n 0, 1) := by decide +kernel
theorem dX12_flush_352 : decode cX12_flush 352 = .ok (.dup, 1) := by decide +kernel
theorem dX12_flush_353 : decode cX12_flush 353 = .ok (.getfield 475, 3) := by decide +kernel
theorem dX12_flush_356 : decode cX12_flush 356 = .ok (.aload_n 0, 1) := by decide +kernel
theorem dX12_flush_357 : decode cX12_flush 357 = .ok (.iload_n 2, 1) := by decide +kernel
theorem dX12_flush_358 : decode cX12_flush 358 = .ok (.iload 6, 2) := by decide +kernel
theorem dX12_flush_360 : decode cX12_flush 360 = .ok (.invokevirtual 288, 3) := by decide +kernel
theorem dX12_flush_363 : decode cX12_flush 363 = .ok (.ifCond .eq 33, 3) := by decide +kernel
theorem dX12_flush_366 : decode cX12_flush 366 = .ok (.iload 7, 2) := by decide +kernel
theorem dX12_flush_368 : decode cX12_flush 368 = .ok (.ifCond .lt 28, 3) := by decide +kernel
theorem dX12_flush_371 : decode cX12_flush 371 = .ok (.aload_n 0, 1) := by decide +kernel
theorem dX12_flush_372 : decode cX12_flush 372 = .ok (.iload_n 2, 1) := by decide +kernel
theorem dX12_flush_373 : decode cX12_flush 373 = .ok (.iload 7, 2) := by decide +kernel
theorem dX12_flush_375 : decode cX12_flush 375 = .ok (.invokevirtual 288, 3) := by decide +kernel
theorem dX12_flush_378 : decode cX12_flush 378 = .ok (.ifCond .eq 18, 3) := by decide +kernel
theorem dX12_flush_381 : decode cX12_flush 381 = .ok (.aload_n 0, 1) := by decide +kernel
theorem dX12_flush_382 : decode cX12_flush 382 = .ok (.iload 6, 2) := by decide +kernel
theorem dX12_flush_384 : decode cX12_flush 384 = .ok (.iload 7, 2) := by decide +kernel
theorem dX12_flush_386 : decode cX12_flush 386 = .ok (.invokevirtual 478, 3) := by decide +kernel
theorem dX12_flush_389 : decode cX12_flush 389 = .ok (.ifCond .eq 7, 3) := by decide +kernel
theorem dX12_flush_392 : decode cX12_flush 392 = .ok (.iconst 1, 1) := by decide +kernel
theorem dX12_flush_393 : decode cX12_flush 393 = .ok (.goto 4, 3) := by decide +kernel
theorem dX12_flush_396 : decode cX12_flush 396 = .ok (.iconst 0, 1) := by decide +kernel
theorem dX12_flush_397 : decode cX12_flush 397 = .ok (.iadd, 1) := by decide +kernel
theorem dX12_flush_398 : decode cX12_flush 398 = .ok (.putfield 475, 3) := by decide +kernel
theorem dX12_flush_401 : decode cX12_flush 401 = .ok (.iinc 5 1, 3) := by decide +kernel
theorem dX12_flush_404 : decode cX12_flush 404 = .ok (.goto (-86), 3) := by decide +kernel
theorem dX12_flush_407 : decode cX12_flush 407 = .ok (.aload_n 0, 1) := by decide +kernel
theorem dX12_flush_408 : decode cX12_flush 408 = .ok (.iconst 0, 1) := by decide +kernel
theorem dX12_flush_409 : decode cX12_flush 409 = .ok (.putfield 460, 3) := by decide +kernel
theorem dX12_flush_412 : decode cX12_flush 412 = .ok (.aload_n 0, 1) := by decide +kernel
theorem dX12_flush_413 : decode cX12_flush 413 = .ok (.dup, 1) := by decide +kernel
theorem dX12_flush_414 : decode cX12_flush 414 = .ok (.getfield 481, 3) := by decide +kernel
theorem dX12_flush_417 : decode cX12_flush 417 = .ok (.iconst 1, 1) := by decide +kernel
theorem dX12_flush_418 : decode cX12_flush 418 = .ok (.iadd, 1) := by decide +kernel
theorem dX12_flush_419 : decode cX12_flush 419 = .ok (.putfield 481, 3) := by decide +kernel
theorem dX12_flush_422 : decode cX12_flush 422 = .ok (.return_, 1) := by decide +kernel
theorem dX12_needs_0 : decode cX12_needs 0 = .ok (.aload_n 0, 1) := by decide +kernel
theorem dX12_needs_1 : decode cX12_needs 1 = .ok (.invokevirtual 453, 3) := by decide +kernel
theorem dX12_needs_4 : decode cX12_needs 4 = .ok (.aload_n 0, 1) := by decide +kernel
theorem dX12_needs_5 : decode cX12_needs 5 = .ok (.getfield 460, 3) := by decide +kernel
theorem dX12_needs_8 : decode cX12_needs 8 = .ok (.aload_n 0, 1) := by decide +kernel
theorem dX12_needs_9 : decode cX12_needs 9 = .ok (.getfield 431, 3) := by decide +kernel
theorem dX12_needs_12 : decode cX12_needs 12 = .ok (.iconst (-1), 1) := by decide +kernel
theorem dX12_needs_13 : decode cX12_needs 13 = .ok (.ixor, 1) := by decide +kernel
theorem dX12_needs_14 : decode cX12_needs 14 = .ok (.ior, 1) := by decide +kernel
theorem dX12_needs_15 : decode cX12_needs 15 = .ok (.iand, 1) := by decide +kernel
theorem dX12_needs_16 : decode cX12_needs 16 = .ok (.ifCond .eq 7, 3) := by decide +kernel
theorem dX12_needs_19 : decode cX12_needs 19 = .ok (.iconst 1, 1) := by decide +kernel
theorem dX12_needs_20 : decode cX12_needs 20 = .ok (.goto 4, 3) := by decide +kernel
theorem dX12_needs_23 : decode cX12_needs 23 = .ok (.iconst 0, 1) := by decide +kernel
theorem dX12_needs_24 : decode cX12_needs 24 = .ok (.ireturn, 1) := by decide +kernel
theorem dX12_mark_0 : decode cX12_mark 0 = .ok (.aload_n 0, 1) := by decide +kernel
theorem dX12_mark_1 : decode cX12_mark 1 = .ok (.dup, 1) := by decide +kernel
theorem dX12_mark_2 : decode cX12_mark 2 = .ok (.getfield 460, 3) := by decide +kernel
theorem dX12_mark_5 : decode cX12_mark 5 = .ok (.iload_n 1, 1) := by decide +kernel
theorem dX12_mark_6 : decode cX12_mark 6 = .ok (.aload_n 0, 1) := by decide +kernel
theorem dX12_mark_7 : decode cX12_mark 7 = .ok (.invokevirtual 453, 3) := by decide +kernel
theorem dX12_mark_10 : decode cX12_mark 10 = .ok (.iand, 1) := by decide +kernel
theorem dX12_mark_11 : decode cX12_mark 11 = .ok (.ior, 1) := by decide +kernel
theorem dX12_mark_12 : decode cX12_mark 12 = .ok (.putfield 460, 3) := by decide +kernel
theorem dX12_mark_15 : decode cX12_mark 15 = .ok (.return_, 1) := by decide +kernel
theorem dX12_markTest_0 : decode cX12_markTest 0 = .ok (.iconst 0, 1) := by decide +kernel
theorem dX12_markTest_1 : decode cX12_markTest 1 = .ok (.istore_n 3, 1) := by decide +kernel
theorem dX12_markTest_2 : decode cX12_markTest 2 = .ok (.iconst 0, 1) := by decide +kernel
theorem dX12_markTest_3 : decode cX12_markTest 3 = .ok (.istore 4, 2) := by decide +kernel
theorem dX12_markTest_5 : decode cX12_markTest 5 = .ok (.iconst 0, 1) := by decide +kernel
theorem dX12_markTest_6 : decode cX12_markTest 6 = .ok (.istore 5, 2) := by decide +kernel
theorem dX12_markTest_8 : decode cX12_markTest 8 = .ok (.iload 5, 2) := by decide +kernel
theorem dX12_markTest_10 : decode cX12_markTest 10 = .ok (.aload_n 0, 1) := by decide +kernel
theorem dX12_markTest_11 : decode cX12_markTest 11 = .ok (.getfield 325, 3) := by decide +kernel
theorem dX12_markTest_14 : decode cX12_markTest 14 = .ok (.if_icmp .ge 45, 3) := by decide +kernel
theorem dX12_markTest_17 : decode cX12_markTest 17 = .ok (.iload_n 3, 1) := by decide +kernel
theorem dX12_markTest_18 : decode cX12_markTest 18 = .ok (.aload_n 0, 1) := by decide +kernel
theorem dX12_markTest_19 : decode cX12_markTest 19 = .ok (.getfield 76, 3) := by decide +kernel
theorem dX12_markTest_22 : decode cX12_markTest 22 = .ok (.aload_n 0, 1) := by decide +kernel
theorem dX12_markTest_23 : decode cX12_markTest 23 = .ok (.getfield 100, 3) := by decide +kernel
theorem dX12_markTest_26 : decode cX12_markTest 26 = .ok (.iload 5, 2) := by decide +kernel
theorem dX12_markTest_28 : decode cX12_markTest 28 = .ok (.iaload, 1) := by decide +kernel
theorem dX12_markTest_29 : decode cX12_markTest 29 = .ok (.iaload, 1) := by decide +kernel
theorem dX12_markTest_30 : decode cX12_markTest 30 = .ok (.iload_n 2, 1) := by decide +kernel
theorem dX12_markTest_31 : decode cX12_markTest 31 = .ok (.iand, 1) := by decide +kernel
theorem dX12_markTest_32 : decode cX12_markTest 32 = .ok (.ior, 1) := by decide +kernel
theorem dX12_markTest_33 : decode cX12_markTest 33 = .ok (.istore_n 3, 1) := by decide +kernel
theorem dX12_markTest_34 : decode cX12_markTest 34 = .ok (.iload 4, 2) := by decide +kernel
theorem dX12_markTest_36 : decode cX12_markTest 36 = .ok (.aload_n 0, 1) := by decide +kernel
theorem dX12_markTest_37 : decode cX12_markTest 37 = .ok (.getfield 79, 3) := by decide +kernel
theorem dX12_markTest_40 : decode cX12_markTest 40 = .ok (.aload_n 0, 1) := by decide +kernel
theorem dX12_markTest_41 : decode cX12_markTest 41 = .ok (.getfield 100, 3) := by decide +kernel
theorem dX12_markTest_44 : decode cX12_markTest 44 = .ok (.iload 5, 2) := by decide +kernel
theorem dX12_markTest_46 : decode cX12_markTest 46 = .ok (.iaload, 1) := by decide +kernel
theorem dX12_markTest_47 : decode cX12_markTest 47 = .ok (.iaload, 1) := by decide +kernel
theorem dX12_markTest_48 : decode cX12_markTest 48 = .ok (.iload_n 2, 1) := by decide +kernel
theorem dX12_markTest_49 : decode cX12_markTest 49 = .ok (.iand, 1) := by decide +kernel
theorem dX12_markTest_50 : decode cX12_markTest 50 = .ok (.ior, 1) := by decide +kernel
theorem dX12_markTest_51 : decode cX12_markTest 51 = .ok (.istore 4, 2) := by decide +kernel
theorem dX12_markTest_53 : decode cX12_markTest 53 = .ok (.iinc 5 1, 3) := by decide +kernel
theorem dX12_markTest_56 : decode cX12_markTest 56 = .ok (.goto (-48), 3) := by decide +kernel
theorem dX12_markTest_59 : decode cX12_markTest 59 = .ok (.aload_n 0, 1) := by decide +kernel
theorem dX12_markTest_60 : decode cX12_markTest 60 = .ok (.iload_n 3, 1) := by decide +kernel
theorem dX12_markTest_61 : decode cX12_markTest 61 = .ok (.ifCond .eq 9, 3) := by decide +kernel
theorem dX12_markTest_64 : decode cX12_markTest 64 = .ok (.iconst 1, 1) := by decide +kernel
theorem dX12_markTest_65 : decode cX12_markTest 65 = .ok (.iload_n 1, 1) := by decide +kernel
theorem dX12_markTest_66 : decode cX12_markTest 66 = .ok (.ishl, 1) := by decide +kernel
theorem dX12_markTest_67 : decode cX12_markTest 67 = .ok (.goto 4, 3) := by decide +kernel
theorem dX12_markTest_70 : decode cX12_markTest 70 = .ok (.iconst 0, 1) := by decide +kernel
theorem dX12_markTest_71 : decode cX12_markTest 71 = .ok (.invokevirtual 497, 3) := by decide +kernel
theorem dX12_markTest_74 : decode cX12_markTest 74 = .ok (.aload_n 0, 1) := by decide +kernel
theorem dX12_markTest_75 : decode cX12_markTest 75 = .ok (.iload_n 1, 1) := by decide +kernel
theorem dX12_markTest_76 : decode cX12_markTest 76 = .ok (.invokevirtual 242, 3) := by decide +kernel
theorem dX12_markTest_79 : decode cX12_markTest 79 = .ok (.istore 5, 2) := by decide +kernel
theorem dX12_markTest_81 : decode cX12_markTest 81 = .ok (.iconst 0, 1) := by decide +kernel
theorem dX12_markTest_82 : decode cX12_markTest 82 = .ok (.istore 6, 2) := by decide +kernel
theorem dX12_markTest_84 : decode cX12_markTest 84 = .ok (.iload 6, 2) := by decide +kernel
theorem dX12_markTest_86 : decode cX12_markTest 86 = .ok (.aload_n 0, 1) := by decide +kernel
theorem dX12_markTest_87 : decode cX12_markTest 87 = .ok (.getfield 217, 3) := by decide +kernel
theorem dX12_markTest_90 : decode cX12_markTest 90 = .ok (.if_icmp .ge 90, 3) := by decide +kernel
theorem dX12_markTest_93 : decode cX12_markTest 93 = .ok (.iload 4, 2) := by decide +kernel
theorem dX12_markTest_95 : decode cX12_markTest 95 = .ok (.ifCond .eq 85, 3) := by decide +kernel
theorem dX12_markTest_98 : decode cX12_markTest 98 = .ok (.aload_n 0, 1) := by decide +kernel
theorem dX12_markTest_99 : decode cX12_markTest 99 = .ok (.iload 6, 2) := by decide +kernel
theorem dX12_markTest_101 : decode cX12_markTest 101 = .ok (.invokevirtual 242, 3) := by decide +kernel
theorem dX12_markTest_104 : decode cX12_markTest 104 = .ok (.istore 7, 2) := by decide +kernel
theorem dX12_markTest_106 : decode cX12_markTest 106 = .ok (.iload 7, 2) := by decide +kernel
theorem dX12_markTest_108 : decode cX12_markTest 108 = .ok (.ifCond .lt 25, 3) := by decide +kernel
theorem dX12_markTest_111 : decode cX12_markTest 111 = .ok (.iload 5, 2) := by decide +kernel
theorem dX12_markTest_113 : decode cX12_markTest 113 = .ok (.bipush (-2), 2) := by decide +kernel
theorem dX12_markTest_115 : decode cX12_markTest 115 = .ok (.if_icmp .le 18, 3) := by decide +kernel
theorem dX12_markTest_118 : decode cX12_markTest 118 = .ok (.aload_n 0, 1) := by decide +kernel
theorem dX12_markTest_119 : decode cX12_markTest 119 = .ok (.iload 7, 2) := by decide +kernel
theorem dX12_markTest_121 : decode cX12_markTest 121 = .ok (.invokevirtual 242, 3) := by decide +kernel
theorem dX12_markTest_124 : decode cX12_markTest 124 = .ok (.iload 5, 2) := by decide +kernel
theorem dX12_markTest_126 : decode cX12_markTest 126 = .ok (.if_icmp .ne 7, 3) := by decide +kernel
theorem dX12_markTest_129 : decode cX12_markTest 129 = .ok (.iconst 1, 1) := by decide +kernel
theorem dX12_markTest_130 : decode cX12_markTest 130 = .ok (.goto 4, 3) := by decide +kernel
theorem dX12_markTest_133 : decode cX12_markTest 133 = .ok (.iconst 0, 1) := by decide +kernel
theorem dX12_markTest_134 : decode cX12_markTest 134 = .ok (.istore 8, 2) := by decide +kernel
theorem dX12_markTest_136 : decode cX12_markTest 136 = .ok (.aload_n 0, 1) := by decide +kernel
theorem dX12_markTest_137 : decode cX12_markTest 137 = .ok (.iload 5, 2) := by decide +kernel
theorem dX12_markTest_139 : decode cX12_markTest 139 = .ok (.bipush (-2), 2) := by decide +kernel
theorem dX12_markTest_141 : decode cX12_markTest 141 = .ok (.if_icmp .le 29, 3) := by decide +kernel
theorem dX12_markTest_144 : decode cX12_markTest 144 = .ok (.iload 7, 2) := by decide +kernel
theorem dX12_markTest_146 : decode cX12_markTest 146 = .ok (.iload 5, 2) := by decide +kernel
theorem dX12_markTest_148 : decode cX12_markTest 148 = .ok (.if_icmp .eq 15, 3) := by decide +kernel
theorem dX12_markTest_151 : decode cX12_markTest 151 = .ok (.iload 6, 2) := by decide +kernel
theorem dX12_markTest_153 : decode cX12_markTest 153 = .ok (.iload 5, 2) := by decide +kernel
theorem dX12_markTest_155 : decode cX12_markTest 155 = .ok (.if_icmp .eq 8, 3) := by decide +kernel
theorem dX12_markTest_158 : decode cX12_markTest 158 = .ok (.iload 8, 2) := by decide +kernel
theorem dX12_markTest_160 : decode cX12_markTest 160 = .ok (.ifCond .eq 10, 3) := by decide +kernel
theorem dX12_markTest_163 : decode cX12_markTest 163 = .ok (.iconst 1, 1) := by decide +kernel
theorem dX12_markTest_164 : decode cX12_markTest 164 = .ok (.iload 6, 2) := by decide +kernel
theorem dX12_markTest_166 : decode cX12_markTest 166 = .ok (.ishl, 1) := by decide +kernel
theorem dX12_markTest_167 : decode cX12_markTest 167 = .ok (.goto 4, 3) := by decide +kernel
theorem dX12_markTest_170 : decode cX12_markTest 170 = .ok (.iconst 0, 1) := by decide +kernel
theorem dX12_markTest_171 : decode cX12_markTest 171 = .ok (.invokevirtual 497, 3) := by decide +kernel
theorem dX12_markTest_174 : decode cX12_markTest 174 = .ok (.iinc 6 1, 3) := by decide +kernel
theorem dX12_markTest_177 : decode cX12_markTest 177 = .ok (.goto (-93), 3) := by decide +kernel
theorem dX12_markTest_180 : decode cX12_markTest 180 = .ok (.return_, 1) := by decide +kernel
theorem dX12_read_0 : decode cX12_read 0 = .ok (.iconst 0, 1) := by decide +kernel
theorem dX12_read_1 : decode cX12_read 1 = .ok (.istore_n 1, 1) := by decide +kernel
theorem dX12_read_2 : decode cX12_read 2 = .ok (.iload_n 1, 1) := by decide +kernel
theorem dX12_read_3 : decode cX12_read 3 = .ok (.iconst 4, 1) := by decide +kernel
theorem dX12_read_4 : decode cX12_read 4 = .ok (.if_icmp .ge 86, 3) := by decide +kernel
theorem dX12_read_7 : decode cX12_read 7 = .ok (.aload_n 0, 1) := by decide +kernel
theorem dX12_read_8 : decode cX12_read 8 = .ok (.invokevirtual 484, 3) := by decide +kernel
theorem dX12_read_11 : decode cX12_read 11 = .ok (.ifCond .eq 79, 3) := by decide +kernel
theorem dX12_read_14 : decode cX12_read 14 = .ok (.aload_n 0, 1) := by decide +kernel
theorem dX12_read_15 : decode cX12_read 15 = .ok (.invokevirtual 488, 3) := by decide +kernel
theorem dX12_read_18 : decode cX12_read 18 = .ok (.iconst 0, 1) := by decide +kernel
theorem dX12_read_19 : decode cX12_read 19 = .ok (.istore_n 2, 1) := by decide +kernel
theorem dX12_read_20 : decode cX12_read 20 = .ok (.iload_n 2, 1) := by decide +kernel
theorem dX12_read_21 : decode cX12_read 21 = .ok (.aload_n 0, 1) := by decide +kernel
theorem dX12_read_22 : decode cX12_read 22 = .ok (.getfield 441, 3) := by decide +kernel
theorem dX12_read_25 : decode cX12_read 25 = .ok (.if_icmp .ge 59, 3) := by decide +kernel
theorem dX12_read_28 : decode cX12_read 28 = .ok (.aload_n 0, 1) := by decide +kernel
theorem dX12_read_29 : decode cX12_read 29 = .ok (.getfield 184, 3) := by decide +kernel
theorem dX12_read_32 : decode cX12_read 32 = .ok (.iload_n 2, 1) := by decide +kernel
theorem dX12_read_33 : decode cX12_read 33 = .ok (.iaload, 1) := by decide +kernel
theorem dX12_read_34 : decode cX12_read 34 = .ok (.iconst 1, 1) := by decide +kernel
theorem dX12_read_35 : decode cX12_read 35 = .ok (.if_icmp .ne 43, 3) := by decide +kernel
theorem dX12_read_38 : decode cX12_read 38 = .ok (.aload_n 0, 1) := by decide +kernel
theorem dX12_read_39 : decode cX12_read 39 = .ok (.getfield 13, 3) := by decide +kernel
theorem dX12_read_42 : decode cX12_read 42 = .ok (.aload_n 0, 1) := by decide +kernel
theorem dX12_read_43 : decode cX12_read 43 = .ok (.getfield 178, 3) := by decide +kernel
theorem dX12_read_46 : decode cX12_read 46 = .ok (.iload_n 2, 1) := by decide +kernel
theorem dX12_read_47 : decode cX12_read 47 = .ok (.iaload, 1) := by decide +kernel
theorem dX12_read_48 : decode cX12_read 48 = .ok (.dup2, 1) := by decide +kernel
theorem dX12_read_49 : decode cX12_read 49 = .ok (.iaload, 1) := by decide +kernel
theorem dX12_read_50 : decode cX12_read 50 = .ok (.iconst 1, 1) := by decide +kernel
theorem dX12_read_51 : decode cX12_read 51 = .ok (.aload_n 0, 1) := by decide +kernel
theorem dX12_read_52 : decode cX12_read 52 = .ok (.getfield 181, 3) := by decide +kernel
theorem dX12_read_55 : decode cX12_read 55 = .ok (.iload_n 2, 1) := by decide +kernel
theorem dX12_read_56 : decode cX12_read 56 = .ok (.iaload, 1) := by decide +kernel
theorem dX12_read_57 : decode cX12_read 57 = .ok (.ishl, 1) := by decide +kernel
theorem dX12_read_58 : decode cX12_read 58 = .ok (.ixor, 1) := by decide +kernel
theorem dX12_read_59 : decode cX12_read 59 = .ok (.iastore, 1) := by decide +kernel
theorem dX12_read_60 : decode cX12_read 60 = .ok (.aload_n 0, 1) := by decide +kernel
theorem dX12_read_61 : decode cX12_read 61 = .ok (.aload_n 0, 1) := by decide +kernel
theorem dX12_read_62 : decode cX12_read 62 = .ok (.getfield 178, 3) := by decide +kernel
theorem dX12_read_65 : decode cX12_read 65 = .ok (.iload_n 2, 1) := by decide +kernel
theorem dX12_read_66 : decode cX12_read 66 = .ok (.iaload, 1) := by decide +kernel
theorem dX12_read_67 : decode cX12_read 67 = .ok (.iconst 1, 1) := by decide +kernel
theorem dX12_read_68 : decode cX12_read 68 = .ok (.aload_n 0, 1) := by decide +kernel
theorem dX12_read_69 : decode cX12_read 69 = .ok (.getfield 181, 3) := by decide +kernel
theorem dX12_read_72 : decode cX12_read 72 = .ok (.iload_n 2, 1) := by decide +kernel
theorem dX12_read_73 : decode cX12_read 73 = .ok (.iaload, 1) := by decide +kernel
theorem dX12_read_74 : decode cX12_read 74 = .ok (.ishl, 1) := by decide +kernel
theorem dX12_read_75 : decode cX12_read 75 = .ok (.invokevirtual 491, 3) := by decide +kernel
theorem dX12_read_78 : decode cX12_read 78 = .ok (.iinc 2 1, 3) := by decide +kernel
theorem dX12_read_81 : decode cX12_read 81 = .ok (.goto (-61), 3) := by decide +kernel
theorem dX12_read_84 : decode cX12_read 84 = .ok (.iinc 1 1, 3) := by decide +kernel
theorem dX12_read_87 : decode cX12_read 87 = .ok (.goto (-85), 3) := by decide +kernel
theorem dX12_read_90 : decode cX12_read 90 = .ok (.aload_n 0, 1) := by decide +kernel
theorem dX12_read_91 : decode cX12_read 91 = .ok (.invokevirtual 447, 3) := by decide +kernel
theorem dX12_read_94 : decode cX12_read 94 = .ok (.aload_n 0, 1) := by decide +kernel
theorem dX12_read_95 : decode cX12_read 95 = .ok (.invokevirtual 450, 3) := by decide +kernel
theorem dX12_read_98 : decode cX12_read 98 = .ok (.return_, 1) := by decide +kernel
theorem dX12_markAll_0 : decode cX12_markAll 0 = .ok (.aload_n 0, 1) := by decide +kernel
theorem dX12_markAll_1 : decode cX12_markAll 1 = .ok (.aload_n 0, 1) := by decide +kernel
theorem dX12_markAll_2 : decode cX12_markAll 2 = .ok (.invokevirtual 453, 3) := by decide +kernel
theorem dX12_markAll_5 : decode cX12_markAll 5 = .ok (.putfield 460, 3) := by decide +kernel
theorem dX12_markAll_8 : decode cX12_markAll 8 = .ok (.return_, 1) := by decide +kernel
theorem dX12_markBelow_0 : decode cX12_markBelow 0 = .ok (.aload_n 0, 1) := by decide +kernel
theorem dX12_markBelow_1 : decode cX12_markBelow 1 = .ok (.invokevirtual 453, 3) := by decide +kernel
theorem dX12_markBelow_4 : decode cX12_markBelow 4 = .ok (.istore_n 2, 1) := by decide +kernel
theorem dX12_markBelow_5 : decode cX12_markBelow 5 = .ok (.iconst 0, 1) := by decide +kernel
theorem dX12_markBelow_6 : decode cX12_markBelow 6 = .ok (.istore_n 3, 1) := by decide +kernel
theorem dX12_markBelow_7 : decode cX12_markBelow 7 = .ok (.iload_n 3, 1) := by decide +kernel
theorem dX12_markBelow_8 : decode cX12_markBelow 8 = .ok (.aload_n 0, 1) := by decide +kernel
theorem dX12_markBelow_9 : decode cX12_markBelow 9 = .ok (.getfield 217, 3) := by decide +kernel
theorem dX12_markBelow_12 : decode cX12_markBelow 12 = .ok (.if_icmp .ge 43, 3) := by decide +kernel
theorem dX12_markBelow_15 : decode cX12_markBelow 15 = .ok (.aload_n 0, 1) := by decide +kernel
theorem dX12_markBelow_16 : decode cX12_markBelow 16 = .ok (.dup, 1) := by decide +kernel
theorem dX12_markBelow_17 : decode cX12_markBelow 17 = .ok (.getfield 460, 3) := by decide +kernel
theorem dX12_markBelow_20 : decode cX12_markBelow 20 = .ok (.aload_n 0, 1) := by decide +kernel
theorem dX12_markBelow_21 : decode cX12_markBelow 21 = .ok (.iload_n 2, 1) := by decide +kernel
theorem dX12_markBelow_22 : decode cX12_markBelow 22 = .ok (.iload_n 3, 1) := by decide +kernel
theorem dX12_markBelow_23 : decode cX12_markBelow 23 = .ok (.invokevirtual 288, 3) := by decide +kernel
theorem dX12_markBelow_26 : decode cX12_markBelow 26 = .ok (.ifCond .eq 18, 3) := by decide +kernel
theorem dX12_markBelow_29 : decode cX12_markBelow 29 = .ok (.aload_n 0, 1) := by decide +kernel
theorem dX12_markBelow_30 : decode cX12_markBelow 30 = .ok (.iload_n 3, 1) := by decide +kernel
theorem dX12_markBelow_31 : decode cX12_markBelow 31 = .ok (.iload_n 1, 1) := by decide +kernel
theorem dX12_markBelow_32 : decode cX12_markBelow 32 = .ok (.invokevirtual 494, 3) := by decide +kernel
theorem dX12_markBelow_35 : decode cX12_markBelow 35 = .ok (.ifCond .eq 9, 3) := by decide +kernel
theorem dX12_markBelow_38 : decode cX12_markBelow 38 = .ok (.iconst 1, 1) := by decide +kernel
theorem dX12_markBelow_39 : decode cX12_markBelow 39 = .ok (.iload_n 3, 1) := by decide +kernel
theorem dX12_markBelow_40 : decode cX12_markBelow 40 = .ok (.ishl, 1) := by decide +kernel
theorem dX12_markBelow_41 : decode cX12_markBelow 41 = .ok (.goto 4, 3) := by decide +kernel
theorem dX12_markBelow_44 : decode cX12_markBelow 44 = .ok (.iconst 0, 1) := by decide +kernel
theorem dX12_markBelow_45 : decode cX12_markBelow 45 = .ok (.ior, 1) := by decide +kernel
theorem dX12_markBelow_46 : decode cX12_markBelow 46 = .ok (.putfield 460, 3) := by decide +kernel
theorem dX12_markBelow_49 : decode cX12_markBelow 49 = .ok (.iinc 3 1, 3) := by decide +kernel
theorem dX12_markBelow_52 : decode cX12_markBelow 52 = .ok (.goto (-45), 3) := by decide +kernel
theorem dX12_markBelow_55 : decode cX12_markBelow 55 = .ok (.return_, 1) := by decide +kernel
-- onRing(IIIIZ)Z
def f_onRing_6  : Nat → Int32 → Int32 → Int32 → Int32 → Int32 → Int32 → Int32 → mS → Option (Int32)
  | 0, _, _, _, _, _, _, _, _ => none
  | n + 1, x1, x2, x3, x4, x5, x6, x7, σ => if (3:Int32) ≤ x7 then (rz (0:Int32)) else ((f_bit (x3) (x6)).bind (fun v1 => if v1 = (0:Int32) then (rz (0:Int32)) else ((f_aim (x1) (x6) (x4) (x5) σ).bind (fun v2 => if v2 = x2 then (rz (1:Int32)) else (f_onRing_6 n (x1) (x2) (x3) (x4) (x5) (v2) ((x7 + (1:Int32))) σ)))))
def f_onRing (x1 : Int32) (x2 : Int32) (x3 : Int32) (x4 : Int32) (x5 : Int32) (σ : mS) : Option (Int32) := f_onRing_6 4000 (x1) (x2) (x3) (x4) (x5) (x2) ((0:Int32)) σ
set_option maxRecDepth 20000 in
set_option maxHeartbeats 4000000 in
theorem N_onRing_6 {p : Program} {l : Launch} {e : Env} {s : State} {m : MethodId} {args : Array Value} {below : List Frame} {meth : Method} {c : Code} {D : mD} {mb : Nat}  {n : Nat} {x1 : Int32} {x2 : Int32} {x3 : Int32} {x4 : Int32} {x5 : Int32} {x6 : Int32} {x7 : Int32} {σ : mS} {ls : Array Slot} {r : Int32} (X : mX p s m args meth c cX12_onRing 8 (some .boolean) D) (hP : mP D mb σ s.heap)  (hl : lv_has ls 8 [(0, .ref mb), (1, .int x1), (2, .int x2), (3, .int x3), (4, .int x4), (5, .int x5), (6, .int x6), (7, .int x7)]) (h : f_onRing_6  n x1 x2 x3 x4 x5 x6 x7 σ = some r) : mWr p l e 8 191 s m args below meth c (some (.int r)) (F0 m 6 ls []) := by
  have hx := X.1
  have hb := X.2.1
  have hown := X.2.2.2.1
  have hts := X.2.2.2.2.1
  induction n generalizing x1 x2 x3 x4 x5 x6 x7 ls with
  | zero => exact absurd (show none = some r from h) (by simp)
  | succ n ih =>
    have h : (if (3:Int32) ≤ x7 then (rz (0:Int32)) else ((f_bit (x3) (x6)).bind (fun v1 => if v1 = (0:Int32) then (rz (0:Int32)) else ((f_aim (x1) (x6) (x4) (x5) σ).bind (fun v2 => if v2 = x2 then (rz (1:Int32)) else (f_onRing_6 n (x1) (x2) (x3) (x4) (x5) (v2) ((x7 + (1:Int32))) σ)))))) = some r := h
    refine lv_iload hx hb dX12_onRing_6 (lv_at hl 7 rfl) ?_
    refine lv_iconst (v := (3:Int32)) hx hb dX12_onRing_8 (by decide) ?_
    refine lv_icmp_ge (tgt := 51) hx hb dX12_onRing_9 rfl (fun hc => ?_) (fun hc => ?_)
    · have h := ip hc h
      refine lv_iconst (v := (0:Int32)) hx hb dX12_onRing_51 (by decide) ?_
      obtain ⟨hz, rfl⟩ := rz_spec h
      exact m_rz X hz dX12_onRing_52
    · have h := ine hc h
      refine lv_aload_n hx hb dX12_onRing_12 rfl (lv_at hl 0 rfl) ?_
      refine lv_iload_n hx hb dX12_onRing_13 rfl (lv_at hl 3 rfl) ?_
      refine lv_iload hx hb dX12_onRing_14 (lv_at hl 6 rfl) ?_
      obtain ⟨v1, hv1, h⟩ := ob h
      refine cl_bit X hP hv1 ⟨Nat.le_of_ble_eq_true rfl, Nat.le_of_ble_eq_true rfl⟩ hl.1 (Nat.le_of_ble_eq_true rfl) dX12_onRing_16 ?_
      refine lv_if_ne (tgt := 24) hx hb dX12_onRing_19 rfl (fun hc => ?_) (fun hc => ?_)
      · have h := ine hc h
        refine lv_aload_n hx hb dX12_onRing_24 rfl (lv_at hl 0 rfl) ?_
        refine lv_iload_n hx hb dX12_onRing_25 rfl (lv_at hl 1 rfl) ?_
        refine lv_iload hx hb dX12_onRing_26 (lv_at hl 6 rfl) ?_
        refine lv_iload hx hb dX12_onRing_28 (lv_at hl 4 rfl) ?_
        refine lv_iload hx hb dX12_onRing_30 (lv_at hl 5 rfl) ?_
        obtain ⟨v2, hv2, h⟩ := ob h
        refine cl_aim X hP hv2 ⟨Nat.le_of_ble_eq_true rfl, Nat.le_of_ble_eq_true rfl⟩ hl.1 (Nat.le_of_ble_eq_true rfl) dX12_onRing_32 ?_
        refine lv_istore hx hb dX12_onRing_35 hl (Nat.le_of_ble_eq_true rfl) rfl (fun ls (hl : lv_has ls 8 [(6, .int v2), (0, .ref mb), (1, .int x1), (2, .int x2), (3, .int x3), (4, .int x4), (5, .int x5), (7, .int x7)]) => ?_)
        refine lv_iload hx hb dX12_onRing_37 (lv_at hl 0 rfl) ?_
        refine lv_iload_n hx hb dX12_onRing_39 rfl (lv_at hl 3 rfl) ?_
        refine lv_icmp_ne (tgt := 45) hx hb dX12_onRing_40 rfl (fun hc => ?_) (fun hc => ?_)
        · have h := ine hc h
          refine lv_iinc (v := (x7 + (1:Int32))) hx hb dX12_onRing_45 hl (k := 7) rfl rfl (Nat.le_of_ble_eq_true rfl) rfl (fun ls (hl : lv_has ls 8 [(7, .int (x7 + (1:Int32))), (6, .int v2), (0, .ref mb), (1, .int x1), (2, .int x2), (3, .int x3), (4, .int x4), (5, .int x5)]) => ?_)
          refine lv_goto (tgt := 6) hx hb dX12_onRing_48 rfl ?_
          exact ih (lv_sub hl [2, 3, 4, 5, 6, 7, 1, 0] rfl) h
        · have h := ip hc h
          refine lv_iconst (v := (1:Int32)) hx hb dX12_onRing_43 (by decide) ?_
          obtain ⟨hz, rfl⟩ := rz_spec h
          exact m_rz X hz dX12_onRing_44
      · have h := ip hc h
        refine lv_iconst (v := (0:Int32)) hx hb dX12_onRing_22 (by decide) ?_
        obtain ⟨hz, rfl⟩ := rz_spec h
        exact m_rz X hz dX12_onRing_23
set_option maxRecDepth 20000 in
set_option maxHeartbeats 4000000 in
theorem K_onRing (l : Launch) (D : mD) (mb : Nat) (σ : mS) (x1 : Int32) (x2 : Int32) (x3 : Int32) (x4 : Int32) (x5 : Int32) {r : Int32} (h : f_onRing x1 x2 x3 x4 x5 σ = some r) : Met l yX12_onRing (Cond.code yX12_onRing cX12_onRing 8 (some .boolean) :: BG) (rM 8 191) (mPc D mb σ [.int x1, .int x2, .int x3, .int x4, .int x5]) (mQr (some (.int r))) 0 0 (fun _ => False) := by
  refine Met.ofW (cc := cX12_onRing) (maxL := 8) (ret := (some .boolean)) (by decide) rfl ?_
  intro p e s m args below meth c s₁ B hml hv
  obtain ⟨rfl, hP, hK⟩ := hv
  have X := mX_of B hml rfl hK
  have hx := X.1
  have hb := X.2.1
  have hown := X.2.2.2.1
  have hts := X.2.2.2.2.1
  have hl := lv_entry (.ref mb :: [.int x1, .int x2, .int x3, .int x4, .int x5]) (n := 8) (Nat.le_of_ble_eq_true rfl)
  rw [lg_entry_eq]
  generalize (lg_sl (.ref mb :: [.int x1, .int x2, .int x3, .int x4, .int x5]) ++ List.replicate (8 - (lg_sl (.ref mb :: [.int x1, .int x2, .int x3, .int x4, .int x5])).length) Slot.unset).toArray = ls at hl ⊢
  have hl : lv_has ls 8 [(0, .ref mb), (1, .int x1), (2, .int x2), (3, .int x3), (4, .int x4), (5, .int x5)] := hl
  show mWr p l e 8 191 s m (Value.ref mb :: [.int x1, .int x2, .int x3, .int x4, .int x5]).toArray below meth c (some (.int r)) (F0 m 0 ls [])
  have h : (f_onRing_6 4000 (x1) (x2) (x3) (x4) (x5) (x2) ((0:Int32)) σ) = some r := h
  refine lv_iload_n hx hb dX12_onRing_0 rfl (lv_at hl 2 rfl) ?_
  refine lv_istore hx hb dX12_onRing_1 hl (Nat.le_of_ble_eq_true rfl) rfl (fun ls (hl : lv_has ls 8 [(6, .int x2), (0, .ref mb), (1, .int x1), (2, .int x2), (3, .int x3), (4, .int x4), (5, .int x5)]) => ?_)
  refine lv_iconst (v := (0:Int32)) hx hb dX12_onRing_3 (by decide) ?_
  refine lv_istore hx hb dX12_onRing_4 hl (Nat.le_of_ble_eq_true rfl) rfl (fun ls (hl : lv_has ls 8 [(7, .int (0:Int32)), (6, .int x2), (0, .ref mb), (1, .int x1), (2, .int x2), (3, .int x3), (4, .int x4), (5, .int x5)]) => ?_)
  exact N_onRing_6 X hP (lv_sub hl [2, 3, 4, 5, 6, 7, 1, 0] rfl) h
theorem cl_onRing {p : Program} {l : Launch} {e : Env} {s : State} {m : MethodId} {args : Array Value} {below : List Frame} {meth : Method} {c : Code} {D : mD} {mb : Nat} {H : Heap} {locs : List Loc} {Q : State → Prop} {cc : ByteArray} {pc fR lR nL : Nat} {ls : Array Slot} {rest : List Value} {ret : Option FieldType} {σ : mS} (X : mX p s m args meth c cc nL ret D) (hP : mP D mb σ H) {x1 : Int32} {x2 : Int32} {x3 : Int32} {x4 : Int32} {x5 : Int32} {r : Int32} (h : f_onRing x1 x2 x3 x4 x5 σ = some r) (hr : 8 + 1 ≤ fR ∧ 8 + (8 + 11) + 191 ≤ lR) (hl : ls.size = nL) (hW : (rest.map fun v => v.category).sum ≤ 8) (hdg : decode cc pc = .ok (.invokevirtual 382, 3)) (kk : W p l e (rM fR lR) s m args below meth c H locs 0 0 Q (F0 m (pc + 3) ls (.int r :: rest))) : W p l e (rM fR lR) s m args below meth c H locs 0 0 Q (F0 m pc ls (.int x5 :: .int x4 :: .int x3 :: .int x2 :: .int x1 :: .ref mb :: rest)) := m_cr (m_run (n := 5) X (K_onRing l D mb σ x1 x2 x3 x4 x5 h) ⟨w_2236, w_2238, w_129, w_2239⟩ (hyX rfl (by decide +kernel)) rfl hr hP hl hW hdg rfl) kk
-- follow(IIIIIZ)V
def f_follow_260  (y1 : Int32) (y2 : Int32) (σ : mS) : Option (mS) := (wr σ 45 y1 y2).bind (fun s1 => some s1)
def f_follow_249  (y1 : Int32) (σ : mS) : Option (mS) := f_follow_260 (y1) ((0:Int32)) σ
def f_follow_205  (x2 : Int32) (x7 : Int32) (x8 : Int32) (x9 : Int32) (x12 : Int32) (y1 : Int32) (y2 : Int32) (σ : mS) : Option (mS) := (wr σ 44 y1 y2).bind (fun s1 => if x12 = (0:Int32) then (if x9 < (0:Int32) then (f_follow_249 ((x7 + x2)) s1) else ((rd s1 41 x9).bind (fun v2 => if v2 = (6:Int32) then (f_follow_249 ((x7 + x2)) s1) else ((rd s1 42 x9).bind (fun v3 => f_follow_260 ((x7 + x2)) (v3) s1))))) else ((rd s1 45 (x7 + x8)).bind (fun v4 => f_follow_260 ((x7 + x2)) (v4) s1)))
def f_follow_161  (x2 : Int32) (x7 : Int32) (x8 : Int32) (x9 : Int32) (y0 : Int32) (σ : mS) : Option (mS) := if y0 = (0:Int32) then (if (0:Int32) ≤ x9 then ((rd σ 41 x9).bind (fun v1 => f_follow_205 (x2) (x7) (x8) (x9) (y0) ((x7 + x2)) (v1) σ)) else (f_follow_205 (x2) (x7) (x8) (x9) (y0) ((x7 + x2)) (((-1):Int32)) σ)) else ((rd σ 44 (x7 + x8)).bind (fun v2 => f_follow_205 (x2) (x7) (x8) (x9) (y0) ((x7 + x2)) (v2) σ))
def f_follow_160  (x2 : Int32) (x7 : Int32) (x8 : Int32) (x9 : Int32) (σ : mS) : Option (mS) := f_follow_161 (x2) (x7) (x8) (x9) ((0:Int32)) σ
def f_follow_128  (x2 : Int32) (x3 : Int32) (x7 : Int32) (x8 : Int32) (x9 : Int32) (x10 : Int32) (σ : mS) : Option (mS) := if x10 = (0:Int32) then ((f_bit (x3) (x8)).bind (fun v1 => if v1 = (0:Int32) then ((rd σ 44 (x7 + x8)).bind (fun v2 => if v2 < (0:Int32) then (f_follow_160 (x2) (x7) (x8) (x9) σ) else (f_follow_161 (x2) (x7) (x8) (x9) ((1:Int32)) σ))) else (f_follow_160 (x2) (x7) (x8) (x9) σ))) else (f_follow_160 (x2) (x7) (x8) (x9) σ)
def f_follow_99 (k26 : Int32 → Int32 → Int32 → Int32 → Int32 → Int32 → Int32 → Int32 → Int32 → Int32 → Int32 → mS → Option (mS)) (x1 : Int32) (x2 : Int32) (x3 : Int32) (x4 : Int32) (x6 : Int32) (x7 : Int32) (x11 : Int32) (x12 : Int32) (x14 : Int32) (y0 : Int32) (σ : mS) : Option (mS) := (f_aim (x1) (x11) (x4) (x6) σ).bind (fun v1 => k26 (x1) (x2) (x3) (x4) (x6) (x7) (v1) (y0) (x14) (v1) ((x12 + (1:Int32))) σ)
def f_follow_97 (k26 : Int32 → Int32 → Int32 → Int32 → Int32 → Int32 → Int32 → Int32 → Int32 → Int32 → Int32 → mS → Option (mS)) (x1 : Int32) (x2 : Int32) (x3 : Int32) (x4 : Int32) (x6 : Int32) (x7 : Int32) (x9 : Int32) (x11 : Int32) (x12 : Int32) (x14 : Int32) (σ : mS) : Option (mS) := f_follow_99 k26 (x1) (x2) (x3) (x4) (x6) (x7) (x11) (x12) (x14) (x9) σ
def f_follow_26  : Nat → Int32 → Int32 → Int32 → Int32 → Int32 → Int32 → Int32 → Int32 → Int32 → Int32 → Int32 → mS → Option (mS)
  | 0, _, _, _, _, _, _, _, _, _, _, _, _ => none
  | n + 1, x1, x2, x3, x4, x6, x7, x8, x9, x10, x11, x12, σ => if (3:Int32) ≤ x12 then (f_follow_128 (x2) (x3) (x7) (x8) (x9) (x10) σ) else ((f_bit (x3) (x11)).bind (fun v1 => if v1 = (0:Int32) then (f_follow_128 (x2) (x3) (x7) (x8) (x9) (x10) σ) else (if x10 = (0:Int32) then ((f_found (x1) (((12:Int32) + x11)) (x4) (x6) σ).bind (fun v2 => (f_onRing (x1) (x11) (x3) (x4) (x6) σ).bind (fun v3 => if v3 = (0:Int32) then ((rd σ 41 v2).bind (fun v4 => if v4 < (0:Int32) then (f_follow_97 (f_follow_26 n) (x1) (x2) (x3) (x4) (x6) (x7) (x9) (x11) (x12) (v3) σ) else (f_follow_99 (f_follow_26 n) (x1) (x2) (x3) (x4) (x6) (x7) (x11) (x12) (v3) (v2) σ))) else (f_follow_97 (f_follow_26 n) (x1) (x2) (x3) (x4) (x6) (x7) (x9) (x11) (x12) (v3) σ)))) else (f_follow_128 (x2) (x3) (x7) (x8) (x9) (x10) σ))))
def f_follow (x1 : Int32) (x2 : Int32) (x3 : Int32) (x4 : Int32) (x5 : Int32) (x6 : Int32) (σ : mS) : Option (mS) := f_follow_26 4000 (x1) (x2) (x3) (x4) (x6) (((3:Int32) * (((30:Int32) * x5) + x1))) (x2) (((-1):Int32)) ((0:Int32)) (x2) ((0:Int32)) σ
set_option maxRecDepth 20000 in
set_option maxHeartbeats 4000000 in
theorem N_follow_260 {p : Program} {l : Launch} {e : Env} {s : State} {m : MethodId} {args : Array Value} {below : List Frame} {meth : Method} {c : Code} {D : mD} {mb : Nat}   {y1 : Int32} {y2 : Int32} {σ : mS} {H : Heap} {locs : List Loc} {ls : Array Slot} {q : mS} (X : mX p s m args meth c cX12_follow 15 none D) (hP : mP D mb σ H) (hF : mF mb s.heap H locs)  (hl : lv_has ls 15 [(0, .ref mb)]) (h : f_follow_260  y1 y2 σ = some q) : mWw p l e 9 218 s m args below meth c D mb q none H locs (F0 m 260 ls [.int y2, .int y1, .ref (mA mb 45)]) := by
  have hx := X.1
  have hb := X.2.1
  have hown := X.2.2.2.1
  have hts := X.2.2.2.2.1
  have h : ((wr σ 45 y1 y2).bind (fun s1 => some s1)) = some q := h
  obtain ⟨s1, hs1, h⟩ := ob h
  refine m_ast X hP hF hs1 dX12_follow_260 (fun H locs hP hF => ?_)
  obtain rfl := sj h
  exact m_wv X hP hF dX12_follow_261
set_option maxRecDepth 20000 in
set_option maxHeartbeats 4000000 in
theorem N_follow_249 {p : Program} {l : Launch} {e : Env} {s : State} {m : MethodId} {args : Array Value} {below : List Frame} {meth : Method} {c : Code} {D : mD} {mb : Nat}   {y1 : Int32} {σ : mS} {H : Heap} {locs : List Loc} {ls : Array Slot} {q : mS} (X : mX p s m args meth c cX12_follow 15 none D) (hP : mP D mb σ H) (hF : mF mb s.heap H locs)  (hl : lv_has ls 15 [(0, .ref mb)]) (h : f_follow_249  y1 σ = some q) : mWw p l e 9 218 s m args below meth c D mb q none H locs (F0 m 249 ls [.int y1, .ref (mA mb 45)]) := by
  have hx := X.1
  have hb := X.2.1
  have hown := X.2.2.2.1
  have hts := X.2.2.2.2.1
  have h : (f_follow_260 (y1) ((0:Int32)) σ) = some q := h
  refine lv_iconst (v := (0:Int32)) hx hb dX12_follow_249 (by decide) ?_
  refine lv_goto (tgt := 260) hx hb dX12_follow_250 rfl ?_
  exact N_follow_260 X hP hF (lv_sub hl [0] rfl) h
set_option maxRecDepth 20000 in
set_option maxHeartbeats 4000000 in
theorem N_follow_205 {p : Program} {l : Launch} {e : Env} {s : State} {m : MethodId} {args : Array Value} {below : List Frame} {meth : Method} {c : Code} {D : mD} {mb : Nat}   {x2 : Int32} {x7 : Int32} {x8 : Int32} {x9 : Int32} {x12 : Int32} {y1 : Int32} {y2 : Int32} {σ : mS} {H : Heap} {locs : List Loc} {ls : Array Slot} {q : mS} (X : mX p s m args meth c cX12_follow 15 none D) (hP : mP D mb σ H) (hF : mF mb s.heap H locs)  (hl : lv_has ls 15 [(0, .ref mb), (2, .int x2), (7, .int x7), (8, .int x8), (9, .int x9), (12, .int x12)]) (h : f_follow_205  x2 x7 x8 x9 x12 y1 y2 σ = some q) : mWw p l e 9 218 s m args below meth c D mb q none H locs (F0 m 205 ls [.int y2, .int y1, .ref (mA mb 44)]) := by
  have hx := X.1
  have hb := X.2.1
  have hown := X.2.2.2.1
  have hts := X.2.2.2.2.1
  have h : ((wr σ 44 y1 y2).bind (fun s1 => if x12 = (0:Int32) then (if x9 < (0:Int32) then (f_follow_249 ((x7 + x2)) s1) else ((rd s1 41 x9).bind (fun v2 => if v2 = (6:Int32) then (f_follow_249 ((x7 + x2)) s1) else ((rd s1 42 x9).bind (fun v3 => f_follow_260 ((x7 + x2)) (v3) s1))))) else ((rd s1 45 (x7 + x8)).bind (fun v4 => f_follow_260 ((x7 + x2)) (v4) s1)))) = some q := h
  obtain ⟨s1, hs1, h⟩ := ob h
  refine m_ast X hP hF hs1 dX12_follow_205 (fun H locs hP hF => ?_)
  refine lv_aload_n hx hb dX12_follow_206 rfl (lv_at hl 0 rfl) ?_
  refine mg_vn X hP dX12_follow_207 ?_
  refine lv_iload hx hb dX12_follow_210 (lv_at hl 2 rfl) ?_
  refine lv_iload_n hx hb dX12_follow_212 rfl (lv_at hl 1 rfl) ?_
  refine lv_iadd hx hb dX12_follow_213 ?_
  refine lv_iload hx hb dX12_follow_214 (lv_at hl 5 rfl) ?_
  refine lv_if_eq (tgt := 232) hx hb dX12_follow_216 rfl (fun hc => ?_) (fun hc => ?_)
  · have h := ip hc h
    refine lv_iload hx hb dX12_follow_232 (lv_at hl 4 rfl) ?_
    refine lv_if_lt (tgt := 249) hx hb dX12_follow_234 rfl (fun hc => ?_) (fun hc => ?_)
    · have h := ip hc h
      exact N_follow_249 X hP hF (lv_sub hl [0] rfl) h
    · have h := ine hc h
      refine lv_aload_n hx hb dX12_follow_237 rfl (lv_at hl 0 rfl) ?_
      refine mg_eu X hP dX12_follow_238 ?_
      refine lv_iload hx hb dX12_follow_241 (lv_at hl 4 rfl) ?_
      obtain ⟨v2, hv2, h⟩ := ob h
      refine m_ald X hP hv2 dX12_follow_243 ?_
      refine lv_bipush (v := (6:Int32)) hx hb dX12_follow_244 (by decide) ?_
      refine lv_icmp_ne (tgt := 253) hx hb dX12_follow_246 rfl (fun hc => ?_) (fun hc => ?_)
      · have h := ine hc h
        refine lv_aload_n hx hb dX12_follow_253 rfl (lv_at hl 0 rfl) ?_
        refine mg_en X hP dX12_follow_254 ?_
        refine lv_iload hx hb dX12_follow_257 (lv_at hl 4 rfl) ?_
        obtain ⟨v3, hv3, h⟩ := ob h
        refine m_ald X hP hv3 dX12_follow_259 ?_
        exact N_follow_260 X hP hF (lv_sub hl [0] rfl) h
      · have h := ip hc h
        exact N_follow_249 X hP hF (lv_sub hl [0] rfl) h
  · have h := ine hc h
    refine lv_aload_n hx hb dX12_follow_219 rfl (lv_at hl 0 rfl) ?_
    refine mg_vn X hP dX12_follow_220 ?_
    refine lv_iload hx hb dX12_follow_223 (lv_at hl 2 rfl) ?_
    refine lv_iload hx hb dX12_follow_225 (lv_at hl 3 rfl) ?_
    refine lv_iadd hx hb dX12_follow_227 ?_
    obtain ⟨v4, hv4, h⟩ := ob h
    refine m_ald X hP hv4 dX12_follow_228 ?_
    refine lv_goto (tgt := 260) hx hb dX12_follow_229 rfl ?_
    exact N_follow_260 X hP hF (lv_sub hl [0] rfl) h
set_option maxRecDepth 20000 in
set_option maxHeartbeats 4000000 in
theorem N_follow_161 {p : Program} {l : Launch} {e : Env} {s : State} {m : MethodId} {args : Array Value} {below : List Frame} {meth : Method} {c : Code} {D : mD} {mb : Nat}   {x2 : Int32} {x7 : Int32} {x8 : Int32} {x9 : Int32} {y0 : Int32} {σ : mS} {H : Heap} {locs : List Loc} {ls : Array Slot} {q : mS} (X : mX p s m args meth c cX12_follow 15 none D) (hP : mP D mb σ H) (hF : mF mb s.heap H locs)  (hl : lv_has ls 15 [(0, .ref mb), (2, .int x2), (7, .int x7), (8, .int x8), (9, .int x9)]) (h : f_follow_161  x2 x7 x8 x9 y0 σ = some q) : mWw p l e 9 218 s m args below meth c D mb q none H locs (F0 m 161 ls [.int y0]) := by
  have hx := X.1
  have hb := X.2.1
  have hown := X.2.2.2.1
  have hts := X.2.2.2.2.1
  have h : (if y0 = (0:Int32) then (if (0:Int32) ≤ x9 then ((rd σ 41 x9).bind (fun v1 => f_follow_205 (x2) (x7) (x8) (x9) (y0) ((x7 + x2)) (v1) σ)) else (f_follow_205 (x2) (x7) (x8) (x9) (y0) ((x7 + x2)) (((-1):Int32)) σ)) else ((rd σ 44 (x7 + x8)).bind (fun v2 => f_follow_205 (x2) (x7) (x8) (x9) (y0) ((x7 + x2)) (v2) σ))) = some q := h
  refine lv_istore hx hb dX12_follow_161 hl (Nat.le_of_ble_eq_true rfl) rfl (fun ls (hl : lv_has ls 15 [(12, .int y0), (0, .ref mb), (2, .int x2), (7, .int x7), (8, .int x8), (9, .int x9)]) => ?_)
  refine lv_aload_n hx hb dX12_follow_163 rfl (lv_at hl 1 rfl) ?_
  refine mg_vu X hP dX12_follow_164 ?_
  refine lv_iload hx hb dX12_follow_167 (lv_at hl 3 rfl) ?_
  refine lv_iload_n hx hb dX12_follow_169 rfl (lv_at hl 2 rfl) ?_
  refine lv_iadd hx hb dX12_follow_170 ?_
  refine lv_iload hx hb dX12_follow_171 (lv_at hl 0 rfl) ?_
  refine lv_if_eq (tgt := 189) hx hb dX12_follow_173 rfl (fun hc => ?_) (fun hc => ?_)
  · have h := ip hc h
    refine lv_iload hx hb dX12_follow_189 (lv_at hl 5 rfl) ?_
    refine lv_if_ge (tgt := 198) hx hb dX12_follow_191 rfl (fun hc => ?_) (fun hc => ?_)
    · have h := ip hc h
      refine lv_aload_n hx hb dX12_follow_198 rfl (lv_at hl 1 rfl) ?_
      refine mg_eu X hP dX12_follow_199 ?_
      refine lv_iload hx hb dX12_follow_202 (lv_at hl 5 rfl) ?_
      obtain ⟨v1, hv1, h⟩ := ob h
      refine m_ald X hP hv1 dX12_follow_204 ?_
      exact N_follow_205 X hP hF (lv_sub hl [1, 2, 3, 4, 5, 0] rfl) h
    · have h := ine hc h
      refine lv_iconst (v := ((-1):Int32)) hx hb dX12_follow_194 (by decide) ?_
      refine lv_goto (tgt := 205) hx hb dX12_follow_195 rfl ?_
      exact N_follow_205 X hP hF (lv_sub hl [1, 2, 3, 4, 5, 0] rfl) h
  · have h := ine hc h
    refine lv_aload_n hx hb dX12_follow_176 rfl (lv_at hl 1 rfl) ?_
    refine mg_vu X hP dX12_follow_177 ?_
    refine lv_iload hx hb dX12_follow_180 (lv_at hl 3 rfl) ?_
    refine lv_iload hx hb dX12_follow_182 (lv_at hl 4 rfl) ?_
    refine lv_iadd hx hb dX12_follow_184 ?_
    obtain ⟨v2, hv2, h⟩ := ob h
    refine m_ald X hP hv2 dX12_follow_185 ?_
    refine lv_goto (tgt := 205) hx hb dX12_follow_186 rfl ?_
    exact N_follow_205 X hP hF (lv_sub hl [1, 2, 3, 4, 5, 0] rfl) h
set_option maxRecDepth 20000 in
set_option maxHeartbeats 4000000 in
theorem N_follow_160 {p : Program} {l : Launch} {e : Env} {s : State} {m : MethodId} {args : Array Value} {below : List Frame} {meth : Method} {c : Code} {D : mD} {mb : Nat}   {x2 : Int32} {x7 : Int32} {x8 : Int32} {x9 : Int32} {σ : mS} {H : Heap} {locs : List Loc} {ls : Array Slot} {q : mS} (X : mX p s m args meth c cX12_follow 15 none D) (hP : mP D mb σ H) (hF : mF mb s.heap H locs)  (hl : lv_has ls 15 [(0, .ref mb), (2, .int x2), (7, .int x7), (8, .int x8), (9, .int x9)]) (h : f_follow_160  x2 x7 x8 x9 σ = some q) : mWw p l e 9 218 s m args below meth c D mb q none H locs (F0 m 160 ls []) := by
  have hx := X.1
  have hb := X.2.1
  have hown := X.2.2.2.1
  have hts := X.2.2.2.2.1
  have h : (f_follow_161 (x2) (x7) (x8) (x9) ((0:Int32)) σ) = some q := h
  refine lv_iconst (v := (0:Int32)) hx hb dX12_follow_160 (by decide) ?_
  exact N_follow_161 X hP hF (lv_sub hl [0, 1, 2, 3, 4] rfl) h
set_option maxRecDepth 20000 in
set_option maxHeartbeats 4000000 in
theorem N_follow_128 {p : Program} {l : Launch} {e : Env} {s : State} {m : MethodId} {args : Array Value} {below : List Frame} {meth : Method} {c : Code} {D : mD} {mb : Nat}   {x2 : Int32} {x3 : Int32} {x7 : Int32} {x8 : Int32} {x9 : Int32} {x10 : Int32} {σ : mS} {H : Heap} {locs : List Loc} {ls : Array Slot} {q : mS} (X : mX p s m args meth c cX12_follow 15 none D) (hP : mP D mb σ H) (hF : mF mb s.heap H locs)  (hl : lv_has ls 15 [(0, .ref mb), (2, .int x2), (3, .int x3), (7, .int x7), (8, .int x8), (9, .int x9), (10, .int x10)]) (h : f_follow_128  x2 x3 x7 x8 x9 x10 σ = some q) : mWw p l e 9 218 s m args below meth c D mb q none H locs (F0 m 128 ls []) := by
  have hx := X.1
  have hb := X.2.1
  have hown := X.2.2.2.1
  have hts := X.2.2.2.2.1
  have h : (if x10 = (0:Int32) then ((f_bit (x3) (x8)).bind (fun v1 => if v1 = (0:Int32) then ((rd σ 44 (x7 + x8)).bind (fun v2 => if v2 < (0:Int32) then (f_follow_160 (x2) (x7) (x8) (x9) σ) else (f_follow_161 (x2) (x7) (x8) (x9) ((1:Int32)) σ))) else (f_follow_160 (x2) (x7) (x8) (x9) σ))) else (f_follow_160 (x2) (x7) (x8) (x9) σ)) = some q := h
  refine lv_iload hx hb dX12_follow_128 (lv_at hl 6 rfl) ?_
  refine lv_if_ne (tgt := 160) hx hb dX12_follow_130 rfl (fun hc => ?_) (fun hc => ?_)
  · have h := ine hc h
    exact N_follow_160 X hP hF (lv_sub hl [0, 1, 3, 4, 5] rfl) h
  · have h := ip hc h
    refine lv_aload_n hx hb dX12_follow_133 rfl (lv_at hl 0 rfl) ?_
    refine lv_iload_n hx hb dX12_follow_134 rfl (lv_at hl 2 rfl) ?_
    refine lv_iload hx hb dX12_follow_135 (lv_at hl 4 rfl) ?_
    obtain ⟨v1, hv1, h⟩ := ob h
    refine cl_bit X hP hv1 ⟨Nat.le_of_ble_eq_true rfl, Nat.le_of_ble_eq_true rfl⟩ hl.1 (Nat.le_of_ble_eq_true rfl) dX12_follow_137 ?_
    refine lv_if_ne (tgt := 160) hx hb dX12_follow_140 rfl (fun hc => ?_) (fun hc => ?_)
    · have h := ine hc h
      exact N_follow_160 X hP hF (lv_sub hl [0, 1, 3, 4, 5] rfl) h
    · have h := ip hc h
      refine lv_aload_n hx hb dX12_follow_143 rfl (lv_at hl 0 rfl) ?_
      refine mg_vu X hP dX12_follow_144 ?_
      refine lv_iload hx hb dX12_follow_147 (lv_at hl 3 rfl) ?_
      refine lv_iload hx hb dX12_follow_149 (lv_at hl 4 rfl) ?_
      refine lv_iadd hx hb dX12_follow_151 ?_
      obtain ⟨v2, hv2, h⟩ := ob h
      refine m_ald X hP hv2 dX12_follow_152 ?_
      refine lv_if_lt (tgt := 160) hx hb dX12_follow_153 rfl (fun hc => ?_) (fun hc => ?_)
      · have h := ip hc h
        exact N_follow_160 X hP hF (lv_sub hl [0, 1, 3, 4, 5] rfl) h
      · have h := ine hc h
        refine lv_iconst (v := (1:Int32)) hx hb dX12_follow_156 (by decide) ?_
        refine lv_goto (tgt := 161) hx hb dX12_follow_157 rfl ?_
        exact N_follow_161 X hP hF (lv_sub hl [0, 1, 3, 4, 5] rfl) h
set_option maxRecDepth 20000 in
set_option maxHeartbeats 4000000 in
theorem N_follow_99 {p : Program} {l : Launch} {e : Env} {s : State} {m : MethodId} {args : Array Value} {below : List Frame} {meth : Method} {c : Code} {D : mD} {mb : Nat} {k26 : Int32 → Int32 → Int32 → Int32 → Int32 → Int32 → Int32 → Int32 → Int32 → Int32 → Int32 → mS → Option (mS)}  {x1 : Int32} {x2 : Int32} {x3 : Int32} {x4 : Int32} {x6 : Int32} {x7 : Int32} {x11 : Int32} {x12 : Int32} {x14 : Int32} {y0 : Int32} {σ : mS} {H : Heap} {locs : List Loc} {ls : Array Slot} {q : mS} (X : mX p s m args meth c cX12_follow 15 none D) (hP : mP D mb σ H) (hF : mF mb s.heap H locs) (hk26 : ∀ {x1 : Int32} {x2 : Int32} {x3 : Int32} {x4 : Int32} {x6 : Int32} {x7 : Int32} {x8 : Int32} {x9 : Int32} {x10 : Int32} {x11 : Int32} {x12 : Int32} {σ : mS} {H : Heap} {locs : List Loc} {ls : Array Slot}, mP D mb σ H → mF mb s.heap H locs → lv_has ls 15 [(0, .ref mb), (1, .int x1), (2, .int x2), (3, .int x3), (4, .int x4), (6, .int x6), (7, .int x7), (8, .int x8), (9, .int x9), (10, .int x10), (11, .int x11), (12, .int x12)] → k26 x1 x2 x3 x4 x6 x7 x8 x9 x10 x11 x12 σ = some q → mWw p l e 9 218 s m args below meth c D mb q none H locs (F0 m 26 ls [])) (hl : lv_has ls 15 [(0, .ref mb), (1, .int x1), (2, .int x2), (3, .int x3), (4, .int x4), (6, .int x6), (7, .int x7), (11, .int x11), (12, .int x12), (14, .int x14)]) (h : f_follow_99 k26 x1 x2 x3 x4 x6 x7 x11 x12 x14 y0 σ = some q) : mWw p l e 9 218 s m args below meth c D mb q none H locs (F0 m 99 ls [.int y0]) := by
  have hx := X.1
  have hb := X.2.1
  have hown := X.2.2.2.1
  have hts := X.2.2.2.2.1
  have h : ((f_aim (x1) (x11) (x4) (x6) σ).bind (fun v1 => k26 (x1) (x2) (x3) (x4) (x6) (x7) (v1) (y0) (x14) (v1) ((x12 + (1:Int32))) σ)) = some q := h
  refine lv_istore hx hb dX12_follow_99 hl (Nat.le_of_ble_eq_true rfl) rfl (fun ls (hl : lv_has ls 15 [(9, .int y0), (0, .ref mb), (1, .int x1), (2, .int x2), (3, .int x3), (4, .int x4), (6, .int x6), (7, .int x7), (11, .int x11), (12, .int x12), (14, .int x14)]) => ?_)
  refine lv_iload hx hb dX12_follow_101 (lv_at hl 10 rfl) ?_
  refine lv_istore hx hb dX12_follow_103 hl (Nat.le_of_ble_eq_true rfl) rfl (fun ls (hl : lv_has ls 15 [(10, .int x14), (9, .int y0), (0, .ref mb), (1, .int x1), (2, .int x2), (3, .int x3), (4, .int x4), (6, .int x6), (7, .int x7), (11, .int x11), (12, .int x12), (14, .int x14)]) => ?_)
  refine lv_aload_n hx hb dX12_follow_105 rfl (lv_at hl 2 rfl) ?_
  refine lv_iload_n hx hb dX12_follow_106 rfl (lv_at hl 3 rfl) ?_
  refine lv_iload hx hb dX12_follow_107 (lv_at hl 9 rfl) ?_
  refine lv_iload hx hb dX12_follow_109 (lv_at hl 6 rfl) ?_
  refine lv_iload hx hb dX12_follow_111 (lv_at hl 7 rfl) ?_
  obtain ⟨v1, hv1, h⟩ := ob h
  refine cl_aim X hP hv1 ⟨Nat.le_of_ble_eq_true rfl, Nat.le_of_ble_eq_true rfl⟩ hl.1 (Nat.le_of_ble_eq_true rfl) dX12_follow_113 ?_
  refine lv_istore hx hb dX12_follow_116 hl (Nat.le_of_ble_eq_true rfl) rfl (fun ls (hl : lv_has ls 15 [(11, .int v1), (10, .int x14), (9, .int y0), (0, .ref mb), (1, .int x1), (2, .int x2), (3, .int x3), (4, .int x4), (6, .int x6), (7, .int x7), (12, .int x12), (14, .int x14)]) => ?_)
  refine lv_iload hx hb dX12_follow_118 (lv_at hl 0 rfl) ?_
  refine lv_istore hx hb dX12_follow_120 hl (Nat.le_of_ble_eq_true rfl) rfl (fun ls (hl : lv_has ls 15 [(8, .int v1), (11, .int v1), (10, .int x14), (9, .int y0), (0, .ref mb), (1, .int x1), (2, .int x2), (3, .int x3), (4, .int x4), (6, .int x6), (7, .int x7), (12, .int x12), (14, .int x14)]) => ?_)
  refine lv_iinc (v := (x12 + (1:Int32))) hx hb dX12_follow_122 hl (k := 11) rfl rfl (Nat.le_of_ble_eq_true rfl) rfl (fun ls (hl : lv_has ls 15 [(12, .int (x12 + (1:Int32))), (8, .int v1), (11, .int v1), (10, .int x14), (9, .int y0), (0, .ref mb), (1, .int x1), (2, .int x2), (3, .int x3), (4, .int x4), (6, .int x6), (7, .int x7), (14, .int x14)]) => ?_)
  refine lv_goto (tgt := 26) hx hb dX12_follow_125 rfl ?_
  exact hk26 hP hF (lv_sub hl [5, 6, 7, 8, 9, 10, 11, 1, 4, 3, 2, 0] rfl) h
set_option maxRecDepth 20000 in
set_option maxHeartbeats 4000000 in
theorem N_follow_97 {p : Program} {l : Launch} {e : Env} {s : State} {m : MethodId} {args : Array Value} {below : List Frame} {meth : Method} {c : Code} {D : mD} {mb : Nat} {k26 : Int32 → Int32 → Int32 → Int32 → Int32 → Int32 → Int32 → Int32 → Int32 → Int32 → Int32 → mS → Option (mS)}  {x1 : Int32} {x2 : Int32} {x3 : Int32} {x4 : Int32} {x6 : Int32} {x7 : Int32} {x9 : Int32} {x11 : Int32} {x12 : Int32} {x14 : Int32} {σ : mS} {H : Heap} {locs : List Loc} {ls : Array Slot} {q : mS} (X : mX p s m args meth c cX12_follow 15 none D) (hP : mP D mb σ H) (hF : mF mb s.heap H locs) (hk26 : ∀ {x1 : Int32} {x2 : Int32} {x3 : Int32} {x4 : Int32} {x6 : Int32} {x7 : Int32} {x8 : Int32} {x9 : Int32} {x10 : Int32} {x11 : Int32} {x12 : Int32} {σ : mS} {H : Heap} {locs : List Loc} {ls : Array Slot}, mP D mb σ H → mF mb s.heap H locs → lv_has ls 15 [(0, .ref mb), (1, .int x1), (2, .int x2), (3, .int x3), (4, .int x4), (6, .int x6), (7, .int x7), (8, .int x8), (9, .int x9), (10, .int x10), (11, .int x11), (12, .int x12)] → k26 x1 x2 x3 x4 x6 x7 x8 x9 x10 x11 x12 σ = some q → mWw p l e 9 218 s m args below meth c D mb q none H locs (F0 m 26 ls [])) (hl : lv_has ls 15 [(0, .ref mb), (1, .int x1), (2, .int x2), (3, .int x3), (4, .int x4), (6, .int x6), (7, .int x7), (9, .int x9), (11, .int x11), (12, .int x12), (14, .int x14)]) (h : f_follow_97 k26 x1 x2 x3 x4 x6 x7 x9 x11 x12 x14 σ = some q) : mWw p l e 9 218 s m args below meth c D mb q none H locs (F0 m 97 ls []) := by
  have hx := X.1
  have hb := X.2.1
  have hown := X.2.2.2.1
  have hts := X.2.2.2.2.1
  have h : (f_follow_99 k26 (x1) (x2) (x3) (x4) (x6) (x7) (x11) (x12) (x14) (x9) σ) = some q := h
  refine lv_iload hx hb dX12_follow_97 (lv_at hl 7 rfl) ?_
  exact N_follow_99 X hP hF hk26 (lv_sub hl [0, 1, 2, 3, 4, 5, 6, 8, 9, 10] rfl) h
set_option maxRecDepth 20000 in
set_option maxHeartbeats 4000000 in
theorem N_follow_26 {p : Program} {l : Launch} {e : Env} {s : State} {m : MethodId} {args : Array Value} {below : List Frame} {meth : Method} {c : Code} {D : mD} {mb : Nat}  {n : Nat} {x1 : Int32} {x2 : Int32} {x3 : Int32} {x4 : Int32} {x6 : Int32} {x7 : Int32} {x8 : Int32} {x9 : Int32} {x10 : Int32} {x11 : Int32} {x12 : Int32} {σ : mS} {H : Heap} {locs : List Loc} {ls : Array Slot} {q : mS} (X : mX p s m args meth c cX12_follow 15 none D) (hP : mP D mb σ H) (hF : mF mb s.heap H locs)  (hl : lv_has ls 15 [(0, .ref mb), (1, .int x1), (2, .int x2), (3, .int x3), (4, .int x4), (6, .int x6), (7, .int x7), (8, .int x8), (9, .int x9), (10, .int x10), (11, .int x11), (12, .int x12)]) (h : f_follow_26  n x1 x2 x3 x4 x6 x7 x8 x9 x10 x11 x12 σ = some q) : mWw p l e 9 218 s m args below meth c D mb q none H locs (F0 m 26 ls []) := by
  have hx := X.1
  have hb := X.2.1
  have hown := X.2.2.2.1
  have hts := X.2.2.2.2.1
  induction n generalizing x1 x2 x3 x4 x6 x7 x8 x9 x10 x11 x12 σ H locs ls with
  | zero => exact absurd (show none = some q from h) (by simp)
  | succ n ih =>
    have h : (if (3:Int32) ≤ x12 then (f_follow_128 (x2) (x3) (x7) (x8) (x9) (x10) σ) else ((f_bit (x3) (x11)).bind (fun v1 => if v1 = (0:Int32) then (f_follow_128 (x2) (x3) (x7) (x8) (x9) (x10) σ) else (if x10 = (0:Int32) then ((f_found (x1) (((12:Int32) + x11)) (x4) (x6) σ).bind (fun v2 => (f_onRing (x1) (x11) (x3) (x4) (x6) σ).bind (fun v3 => if v3 = (0:Int32) then ((rd σ 41 v2).bind (fun v4 => if v4 < (0:Int32) then (f_follow_97 (f_follow_26 n) (x1) (x2) (x3) (x4) (x6) (x7) (x9) (x11) (x12) (v3) σ) else (f_follow_99 (f_follow_26 n) (x1) (x2) (x3) (x4) (x6) (x7) (x11) (x12) (v3) (v2) σ))) else (f_follow_97 (f_follow_26 n) (x1) (x2) (x3) (x4) (x6) (x7) (x9) (x11) (x12) (v3) σ)))) else (f_follow_128 (x2) (x3) (x7) (x8) (x9) (x10) σ))))) = some q := h
    refine lv_iload hx hb dX12_follow_26 (lv_at hl 11 rfl) ?_
    refine lv_iconst (v := (3:Int32)) hx hb dX12_follow_28 (by decide) ?_
    refine lv_icmp_ge (tgt := 128) hx hb dX12_follow_29 rfl (fun hc => ?_) (fun hc => ?_)
    · have h := ip hc h
      exact N_follow_128 X hP hF (lv_sub hl [0, 2, 3, 6, 7, 8, 9] rfl) h
    · have h := ine hc h
      refine lv_aload_n hx hb dX12_follow_32 rfl (lv_at hl 0 rfl) ?_
      refine lv_iload_n hx hb dX12_follow_33 rfl (lv_at hl 3 rfl) ?_
      refine lv_iload hx hb dX12_follow_34 (lv_at hl 10 rfl) ?_
      obtain ⟨v1, hv1, h⟩ := ob h
      refine cl_bit X hP hv1 ⟨Nat.le_of_ble_eq_true rfl, Nat.le_of_ble_eq_true rfl⟩ hl.1 (Nat.le_of_ble_eq_true rfl) dX12_follow_36 ?_
      refine lv_if_eq (tgt := 128) hx hb dX12_follow_39 rfl (fun hc => ?_) (fun hc => ?_)
      · have h := ip hc h
        exact N_follow_128 X hP hF (lv_sub hl [0, 2, 3, 6, 7, 8, 9] rfl) h
      · have h := ine hc h
        refine lv_iload hx hb dX12_follow_42 (lv_at hl 9 rfl) ?_
        refine lv_if_ne (tgt := 128) hx hb dX12_follow_44 rfl (fun hc => ?_) (fun hc => ?_)
        · have h := ine hc h
          exact N_follow_128 X hP hF (lv_sub hl [0, 2, 3, 6, 7, 8, 9] rfl) h
        · have h := ip hc h
          refine lv_aload_n hx hb dX12_follow_47 rfl (lv_at hl 0 rfl) ?_
          refine lv_iload_n hx hb dX12_follow_48 rfl (lv_at hl 1 rfl) ?_
          refine lv_bipush (v := (12:Int32)) hx hb dX12_follow_49 (by decide) ?_
          refine lv_iload hx hb dX12_follow_51 (lv_at hl 10 rfl) ?_
          refine lv_iadd hx hb dX12_follow_53 ?_
          refine lv_iload hx hb dX12_follow_54 (lv_at hl 4 rfl) ?_
          refine lv_iload hx hb dX12_follow_56 (lv_at hl 5 rfl) ?_
          obtain ⟨v2, hv2, h⟩ := ob h
          refine cl_found X hP hv2 ⟨Nat.le_of_ble_eq_true rfl, Nat.le_of_ble_eq_true rfl⟩ hl.1 (Nat.le_of_ble_eq_true rfl) dX12_follow_58 ?_
          refine lv_istore hx hb dX12_follow_61 hl (Nat.le_of_ble_eq_true rfl) rfl (fun ls (hl : lv_has ls 15 [(13, .int v2), (0, .ref mb), (1, .int x1), (2, .int x2), (3, .int x3), (4, .int x4), (6, .int x6), (7, .int x7), (8, .int x8), (9, .int x9), (10, .int x10), (11, .int x11), (12, .int x12)]) => ?_)
          refine lv_aload_n hx hb dX12_follow_63 rfl (lv_at hl 1 rfl) ?_
          refine lv_iload_n hx hb dX12_follow_64 rfl (lv_at hl 2 rfl) ?_
          refine lv_iload hx hb dX12_follow_65 (lv_at hl 11 rfl) ?_
          refine lv_iload_n hx hb dX12_follow_67 rfl (lv_at hl 4 rfl) ?_
          refine lv_iload hx hb dX12_follow_68 (lv_at hl 5 rfl) ?_
          refine lv_iload hx hb dX12_follow_70 (lv_at hl 6 rfl) ?_
          obtain ⟨v3, hv3, h⟩ := ob h
          refine cl_onRing X hP hv3 ⟨Nat.le_of_ble_eq_true rfl, Nat.le_of_ble_eq_true rfl⟩ hl.1 (Nat.le_of_ble_eq_true rfl) dX12_follow_72 ?_
          refine lv_istore hx hb dX12_follow_75 hl (Nat.le_of_ble_eq_true rfl) rfl (fun ls (hl : lv_has ls 15 [(14, .int v3), (13, .int v2), (0, .ref mb), (1, .int x1), (2, .int x2), (3, .int x3), (4, .int x4), (6, .int x6), (7, .int x7), (8, .int x8), (9, .int x9), (10, .int x10), (11, .int x11), (12, .int x12)]) => ?_)
          refine lv_iload hx hb dX12_follow_77 (lv_at hl 0 rfl) ?_
          refine lv_if_ne (tgt := 97) hx hb dX12_follow_79 rfl (fun hc => ?_) (fun hc => ?_)
          · have h := ine hc h
            exact N_follow_97 X hP hF ih (lv_sub hl [2, 3, 4, 5, 6, 7, 8, 10, 12, 13, 0] rfl) h
          · have h := ip hc h
            refine lv_aload_n hx hb dX12_follow_82 rfl (lv_at hl 2 rfl) ?_
            refine mg_eu X hP dX12_follow_83 ?_
            refine lv_iload hx hb dX12_follow_86 (lv_at hl 1 rfl) ?_
            obtain ⟨v4, hv4, h⟩ := ob h
            refine m_ald X hP hv4 dX12_follow_88 ?_
            refine lv_if_lt (tgt := 97) hx hb dX12_follow_89 rfl (fun hc => ?_) (fun hc => ?_)
            · have h := ip hc h
              exact N_follow_97 X hP hF ih (lv_sub hl [2, 3, 4, 5, 6, 7, 8, 10, 12, 13, 0] rfl) h
            · have h := ine hc h
              refine lv_iload hx hb dX12_follow_92 (lv_at hl 1 rfl) ?_
              refine lv_goto (tgt := 99) hx hb dX12_follow_94 rfl ?_
              exact N_follow_99 X hP hF ih (lv_sub hl [2, 3, 4, 5, 6, 7, 8, 12, 13, 0] rfl) h
set_option maxRecDepth 20000 in
set_option maxHeartbeats 4000000 in
theorem K_follow (l : Launch) (D : mD) (mb : Nat) (σ : mS) (x1 : Int32) (x2 : Int32) (x3 : Int32) (x4 : Int32) (x5 : Int32) (x6 : Int32) {q : mS} (h : f_follow x1 x2 x3 x4 x5 x6 σ = some q) : Met l yX12_follow (Cond.code yX12_follow cX12_follow 15 none :: BG) (rM 9 218) (mPc D mb σ [.int x1, .int x2, .int x3, .int x4, .int x5, .int x6]) (mQw D mb q none) 0 0 (mReg mb) := by
  refine Met.ofW (cc := cX12_follow) (maxL := 15) (ret := none) (by decide) rfl ?_
  intro p e s m args below meth c s₁ B hml hv
  obtain ⟨rfl, hP, hK⟩ := hv
  have X := mX_of B hml rfl hK
  have hx := X.1
  have hb := X.2.1
  have hown := X.2.2.2.1
  have hts := X.2.2.2.2.1
  have hl := lv_entry (.ref mb :: [.int x1, .int x2, .int x3, .int x4, .int x5, .int x6]) (n := 15) (Nat.le_of_ble_eq_true rfl)
  rw [lg_entry_eq]
  generalize (lg_sl (.ref mb :: [.int x1, .int x2, .int x3, .int x4, .int x5, .int x6]) ++ List.replicate (15 - (lg_sl (.ref mb :: [.int x1, .int x2, .int x3, .int x4, .int x5, .int x6])).length) Slot.unset).toArray = ls at hl ⊢
  have hl : lv_has ls 15 [(0, .ref mb), (1, .int x1), (2, .int x2), (3, .int x3), (4, .int x4), (5, .int x5), (6, .int x6)] := hl
  have hF : mF mb s.heap s.heap [] := mF.rf
  show mWw p l e 9 218 s m (Value.ref mb :: [.int x1, .int x2, .int x3, .int x4, .int x5, .int x6]).toArray below meth c D mb q none s.heap [] (F0 m 0 ls [])
  have h : (f_follow_26 4000 (x1) (x2) (x3) (x4) (x6) (((3:Int32) * (((30:Int32) * x5) + x1))) (x2) (((-1):Int32)) ((0:Int32)) (x2) ((0:Int32)) σ) = some q := h
  refine lv_iconst (v := (3:Int32)) hx hb dX12_follow_0 (by decide) ?_
  refine lv_bipush (v := (30:Int32)) hx hb dX12_follow_1 (by decide) ?_
  refine lv_iload hx hb dX12_follow_3 (lv_at hl 5 rfl) ?_
  refine lv_imul hx hb dX12_follow_5 ?_
  refine lv_iload_n hx hb dX12_follow_6 rfl (lv_at hl 1 rfl) ?_
  refine lv_iadd hx hb dX12_follow_7 ?_
  refine lv_imul hx hb dX12_follow_8 ?_
  refine lv_istore hx hb dX12_follow_9 hl (Nat.le_of_ble_eq_true rfl) rfl (fun ls (hl : lv_has ls 15 [(7, .int ((3:Int32) * (((30:Int32) * x5) + x1))), (0, .ref mb), (1, .int x1), (2, .int x2), (3, .int x3), (4, .int x4), (5, .int x5), (6, .int x6)]) => ?_)
  refine lv_iload_n hx hb dX12_follow_11 rfl (lv_at hl 3 rfl) ?_
  refine lv_istore hx hb dX12_follow_12 hl (Nat.le_of_ble_eq_true rfl) rfl (fun ls (hl : lv_has ls 15 [(8, .int x2), (7, .int ((3:Int32) * (((30:Int32) * x5) + x1))), (0, .ref mb), (1, .int x1), (2, .int x2), (3, .int x3), (4, .int x4), (5, .int x5), (6, .int x6)]) => ?_)
  refine lv_iconst (v := ((-1):Int32)) hx hb dX12_follow_14 (by decide) ?_
  refine lv_istore hx hb dX12_follow_15 hl (Nat.le_of_ble_eq_true rfl) rfl (fun ls (hl : lv_has ls 15 [(9, .int ((-1):Int32)), (8, .int x2), (7, .int ((3:Int32) * (((30:Int32) * x5) + x1))), (0, .ref mb), (1, .int x1), (2, .int x2), (3, .int x3), (4, .int x4), (5, .int x5), (6, .int x6)]) => ?_)
  refine lv_iconst (v := (0:Int32)) hx hb dX12_follow_17 (by decide) ?_
  refine lv_istore hx hb dX12_follow_18 hl (Nat.le_of_ble_eq_true rfl) rfl (fun ls (hl : lv_has ls 15 [(10, .int (0:Int32)), (9, .int ((-1):Int32)), (8, .int x2), (7, .int ((3:Int32) * (((30:Int32) * x5) + x1))), (0, .ref mb), (1, .int x1), (2, .int x2), (3, .int x3), (4, .int x4), (5, .int x5), (6, .int x6)]) => ?_)
  refine lv_iload_n hx hb dX12_follow_20 rfl (lv_at hl 6 rfl) ?_
  refine lv_istore hx hb dX12_follow_21 hl (Nat.le_of_ble_eq_true rfl) rfl (fun ls (hl : lv_has ls 15 [(11, .int x2), (10, .int (0:Int32)), (9, .int ((-1):Int32)), (8, .int x2), (7, .int ((3:Int32) * (((30:Int32) * x5) + x1))), (0, .ref mb), (1, .int x1), (2, .int x2), (3, .int x3), (4, .int x4), (5, .int x5), (6, .int x6)]) => ?_)
  refine lv_iconst (v := (0:Int32)) hx hb dX12_follow_23 (by decide) ?_
  refine lv_istore hx hb dX12_follow_24 hl (Nat.le_of_ble_eq_true rfl) rfl (fun ls (hl : lv_has ls 15 [(12, .int (0:Int32)), (11, .int x2), (10, .int (0:Int32)), (9, .int ((-1):Int32)), (8, .int x2), (7, .int ((3:Int32) * (((30:Int32) * x5) + x1))), (0, .ref mb), (1, .int x1), (2, .int x2), (3, .int x3), (4, .int x4), (5, .int x5), (6, .int x6)]) => ?_)
  exact N_follow_26 X hP hF (lv_sub hl [6, 7, 8, 9, 10, 12, 5, 4, 3, 2, 1, 0] rfl) h
theorem cl_follow {p : Program} {l : Launch} {e : Env} {s : State} {m : MethodId} {args : Array Value} {below : List Frame} {meth : Method} {c : Code} {D : mD} {mb : Nat} {H : Heap} {locs : List Loc} {Q : State → Prop} {cc : ByteArray} {pc fR lR nL : Nat} {ls : Array Slot} {rest : List Value} {ret : Option FieldType} {σ : mS} (X : mX p s m args meth c cc nL ret D) (hP : mP D mb σ H) (hF : mF mb s.heap H locs) {x1 : Int32} {x2 : Int32} {x3 : Int32} {x4 : Int32} {x5 : Int32} {x6 : Int32} {q : mS} (h : f_follow x1 x2 x3 x4 x5 x6 σ = some q) (hr : 9 + 1 ≤ fR ∧ 8 + (15 + 11) + 218 ≤ lR) (hl : ls.size = nL) (hW : (rest.map fun v => v.category).sum ≤ 8) (hdg : decode cc pc = .ok (.invokevirtual 378, 3)) (kk : ∀ (H1 : Heap) (locs1 : List Loc), mP D mb q H1 → mF mb s.heap H1 locs1 → W p l e (rM fR lR) s m args below meth c H1 locs1 0 0 Q (F0 m (pc + 3) ls rest)) : W p l e (rM fR lR) s m args below meth c H locs 0 0 Q (F0 m pc ls (.int x6 :: .int x5 :: .int x4 :: .int x3 :: .int x2 :: .int x1 :: .ref mb :: rest)) := m_cv (m_run (n := 6) X (K_follow l D mb σ x1 x2 x3 x4 x5 x6 h) ⟨w_2232, w_2234, w_128, w_2235⟩ (hyX rfl (by decide +kernel)) rfl hr hP hl hW hdg rfl) hF kk
-- variables(IIIZ)V
def f_variables_289 (k259 : Int32 → Int32 → Int32 → Int32 → Int32 → Int32 → mS → Option (mS)) (x1 : Int32) (x2 : Int32) (x3 : Int32) (x4 : Int32) (x5 : Int32) (x6 : Int32) (σ : mS) : Option (mS) := k259 (x1) (x2) (x3) (x4) (x5) ((x6 + (1:Int32))) σ
def f_variables_259  : Nat → Int32 → Int32 → Int32 → Int32 → Int32 → Int32 → mS → Option (mS)
  | 0, _, _, _, _, _, _, _ => none
  | n + 1, x1, x2, x3, x4, x5, x6, σ => if (3:Int32) ≤ x6 then (some σ) else ((f_bit (x5) (x6)).bind (fun v1 => if v1 = (0:Int32) then (f_variables_289 (f_variables_259 n) (x1) (x2) (x3) (x4) (x5) (x6) σ) else ((f_follow (x1) (x6) (x5) (x2) (x3) (x4) σ).bind (fun v2 => f_variables_289 (f_variables_259 n) (x1) (x2) (x3) (x4) (x5) (x6) v2))))
def f_variables_249 (k6 : Int32 → Int32 → Int32 → Int32 → Int32 → Int32 → mS → Option (mS)) (x1 : Int32) (x2 : Int32) (x3 : Int32) (x4 : Int32) (x5 : Int32) (x6 : Int32) (y1 : Int32) (y2 : Int32) (σ : mS) : Option (mS) := (wr σ 45 y1 y2).bind (fun s1 => k6 (x1) (x2) (x3) (x4) (x5) ((x6 + (1:Int32))) s1)
def f_variables_238 (k6 : Int32 → Int32 → Int32 → Int32 → Int32 → Int32 → mS → Option (mS)) (x1 : Int32) (x2 : Int32) (x3 : Int32) (x4 : Int32) (x5 : Int32) (x6 : Int32) (y1 : Int32) (σ : mS) : Option (mS) := f_variables_249 k6 (x1) (x2) (x3) (x4) (x5) (x6) (y1) ((0:Int32)) σ
def f_variables_181 (k6 : Int32 → Int32 → Int32 → Int32 → Int32 → Int32 → mS → Option (mS)) (x1 : Int32) (x2 : Int32) (x3 : Int32) (x4 : Int32) (x5 : Int32) (x6 : Int32) (x7 : Int32) (x8 : Int32) (x9 : Int32) (x10 : Int32) (y1 : Int32) (y2 : Int32) (σ : mS) : Option (mS) := (wr σ 44 y1 y2).bind (fun s1 => if x10 = (0:Int32) then ((rd s1 44 x8).bind (fun v2 => if v2 < (0:Int32) then (f_variables_238 k6 (x1) (x2) (x3) (x4) (x5) (x6) (x8) s1) else ((rd s1 44 x8).bind (fun v3 => if v3 = (6:Int32) then (f_variables_238 k6 (x1) (x2) (x3) (x4) (x5) (x6) (x8) s1) else ((rd s1 38 x7).bind (fun v4 => f_variables_249 k6 (x1) (x2) (x3) (x4) (x5) (x6) (x8) (v4) s1)))))) else ((rd s1 77 x1).bind (fun v5 => if (0:Int32) ≤ v5 then ((rd s1 45 x9).bind (fun v6 => f_variables_249 k6 (x1) (x2) (x3) (x4) (x5) (x6) (x8) (v6) s1)) else (f_variables_249 k6 (x1) (x2) (x3) (x4) (x5) (x6) (x8) ((0:Int32)) s1))))
def f_variables_121 (k6 : Int32 → Int32 → Int32 → Int32 → Int32 → Int32 → mS → Option (mS)) (x1 : Int32) (x2 : Int32) (x3 : Int32) (x4 : Int32) (x6 : Int32) (x7 : Int32) (x8 : Int32) (x9 : Int32) (x10 : Int32) (y0 : Int32) (y1 : Int32) (σ : mS) : Option (mS) := if x10 = (0:Int32) then ((rd σ 37 x7).bind (fun v1 => if v1 ≤ (6:Int32) then ((rd σ 37 x7).bind (fun v2 => f_variables_181 k6 (x1) (x2) (x3) (x4) ((y0 ||| y1)) (x6) (x7) (x8) (x9) (x10) (x8) (v2) σ)) else (f_variables_181 k6 (x1) (x2) (x3) (x4) ((y0 ||| y1)) (x6) (x7) (x8) (x9) (x10) (x8) (((-1):Int32)) σ))) else ((rd σ 77 x1).bind (fun v3 => if (0:Int32) ≤ v3 then ((rd σ 44 x9).bind (fun v4 => f_variables_181 k6 (x1) (x2) (x3) (x4) ((y0 ||| y1)) (x6) (x7) (x8) (x9) (x10) (x8) (v4) σ)) else (f_variables_181 k6 (x1) (x2) (x3) (x4) ((y0 ||| y1)) (x6) (x7) (x8) (x9) (x10) (x8) (((-1):Int32)) σ)))
def f_variables_120 (k6 : Int32 → Int32 → Int32 → Int32 → Int32 → Int32 → mS → Option (mS)) (x1 : Int32) (x2 : Int32) (x3 : Int32) (x4 : Int32) (x6 : Int32) (x7 : Int32) (x8 : Int32) (x9 : Int32) (x10 : Int32) (y0 : Int32) (σ : mS) : Option (mS) := f_variables_121 k6 (x1) (x2) (x3) (x4) (x6) (x7) (x8) (x9) (x10) (y0) ((0:Int32)) σ
def f_variables_92 (k6 : Int32 → Int32 → Int32 → Int32 → Int32 → Int32 → mS → Option (mS)) (x1 : Int32) (x2 : Int32) (x3 : Int32) (x4 : Int32) (x5 : Int32) (x6 : Int32) (x7 : Int32) (x8 : Int32) (x9 : Int32) (y0 : Int32) (σ : mS) : Option (mS) := if x7 < (0:Int32) then (f_variables_120 k6 (x1) (x2) (x3) (x4) (x6) (x7) (x8) (x9) (y0) (x5) σ) else ((rd σ 37 x7).bind (fun v1 => if v1 = (11:Int32) then (f_variables_121 k6 (x1) (x2) (x3) (x4) (x6) (x7) (x8) (x9) (y0) (x5) (((1:Int32) <<< (x6 &&& 31))) σ) else (f_variables_120 k6 (x1) (x2) (x3) (x4) (x6) (x7) (x8) (x9) (y0) (x5) σ)))
def f_variables_87 (k6 : Int32 → Int32 → Int32 → Int32 → Int32 → Int32 → mS → Option (mS)) (x1 : Int32) (x2 : Int32) (x3 : Int32) (x4 : Int32) (x5 : Int32) (x6 : Int32) (x7 : Int32) (x8 : Int32) (x9 : Int32) (σ : mS) : Option (mS) := f_variables_92 k6 (x1) (x2) (x3) (x4) (x5) (x6) (x7) (x8) (x9) ((1:Int32)) σ
def f_variables_6  : Nat → Int32 → Int32 → Int32 → Int32 → Int32 → Int32 → mS → Option (mS)
  | 0, _, _, _, _, _, _, _ => none
  | n + 1, x1, x2, x3, x4, x5, x6, σ => if (3:Int32) ≤ x6 then (f_variables_259 4000 (x1) (x2) (x3) (x4) (x5) ((0:Int32)) σ) else ((f_found (x1) (((12:Int32) + x6)) (x2) (x4) σ).bind (fun v1 => (rd σ 77 x1).bind (fun v2 => if v1 < (0:Int32) then (f_variables_87 (f_variables_6 n) (x1) (x2) (x3) (x4) (x5) (x6) (v1) ((((3:Int32) * (((30:Int32) * x3) + x1)) + x6)) ((((3:Int32) * (((30:Int32) * x2) + v2)) + x6)) σ) else ((rd σ 37 v1).bind (fun v3 => if v3 = (8:Int32) then (f_variables_87 (f_variables_6 n) (x1) (x2) (x3) (x4) (x5) (x6) (v1) ((((3:Int32) * (((30:Int32) * x3) + x1)) + x6)) ((((3:Int32) * (((30:Int32) * x2) + v2)) + x6)) σ) else ((rd σ 37 v1).bind (fun v4 => if v4 = (9:Int32) then (f_variables_87 (f_variables_6 n) (x1) (x2) (x3) (x4) (x5) (x6) (v1) ((((3:Int32) * (((30:Int32) * x3) + x1)) + x6)) ((((3:Int32) * (((30:Int32) * x2) + v2)) + x6)) σ) else (f_variables_92 (f_variables_6 n) (x1) (x2) (x3) (x4) (x5) (x6) (v1) ((((3:Int32) * (((30:Int32) * x3) + x1)) + x6)) ((((3:Int32) * (((30:Int32) * x2) + v2)) + x6)) ((0:Int32)) σ))))))))
def f_variables (x1 : Int32) (x2 : Int32) (x3 : Int32) (x4 : Int32) (σ : mS) : Option (mS) := f_variables_6 4000 (x1) (x2) (x3) (x4) ((0:Int32)) ((0:Int32)) σ
set_option maxRecDepth 20000 in
set_option maxHeartbeats 4000000 in
theorem N_variables_289 {p : Program} {l : Launch} {e : Env} {s : State} {m : MethodId} {args : Array Value} {below : List Frame} {meth : Method} {c : Code} {D : mD} {mb : Nat} {k259 : Int32 → Int32 → Int32 → Int32 → Int32 → Int32 → mS → Option (mS)}  {x1 : Int32} {x2 : Int32} {x3 : Int32} {x4 : Int32} {x5 : Int32} {x6 : Int32} {σ : mS} {H : Heap} {locs : List Loc} {ls : Array Slot} {q : mS} (X : mX p s m args meth c cX12_variables 11 none D) (hP : mP D mb σ H) (hF : mF mb s.heap H locs) (hk259 : ∀ {x1 : Int32} {x2 : Int32} {x3 : Int32} {x4 : Int32} {x5 : Int32} {x6 : Int32} {σ : mS} {H : Heap} {locs : List Loc} {ls : Array Slot}, mP D mb σ H → mF mb s.heap H locs → lv_has ls 11 [(0, .ref mb), (1, .int x1), (2, .int x2), (3, .int x3), (4, .int x4), (5, .int x5), (6, .int x6)] → k259 x1 x2 x3 x4 x5 x6 σ = some q → mWw p l e 10 252 s m args below meth c D mb q none H locs (F0 m 259 ls [])) (hl : lv_has ls 11 [(0, .ref mb), (1, .int x1), (2, .int x2), (3, .int x3), (4, .int x4), (5, .int x5), (6, .int x6)]) (h : f_variables_289 k259 x1 x2 x3 x4 x5 x6 σ = some q) : mWw p l e 10 252 s m args below meth c D mb q none H locs (F0 m 289 ls []) := by
  have hx := X.1
  have hb := X.2.1
  have hown := X.2.2.2.1
  have hts := X.2.2.2.2.1
  have h : (k259 (x1) (x2) (x3) (x4) (x5) ((x6 + (1:Int32))) σ) = some q := h
  refine lv_iinc (v := (x6 + (1:Int32))) hx hb dX12_variables_289 hl (k := 6) rfl rfl (Nat.le_of_ble_eq_true rfl) rfl (fun ls (hl : lv_has ls 11 [(6, .int (x6 + (1:Int32))), (0, .ref mb), (1, .int x1), (2, .int x2), (3, .int x3), (4, .int x4), (5, .int x5)]) => ?_)
  refine lv_goto (tgt := 259) hx hb dX12_variables_292 rfl ?_
  exact hk259 hP hF (lv_sub hl [1, 2, 3, 4, 5, 6, 0] rfl) h
set_option maxRecDepth 20000 in
set_option maxHeartbeats 4000000 in
theorem N_variables_259 {p : Program} {l : Launch} {e : Env} {s : State} {m : MethodId} {args : Array Value} {below : List Frame} {meth : Method} {c : Code} {D : mD} {mb : Nat}  {n : Nat} {x1 : Int32} {x2 : Int32} {x3 : Int32} {x4 : Int32} {x5 : Int32} {x6 : Int32} {σ : mS} {H : Heap} {locs : List Loc} {ls : Array Slot} {q : mS} (X : mX p s m args meth c cX12_variables 11 none D) (hP : mP D mb σ H) (hF : mF mb s.heap H locs)  (hl : lv_has ls 11 [(0, .ref mb), (1, .int x1), (2, .int x2), (3, .int x3), (4, .int x4), (5, .int x5), (6, .int x6)]) (h : f_variables_259  n x1 x2 x3 x4 x5 x6 σ = some q) : mWw p l e 10 252 s m args below meth c D mb q none H locs (F0 m 259 ls []) := by
  have hx := X.1
  have hb := X.2.1
  have hown := X.2.2.2.1
  have hts := X.2.2.2.2.1
  induction n generalizing x1 x2 x3 x4 x5 x6 σ H locs ls with
  | zero => exact absurd (show none = some q from h) (by simp)
  | succ n ih =>
    have h : (if (3:Int32) ≤ x6 then (some σ) else ((f_bit (x5) (x6)).bind (fun v1 => if v1 = (0:Int32) then (f_variables_289 (f_variables_259 n) (x1) (x2) (x3) (x4) (x5) (x6) σ) else ((f_follow (x1) (x6) (x5) (x2) (x3) (x4) σ).bind (fun v2 => f_variables_289 (f_variables_259 n) (x1) (x2) (x3) (x4) (x5) (x6) v2))))) = some q := h
    refine lv_iload hx hb dX12_variables_259 (lv_at hl 6 rfl) ?_
    refine lv_iconst (v := (3:Int32)) hx hb dX12_variables_261 (by decide) ?_
    refine lv_icmp_ge (tgt := 295) hx hb dX12_variables_262 rfl (fun hc => ?_) (fun hc => ?_)
    · have h := ip hc h
      obtain rfl := sj h
      exact m_wv X hP hF dX12_variables_295
    · have h := ine hc h
      refine lv_aload_n hx hb dX12_variables_265 rfl (lv_at hl 0 rfl) ?_
      refine lv_iload hx hb dX12_variables_266 (lv_at hl 5 rfl) ?_
      refine lv_iload hx hb dX12_variables_268 (lv_at hl 6 rfl) ?_
      obtain ⟨v1, hv1, h⟩ := ob h
      refine cl_bit X hP hv1 ⟨Nat.le_of_ble_eq_true rfl, Nat.le_of_ble_eq_true rfl⟩ hl.1 (Nat.le_of_ble_eq_true rfl) dX12_variables_270 ?_
      refine lv_if_eq (tgt := 289) hx hb dX12_variables_273 rfl (fun hc => ?_) (fun hc => ?_)
      · have h := ip hc h
        exact N_variables_289 X hP hF ih (lv_sub hl [0, 1, 2, 3, 4, 5, 6] rfl) h
      · have h := ine hc h
        refine lv_aload_n hx hb dX12_variables_276 rfl (lv_at hl 0 rfl) ?_
        refine lv_iload_n hx hb dX12_variables_277 rfl (lv_at hl 1 rfl) ?_
        refine lv_iload hx hb dX12_variables_278 (lv_at hl 6 rfl) ?_
        refine lv_iload hx hb dX12_variables_280 (lv_at hl 5 rfl) ?_
        refine lv_iload_n hx hb dX12_variables_282 rfl (lv_at hl 2 rfl) ?_
        refine lv_iload_n hx hb dX12_variables_283 rfl (lv_at hl 3 rfl) ?_
        refine lv_iload hx hb dX12_variables_284 (lv_at hl 4 rfl) ?_
        obtain ⟨v2, hv2, h⟩ := ob h
        refine cl_follow X hP hF hv2 ⟨Nat.le_of_ble_eq_true rfl, Nat.le_of_ble_eq_true rfl⟩ hl.1 (Nat.le_of_ble_eq_true rfl) dX12_variables_286 (fun H locs hP hF => ?_)
        exact N_variables_289 X hP hF ih (lv_sub hl [0, 1, 2, 3, 4, 5, 6] rfl) h
set_option maxRecDepth 20000 in
set_option maxHeartbeats 4000000 in
theorem N_variables_249 {p : Program} {l : Launch} {e : Env} {s : State} {m : MethodId} {args : Array Value} {below : List Frame} {meth : Method} {c : Code} {D : mD} {mb : Nat} {k6 : Int32 → Int32 → Int32 → Int32 → Int32 → Int32 → mS → Option (mS)}  {x1 : Int32} {x2 : Int32} {x3 : Int32} {x4 : Int32} {x5 : Int32} {x6 : Int32} {y1 : Int32} {y2 : Int32} {σ : mS} {H : Heap} {locs : List Loc} {ls : Array Slot} {q : mS} (X : mX p s m args meth c cX12_variables 11 none D) (hP : mP D mb σ H) (hF : mF mb s.heap H locs) (hk6 : ∀ {x1 : Int32} {x2 : Int32} {x3 : Int32} {x4 : Int32} {x5 : Int32} {x6 : Int32} {σ : mS} {H : Heap} {locs : List Loc} {ls : Array Slot}, mP D mb σ H → mF mb s.heap H locs → lv_has ls 11 [(0, .ref mb), (1, .int x1), (2, .int x2), (3, .int x3), (4, .int x4), (5, .int x5), (6, .int x6)] → k6 x1 x2 x3 x4 x5 x6 σ = some q → mWw p l e 10 252 s m args below meth c D mb q none H locs (F0 m 6 ls [])) (hl : lv_has ls 11 [(0, .ref mb), (1, .int x1), (2, .int x2), (3, .int x3), (4, .int x4), (5, .int x5), (6, .int x6)]) (h : f_variables_249 k6 x1 x2 x3 x4 x5 x6 y1 y2 σ = some q) : mWw p l e 10 252 s m args below meth c D mb q none H locs (F0 m 249 ls [.int y2, .int y1, .ref (mA mb 45)]) := by
  have hx := X.1
  have hb := X.2.1
  have hown := X.2.2.2.1
  have hts := X.2.2.2.2.1
  have h : ((wr σ 45 y1 y2).bind (fun s1 => k6 (x1) (x2) (x3) (x4) (x5) ((x6 + (1:Int32))) s1)) = some q := h
  obtain ⟨s1, hs1, h⟩ := ob h
  refine m_ast X hP hF hs1 dX12_variables_249 (fun H locs hP hF => ?_)
  refine lv_iinc (v := (x6 + (1:Int32))) hx hb dX12_variables_250 hl (k := 6) rfl rfl (Nat.le_of_ble_eq_true rfl) rfl (fun ls (hl : lv_has ls 11 [(6, .int (x6 + (1:Int32))), (0, .ref mb), (1, .int x1), (2, .int x2), (3, .int x3), (4, .int x4), (5, .int x5)]) => ?_)
  refine lv_goto (tgt := 6) hx hb dX12_variables_253 rfl ?_
  exact hk6 hP hF (lv_sub hl [1, 2, 3, 4, 5, 6, 0] rfl) h
set_option maxRecDepth 20000 in
set_option maxHeartbeats 4000000 in
theorem N_variables_238 {p : Program} {l : Launch} {e : Env} {s : State} {m : MethodId} {args : Array Value} {below : List Frame} {meth : Method} {c : Code} {D : mD} {mb : Nat} {k6 : Int32 → Int32 → Int32 → Int32 → Int32 → Int32 → mS → Option (mS)}  {x1 : Int32} {x2 : Int32} {x3 : Int32} {x4 : Int32} {x5 : Int32} {x6 : Int32} {y1 : Int32} {σ : mS} {H : Heap} {locs : List Loc} {ls : Array Slot} {q : mS} (X : mX p s m args meth c cX12_variables 11 none D) (hP : mP D mb σ H) (hF : mF mb s.heap H locs) (hk6 : ∀ {x1 : Int32} {x2 : Int32} {x3 : Int32} {x4 : Int32} {x5 : Int32} {x6 : Int32} {σ : mS} {H : Heap} {locs : List Loc} {ls : Array Slot}, mP D mb σ H → mF mb s.heap H locs → lv_has ls 11 [(0, .ref mb), (1, .int x1), (2, .int x2), (3, .int x3), (4, .int x4), (5, .int x5), (6, .int x6)] → k6 x1 x2 x3 x4 x5 x6 σ = some q → mWw p l e 10 252 s m args below meth c D mb q none H locs (F0 m 6 ls [])) (hl : lv_has ls 11 [(0, .ref mb), (1, .int x1), (2, .int x2), (3, .int x3), (4, .int x4), (5, .int x5), (6, .int x6)]) (h : f_variables_238 k6 x1 x2 x3 x4 x5 x6 y1 σ = some q) : mWw p l e 10 252 s m args below meth c D mb q none H locs (F0 m 238 ls [.int y1, .ref (mA mb 45)]) := by
  have hx := X.1
  have hb := X.2.1
  have hown := X.2.2.2.1
  have hts := X.2.2.2.2.1
  have h : (f_variables_249 k6 (x1) (x2) (x3) (x4) (x5) (x6) (y1) ((0:Int32)) σ) = some q := h
  refine lv_iconst (v := (0:Int32)) hx hb dX12_variables_238 (by decide) ?_
  refine lv_goto (tgt := 249) hx hb dX12_variables_239 rfl ?_
  exact N_variables_249 X hP hF hk6 (lv_sub hl [0, 1, 2, 3, 4, 5, 6] rfl) h
set_option maxRecDepth 20000 in
set_option maxHeartbeats 4000000 in
theorem N_variables_181 {p : Program} {l : Launch} {e : Env} {s : State} {m : MethodId} {args : Array Value} {below : List Frame} {meth : Method} {c : Code} {D : mD} {mb : Nat} {k6 : Int32 → Int32 → Int32 → Int32 → Int32 → Int32 → mS → Option (mS)}  {x1 : Int32} {x2 : Int32} {x3 : Int32} {x4 : Int32} {x5 : Int32} {x6 : Int32} {x7 : Int32} {x8 : Int32} {x9 : Int32} {x10 : Int32} {y1 : Int32} {y2 : Int32} {σ : mS} {H : Heap} {locs : List Loc} {ls : Array Slot} {q : mS} (X : mX p s m args meth c cX12_variables 11 none D) (hP : mP D mb σ H) (hF : mF mb s.heap H locs) (hk6 : ∀ {x1 : Int32} {x2 : Int32} {x3 : Int32} {x4 : Int32} {x5 : Int32} {x6 : Int32} {σ : mS} {H : Heap} {locs : List Loc} {ls : Array Slot}, mP D mb σ H → mF mb s.heap H locs → lv_has ls 11 [(0, .ref mb), (1, .int x1), (2, .int x2), (3, .int x3), (4, .int x4), (5, .int x5), (6, .int x6)] → k6 x1 x2 x3 x4 x5 x6 σ = some q → mWw p l e 10 252 s m args below meth c D mb q none H locs (F0 m 6 ls [])) (hl : lv_has ls 11 [(0, .ref mb), (1, .int x1), (2, .int x2), (3, .int x3), (4, .int x4), (5, .int x5), (6, .int x6), (7, .int x7), (8, .int x8), (9, .int x9), (10, .int x10)]) (h : f_variables_181 k6 x1 x2 x3 x4 x5 x6 x7 x8 x9 x10 y1 y2 σ = some q) : mWw p l e 10 252 s m args below meth c D mb q none H locs (F0 m 181 ls [.int y2, .int y1, .ref (mA mb 44)]) := by
  have hx := X.1
  have hb := X.2.1
  have hown := X.2.2.2.1
  have hts := X.2.2.2.2.1
  have h : ((wr σ 44 y1 y2).bind (fun s1 => if x10 = (0:Int32) then ((rd s1 44 x8).bind (fun v2 => if v2 < (0:Int32) then (f_variables_238 k6 (x1) (x2) (x3) (x4) (x5) (x6) (x8) s1) else ((rd s1 44 x8).bind (fun v3 => if v3 = (6:Int32) then (f_variables_238 k6 (x1) (x2) (x3) (x4) (x5) (x6) (x8) s1) else ((rd s1 38 x7).bind (fun v4 => f_variables_249 k6 (x1) (x2) (x3) (x4) (x5) (x6) (x8) (v4) s1)))))) else ((rd s1 77 x1).bind (fun v5 => if (0:Int32) ≤ v5 then ((rd s1 45 x9).bind (fun v6 => f_variables_249 k6 (x1) (x2) (x3) (x4) (x5) (x6) (x8) (v6) s1)) else (f_variables_249 k6 (x1) (x2) (x3) (x4) (x5) (x6) (x8) ((0:Int32)) s1))))) = some q := h
  obtain ⟨s1, hs1, h⟩ := ob h
  refine m_ast X hP hF hs1 dX12_variables_181 (fun H locs hP hF => ?_)
  refine lv_aload_n hx hb dX12_variables_182 rfl (lv_at hl 0 rfl) ?_
  refine mg_vn X hP dX12_variables_183 ?_
  refine lv_iload hx hb dX12_variables_186 (lv_at hl 8 rfl) ?_
  refine lv_iload hx hb dX12_variables_188 (lv_at hl 10 rfl) ?_
  refine lv_if_eq (tgt := 216) hx hb dX12_variables_190 rfl (fun hc => ?_) (fun hc => ?_)
  · have h := ip hc h
    refine lv_aload_n hx hb dX12_variables_216 rfl (lv_at hl 0 rfl) ?_
    refine mg_vu X hP dX12_variables_217 ?_
    refine lv_iload hx hb dX12_variables_220 (lv_at hl 8 rfl) ?_
    obtain ⟨v2, hv2, h⟩ := ob h
    refine m_ald X hP hv2 dX12_variables_222 ?_
    refine lv_if_lt (tgt := 238) hx hb dX12_variables_223 rfl (fun hc => ?_) (fun hc => ?_)
    · have h := ip hc h
      exact N_variables_238 X hP hF hk6 (lv_sub hl [0, 1, 2, 3, 4, 5, 6] rfl) h
    · have h := ine hc h
      refine lv_aload_n hx hb dX12_variables_226 rfl (lv_at hl 0 rfl) ?_
      refine mg_vu X hP dX12_variables_227 ?_
      refine lv_iload hx hb dX12_variables_230 (lv_at hl 8 rfl) ?_
      obtain ⟨v3, hv3, h⟩ := ob h
      refine m_ald X hP hv3 dX12_variables_232 ?_
      refine lv_bipush (v := (6:Int32)) hx hb dX12_variables_233 (by decide) ?_
      refine lv_icmp_ne (tgt := 242) hx hb dX12_variables_235 rfl (fun hc => ?_) (fun hc => ?_)
      · have h := ine hc h
        refine lv_aload_n hx hb dX12_variables_242 rfl (lv_at hl 0 rfl) ?_
        refine mg_dn X hP dX12_variables_243 ?_
        refine lv_iload hx hb dX12_variables_246 (lv_at hl 7 rfl) ?_
        obtain ⟨v4, hv4, h⟩ := ob h
        refine m_ald X hP hv4 dX12_variables_248 ?_
        exact N_variables_249 X hP hF hk6 (lv_sub hl [0, 1, 2, 3, 4, 5, 6] rfl) h
      · have h := ip hc h
        exact N_variables_238 X hP hF hk6 (lv_sub hl [0, 1, 2, 3, 4, 5, 6] rfl) h
  · have h := ine hc h
    refine lv_aload_n hx hb dX12_variables_193 rfl (lv_at hl 0 rfl) ?_
    refine mg_shp X hP dX12_variables_194 ?_
    refine lv_iload_n hx hb dX12_variables_197 rfl (lv_at hl 1 rfl) ?_
    obtain ⟨v5, hv5, h⟩ := ob h
    refine m_ald X hP hv5 dX12_variables_198 ?_
    refine lv_if_ge (tgt := 206) hx hb dX12_variables_199 rfl (fun hc => ?_) (fun hc => ?_)
    · have h := ip hc h
      refine lv_aload_n hx hb dX12_variables_206 rfl (lv_at hl 0 rfl) ?_
      refine mg_vn X hP dX12_variables_207 ?_
      refine lv_iload hx hb dX12_variables_210 (lv_at hl 9 rfl) ?_
      obtain ⟨v6, hv6, h⟩ := ob h
      refine m_ald X hP hv6 dX12_variables_212 ?_
      refine lv_goto (tgt := 249) hx hb dX12_variables_213 rfl ?_
      exact N_variables_249 X hP hF hk6 (lv_sub hl [0, 1, 2, 3, 4, 5, 6] rfl) h
    · have h := ine hc h
      refine lv_iconst (v := (0:Int32)) hx hb dX12_variables_202 (by decide) ?_
      refine lv_goto (tgt := 249) hx hb dX12_variables_203 rfl ?_
      exact N_variables_249 X hP hF hk6 (lv_sub hl [0, 1, 2, 3, 4, 5, 6] rfl) h
set_option maxRecDepth 20000 in
set_option maxHeartbeats 4000000 in
theorem N_variables_121 {p : Program} {l : Launch} {e : Env} {s : State} {m : MethodId} {args : Array Value} {below : List Frame} {meth : Method} {c : Code} {D : mD} {mb : Nat} {k6 : Int32 → Int32 → Int32 → Int32 → Int32 → Int32 → mS → Option (mS)}  {x1 : Int32} {x2 : Int32} {x3 : Int32} {x4 : Int32} {x6 : Int32} {x7 : Int32} {x8 : Int32} {x9 : Int32} {x10 : Int32} {y0 : Int32} {y1 : Int32} {σ : mS} {H : Heap} {locs : List Loc} {ls : Array Slot} {q : mS} (X : mX p s m args meth c cX12_variables 11 none D) (hP : mP D mb σ H) (hF : mF mb s.heap H locs) (hk6 : ∀ {x1 : Int32} {x2 : Int32} {x3 : Int32} {x4 : Int32} {x5 : Int32} {x6 : Int32} {σ : mS} {H : Heap} {locs : List Loc} {ls : Array Slot}, mP D mb σ H → mF mb s.heap H locs → lv_has ls 11 [(0, .ref mb), (1, .int x1), (2, .int x2), (3, .int x3), (4, .int x4), (5, .int x5), (6, .int x6)] → k6 x1 x2 x3 x4 x5 x6 σ = some q → mWw p l e 10 252 s m args below meth c D mb q none H locs (F0 m 6 ls [])) (hl : lv_has ls 11 [(0, .ref mb), (1, .int x1), (2, .int x2), (3, .int x3), (4, .int x4), (6, .int x6), (7, .int x7), (8, .int x8), (9, .int x9), (10, .int x10)]) (h : f_variables_121 k6 x1 x2 x3 x4 x6 x7 x8 x9 x10 y0 y1 σ = some q) : mWw p l e 10 252 s m args below meth c D mb q none H locs (F0 m 121 ls [.int y1, .int y0]) := by
  have hx := X.1
  have hb := X.2.1
  have hown := X.2.2.2.1
  have hts := X.2.2.2.2.1
  have h : (if x10 = (0:Int32) then ((rd σ 37 x7).bind (fun v1 => if v1 ≤ (6:Int32) then ((rd σ 37 x7).bind (fun v2 => f_variables_181 k6 (x1) (x2) (x3) (x4) ((y0 ||| y1)) (x6) (x7) (x8) (x9) (x10) (x8) (v2) σ)) else (f_variables_181 k6 (x1) (x2) (x3) (x4) ((y0 ||| y1)) (x6) (x7) (x8) (x9) (x10) (x8) (((-1):Int32)) σ))) else ((rd σ 77 x1).bind (fun v3 => if (0:Int32) ≤ v3 then ((rd σ 44 x9).bind (fun v4 => f_variables_181 k6 (x1) (x2) (x3) (x4) ((y0 ||| y1)) (x6) (x7) (x8) (x9) (x10) (x8) (v4) σ)) else (f_variables_181 k6 (x1) (x2) (x3) (x4) ((y0 ||| y1)) (x6) (x7) (x8) (x9) (x10) (x8) (((-1):Int32)) σ)))) = some q := h
  refine lv_ior hx hb dX12_variables_121 ?_
  refine lv_istore hx hb dX12_variables_122 hl (Nat.le_of_ble_eq_true rfl) rfl (fun ls (hl : lv_has ls 11 [(5, .int (y0 ||| y1)), (0, .ref mb), (1, .int x1), (2, .int x2), (3, .int x3), (4, .int x4), (6, .int x6), (7, .int x7), (8, .int x8), (9, .int x9), (10, .int x10)]) => ?_)
  refine lv_aload_n hx hb dX12_variables_124 rfl (lv_at hl 1 rfl) ?_
  refine mg_vu X hP dX12_variables_125 ?_
  refine lv_iload hx hb dX12_variables_128 (lv_at hl 8 rfl) ?_
  refine lv_iload hx hb dX12_variables_130 (lv_at hl 10 rfl) ?_
  refine lv_if_eq (tgt := 158) hx hb dX12_variables_132 rfl (fun hc => ?_) (fun hc => ?_)
  · have h := ip hc h
    refine lv_aload_n hx hb dX12_variables_158 rfl (lv_at hl 1 rfl) ?_
    refine mg_du X hP dX12_variables_159 ?_
    refine lv_iload hx hb dX12_variables_162 (lv_at hl 7 rfl) ?_
    obtain ⟨v1, hv1, h⟩ := ob h
    refine m_ald X hP hv1 dX12_variables_164 ?_
    refine lv_bipush (v := (6:Int32)) hx hb dX12_variables_165 (by decide) ?_
    refine lv_icmp_le (tgt := 174) hx hb dX12_variables_167 rfl (fun hc => ?_) (fun hc => ?_)
    · have h := ip hc h
      refine lv_aload_n hx hb dX12_variables_174 rfl (lv_at hl 1 rfl) ?_
      refine mg_du X hP dX12_variables_175 ?_
      refine lv_iload hx hb dX12_variables_178 (lv_at hl 7 rfl) ?_
      obtain ⟨v2, hv2, h⟩ := ob h
      refine m_ald X hP hv2 dX12_variables_180 ?_
      exact N_variables_181 X hP hF hk6 (lv_sub hl [1, 2, 3, 4, 5, 0, 6, 7, 8, 9, 10] rfl) h
    · have h := ine hc h
      refine lv_iconst (v := ((-1):Int32)) hx hb dX12_variables_170 (by decide) ?_
      refine lv_goto (tgt := 181) hx hb dX12_variables_171 rfl ?_
      exact N_variables_181 X hP hF hk6 (lv_sub hl [1, 2, 3, 4, 5, 0, 6, 7, 8, 9, 10] rfl) h
  · have h := ine hc h
    refine lv_aload_n hx hb dX12_variables_135 rfl (lv_at hl 1 rfl) ?_
    refine mg_shp X hP dX12_variables_136 ?_
    refine lv_iload_n hx hb dX12_variables_139 rfl (lv_at hl 2 rfl) ?_
    obtain ⟨v3, hv3, h⟩ := ob h
    refine m_ald X hP hv3 dX12_variables_140 ?_
    refine lv_if_ge (tgt := 148) hx hb dX12_variables_141 rfl (fun hc => ?_) (fun hc => ?_)
    · have h := ip hc h
      refine lv_aload_n hx hb dX12_variables_148 rfl (lv_at hl 1 rfl) ?_
      refine mg_vu X hP dX12_variables_149 ?_
      refine lv_iload hx hb dX12_variables_152 (lv_at hl 9 rfl) ?_
      obtain ⟨v4, hv4, h⟩ := ob h
      refine m_ald X hP hv4 dX12_variables_154 ?_
      refine lv_goto (tgt := 181) hx hb dX12_variables_155 rfl ?_
      exact N_variables_181 X hP hF hk6 (lv_sub hl [1, 2, 3, 4, 5, 0, 6, 7, 8, 9, 10] rfl) h
    · have h := ine hc h
      refine lv_iconst (v := ((-1):Int32)) hx hb dX12_variables_144 (by decide) ?_
      refine lv_goto (tgt := 181) hx hb dX12_variables_145 rfl ?_
      exact N_variables_181 X hP hF hk6 (lv_sub hl [1, 2, 3, 4, 5, 0, 6, 7, 8, 9, 10] rfl) h
set_option maxRecDepth 20000 in
set_option maxHeartbeats 4000000 in
theorem N_variables_120 {p : Program} {l : Launch} {e : Env} {s : State} {m : MethodId} {args : Array Value} {below : List Frame} {meth : Method} {c : Code} {D : mD} {mb : Nat} {k6 : Int32 → Int32 → Int32 → Int32 → Int32 → Int32 → mS → Option (mS)}  {x1 : Int32} {x2 : Int32} {x3 : Int32} {x4 : Int32} {x6 : Int32} {x7 : Int32} {x8 : Int32} {x9 : Int32} {x10 : Int32} {y0 : Int32} {σ : mS} {H : Heap} {locs : List Loc} {ls : Array Slot} {q : mS} (X : mX p s m args meth c cX12_variables 11 none D) (hP : mP D mb σ H) (hF : mF mb s.heap H locs) (hk6 : ∀ {x1 : Int32} {x2 : Int32} {x3 : Int32} {x4 : Int32} {x5 : Int32} {x6 : Int32} {σ : mS} {H : Heap} {locs : List Loc} {ls : Array Slot}, mP D mb σ H → mF mb s.heap H locs → lv_has ls 11 [(0, .ref mb), (1, .int x1), (2, .int x2), (3, .int x3), (4, .int x4), (5, .int x5), (6, .int x6)] → k6 x1 x2 x3 x4 x5 x6 σ = some q → mWw p l e 10 252 s m args below meth c D mb q none H locs (F0 m 6 ls [])) (hl : lv_has ls 11 [(0, .ref mb), (1, .int x1), (2, .int x2), (3, .int x3), (4, .int x4), (6, .int x6), (7, .int x7), (8, .int x8), (9, .int x9), (10, .int x10)]) (h : f_variables_120 k6 x1 x2 x3 x4 x6 x7 x8 x9 x10 y0 σ = some q) : mWw p l e 10 252 s m args below meth c D mb q none H locs (F0 m 120 ls [.int y0]) := by
  have hx := X.1
  have hb := X.2.1
  have hown := X.2.2.2.1
  have hts := X.2.2.2.2.1
  have h : (f_variables_121 k6 (x1) (x2) (x3) (x4) (x6) (x7) (x8) (x9) (x10) (y0) ((0:Int32)) σ) = some q := h
  refine lv_iconst (v := (0:Int32)) hx hb dX12_variables_120 (by decide) ?_
  exact N_variables_121 X hP hF hk6 (lv_sub hl [0, 1, 2, 3, 4, 5, 6, 7, 8, 9] rfl) h
set_option maxRecDepth 20000 in
set_option maxHeartbeats 4000000 in
theorem N_variables_92 {p : Program} {l : Launch} {e : Env} {s : State} {m : MethodId} {args : Array Value} {below : List Frame} {meth : Method} {c : Code} {D : mD} {mb : Nat} {k6 : Int32 → Int32 → Int32 → Int32 → Int32 → Int32 → mS → Option (mS)}  {x1 : Int32} {x2 : Int32} {x3 : Int32} {x4 : Int32} {x5 : Int32} {x6 : Int32} {x7 : Int32} {x8 : Int32} {x9 : Int32} {y0 : Int32} {σ : mS} {H : Heap} {locs : List Loc} {ls : Array Slot} {q : mS} (X : mX p s m args meth c cX12_variables 11 none D) (hP : mP D mb σ H) (hF : mF mb s.heap H locs) (hk6 : ∀ {x1 : Int32} {x2 : Int32} {x3 : Int32} {x4 : Int32} {x5 : Int32} {x6 : Int32} {σ : mS} {H : Heap} {locs : List Loc} {ls : Array Slot}, mP D mb σ H → mF mb s.heap H locs → lv_has ls 11 [(0, .ref mb), (1, .int x1), (2, .int x2), (3, .int x3), (4, .int x4), (5, .int x5), (6, .int x6)] → k6 x1 x2 x3 x4 x5 x6 σ = some q → mWw p l e 10 252 s m args below meth c D mb q none H locs (F0 m 6 ls [])) (hl : lv_has ls 11 [(0, .ref mb), (1, .int x1), (2, .int x2), (3, .int x3), (4, .int x4), (5, .int x5), (6, .int x6), (7, .int x7), (8, .int x8), (9, .int x9)]) (h : f_variables_92 k6 x1 x2 x3 x4 x5 x6 x7 x8 x9 y0 σ = some q) : mWw p l e 10 252 s m args below meth c D mb q none H locs (F0 m 92 ls [.int y0]) := by
  have hx := X.1
  have hb := X.2.1
  have hown := X.2.2.2.1
  have hts := X.2.2.2.2.1
  have h : (if x7 < (0:Int32) then (f_variables_120 k6 (x1) (x2) (x3) (x4) (x6) (x7) (x8) (x9) (y0) (x5) σ) else ((rd σ 37 x7).bind (fun v1 => if v1 = (11:Int32) then (f_variables_121 k6 (x1) (x2) (x3) (x4) (x6) (x7) (x8) (x9) (y0) (x5) (((1:Int32) <<< (x6 &&& 31))) σ) else (f_variables_120 k6 (x1) (x2) (x3) (x4) (x6) (x7) (x8) (x9) (y0) (x5) σ)))) = some q := h
  refine lv_istore hx hb dX12_variables_92 hl (Nat.le_of_ble_eq_true rfl) rfl (fun ls (hl : lv_has ls 11 [(10, .int y0), (0, .ref mb), (1, .int x1), (2, .int x2), (3, .int x3), (4, .int x4), (5, .int x5), (6, .int x6), (7, .int x7), (8, .int x8), (9, .int x9)]) => ?_)
  refine lv_iload hx hb dX12_variables_94 (lv_at hl 6 rfl) ?_
  refine lv_iload hx hb dX12_variables_96 (lv_at hl 8 rfl) ?_
  refine lv_if_lt (tgt := 120) hx hb dX12_variables_98 rfl (fun hc => ?_) (fun hc => ?_)
  · have h := ip hc h
    exact N_variables_120 X hP hF hk6 (lv_sub hl [1, 2, 3, 4, 5, 7, 8, 9, 10, 0] rfl) h
  · have h := ine hc h
    refine lv_aload_n hx hb dX12_variables_101 rfl (lv_at hl 1 rfl) ?_
    refine mg_du X hP dX12_variables_102 ?_
    refine lv_iload hx hb dX12_variables_105 (lv_at hl 8 rfl) ?_
    obtain ⟨v1, hv1, h⟩ := ob h
    refine m_ald X hP hv1 dX12_variables_107 ?_
    refine lv_bipush (v := (11:Int32)) hx hb dX12_variables_108 (by decide) ?_
    refine lv_icmp_ne (tgt := 120) hx hb dX12_variables_110 rfl (fun hc => ?_) (fun hc => ?_)
    · have h := ine hc h
      exact N_variables_120 X hP hF hk6 (lv_sub hl [1, 2, 3, 4, 5, 7, 8, 9, 10, 0] rfl) h
    · have h := ip hc h
      refine lv_iconst (v := (1:Int32)) hx hb dX12_variables_113 (by decide) ?_
      refine lv_iload hx hb dX12_variables_114 (lv_at hl 7 rfl) ?_
      refine lv_ishl hx hb dX12_variables_116 ?_
      refine lv_goto (tgt := 121) hx hb dX12_variables_117 rfl ?_
      exact N_variables_121 X hP hF hk6 (lv_sub hl [1, 2, 3, 4, 5, 7, 8, 9, 10, 0] rfl) h
set_option maxRecDepth 20000 in
set_option maxHeartbeats 4000000 in
theorem N_variables_87 {p : Program} {l : Launch} {e : Env} {s : State} {m : MethodId} {args : Array Value} {below : List Frame} {meth : Method} {c : Code} {D : mD} {mb : Nat} {k6 : Int32 → Int32 → Int32 → Int32 → Int32 → Int32 → mS → Option (mS)}  {x1 : Int32} {x2 : Int32} {x3 : Int32} {x4 : Int32} {x5 : Int32} {x6 : Int32} {x7 : Int32} {x8 : Int32} {x9 : Int32} {σ : mS} {H : Heap} {locs : List Loc} {ls : Array Slot} {q : mS} (X : mX p s m args meth c cX12_variables 11 none D) (hP : mP D mb σ H) (hF : mF mb s.heap H locs) (hk6 : ∀ {x1 : Int32} {x2 : Int32} {x3 : Int32} {x4 : Int32} {x5 : Int32} {x6 : Int32} {σ : mS} {H : Heap} {locs : List Loc} {ls : Array Slot}, mP D mb σ H → mF mb s.heap H locs → lv_has ls 11 [(0, .ref mb), (1, .int x1), (2, .int x2), (3, .int x3), (4, .int x4), (5, .int x5), (6, .int x6)] → k6 x1 x2 x3 x4 x5 x6 σ = some q → mWw p l e 10 252 s m args below meth c D mb q none H locs (F0 m 6 ls [])) (hl : lv_has ls 11 [(0, .ref mb), (1, .int x1), (2, .int x2), (3, .int x3), (4, .int x4), (5, .int x5), (6, .int x6), (7, .int x7), (8, .int x8), (9, .int x9)]) (h : f_variables_87 k6 x1 x2 x3 x4 x5 x6 x7 x8 x9 σ = some q) : mWw p l e 10 252 s m args below meth c D mb q none H locs (F0 m 87 ls []) := by
  have hx := X.1
  have hb := X.2.1
  have hown := X.2.2.2.1
  have hts := X.2.2.2.2.1
  have h : (f_variables_92 k6 (x1) (x2) (x3) (x4) (x5) (x6) (x7) (x8) (x9) ((1:Int32)) σ) = some q := h
  refine lv_iconst (v := (1:Int32)) hx hb dX12_variables_87 (by decide) ?_
  refine lv_goto (tgt := 92) hx hb dX12_variables_88 rfl ?_
  exact N_variables_92 X hP hF hk6 (lv_sub hl [0, 1, 2, 3, 4, 5, 6, 7, 8, 9] rfl) h
set_option maxRecDepth 20000 in
set_option maxHeartbeats 4000000 in
theorem N_variables_6 {p : Program} {l : Launch} {e : Env} {s : State} {m : MethodId} {args : Array Value} {below : List Frame} {meth : Method} {c : Code} {D : mD} {mb : Nat}  {n : Nat} {x1 : Int32} {x2 : Int32} {x3 : Int32} {x4 : Int32} {x5 : Int32} {x6 : Int32} {σ : mS} {H : Heap} {locs : List Loc} {ls : Array Slot} {q : mS} (X : mX p s m args meth c cX12_variables 11 none D) (hP : mP D mb σ H) (hF : mF mb s.heap H locs)  (hl : lv_has ls 11 [(0, .ref mb), (1, .int x1), (2, .int x2), (3, .int x3), (4, .int x4), (5, .int x5), (6, .int x6)]) (h : f_variables_6  n x1 x2 x3 x4 x5 x6 σ = some q) : mWw p l e 10 252 s m args below meth c D mb q none H locs (F0 m 6 ls []) := by
  have hx := X.1
  have hb := X.2.1
  have hown := X.2.2.2.1
  have hts := X.2.2.2.2.1
  induction n generalizing x1 x2 x3 x4 x5 x6 σ H locs ls with
  | zero => exact absurd (show none = some q from h) (by simp)
  | succ n ih =>
    have h : (if (3:Int32) ≤ x6 then (f_variables_259 4000 (x1) (x2) (x3) (x4) (x5) ((0:Int32)) σ) else ((f_found (x1) (((12:Int32) + x6)) (x2) (x4) σ).bind (fun v1 => (rd σ 77 x1).bind (fun v2 => if v1 < (0:Int32) then (f_variables_87 (f_variables_6 n) (x1) (x2) (x3) (x4) (x5) (x6) (v1) ((((3:Int32) * (((30:Int32) * x3) + x1)) + x6)) ((((3:Int32) * (((30:Int32) * x2) + v2)) + x6)) σ) else ((rd σ 37 v1).bind (fun v3 => if v3 = (8:Int32) then (f_variables_87 (f_variables_6 n) (x1) (x2) (x3) (x4) (x5) (x6) (v1) ((((3:Int32) * (((30:Int32) * x3) + x1)) + x6)) ((((3:Int32) * (((30:Int32) * x2) + v2)) + x6)) σ) else ((rd σ 37 v1).bind (fun v4 => if v4 = (9:Int32) then (f_variables_87 (f_variables_6 n) (x1) (x2) (x3) (x4) (x5) (x6) (v1) ((((3:Int32) * (((30:Int32) * x3) + x1)) + x6)) ((((3:Int32) * (((30:Int32) * x2) + v2)) + x6)) σ) else (f_variables_92 (f_variables_6 n) (x1) (x2) (x3) (x4) (x5) (x6) (v1) ((((3:Int32) * (((30:Int32) * x3) + x1)) + x6)) ((((3:Int32) * (((30:Int32) * x2) + v2)) + x6)) ((0:Int32)) σ))))))))) = some q := h
    refine lv_iload hx hb dX12_variables_6 (lv_at hl 6 rfl) ?_
    refine lv_iconst (v := (3:Int32)) hx hb dX12_variables_8 (by decide) ?_
    refine lv_icmp_ge (tgt := 256) hx hb dX12_variables_9 rfl (fun hc => ?_) (fun hc => ?_)
    · have h := ip hc h
      refine lv_iconst (v := (0:Int32)) hx hb dX12_variables_256 (by decide) ?_
      refine lv_istore hx hb dX12_variables_257 hl (Nat.le_of_ble_eq_true rfl) rfl (fun ls (hl : lv_has ls 11 [(6, .int (0:Int32)), (0, .ref mb), (1, .int x1), (2, .int x2), (3, .int x3), (4, .int x4), (5, .int x5)]) => ?_)
      exact N_variables_259 X hP hF (lv_sub hl [1, 2, 3, 4, 5, 6, 0] rfl) h
    · have h := ine hc h
      refine lv_aload_n hx hb dX12_variables_12 rfl (lv_at hl 0 rfl) ?_
      refine lv_iload_n hx hb dX12_variables_13 rfl (lv_at hl 1 rfl) ?_
      refine lv_bipush (v := (12:Int32)) hx hb dX12_variables_14 (by decide) ?_
      refine lv_iload hx hb dX12_variables_16 (lv_at hl 6 rfl) ?_
      refine lv_iadd hx hb dX12_variables_18 ?_
      refine lv_iload_n hx hb dX12_variables_19 rfl (lv_at hl 2 rfl) ?_
      refine lv_iload hx hb dX12_variables_20 (lv_at hl 4 rfl) ?_
      obtain ⟨v1, hv1, h⟩ := ob h
      refine cl_found X hP hv1 ⟨Nat.le_of_ble_eq_true rfl, Nat.le_of_ble_eq_true rfl⟩ hl.1 (Nat.le_of_ble_eq_true rfl) dX12_variables_22 ?_
      refine lv_istore hx hb dX12_variables_25 hl (Nat.le_of_ble_eq_true rfl) rfl (fun ls (hl : lv_has ls 11 [(7, .int v1), (0, .ref mb), (1, .int x1), (2, .int x2), (3, .int x3), (4, .int x4), (5, .int x5), (6, .int x6)]) => ?_)
      refine lv_iconst (v := (3:Int32)) hx hb dX12_variables_27 (by decide) ?_
      refine lv_bipush (v := (30:Int32)) hx hb dX12_variables_28 (by decide) ?_
      refine lv_iload_n hx hb dX12_variables_30 rfl (lv_at hl 4 rfl) ?_
      refine lv_imul hx hb dX12_variables_31 ?_
      refine lv_iload_n hx hb dX12_variables_32 rfl (lv_at hl 2 rfl) ?_
      refine lv_iadd hx hb dX12_variables_33 ?_
      refine lv_imul hx hb dX12_variables_34 ?_
      refine lv_iload hx hb dX12_variables_35 (lv_at hl 7 rfl) ?_
      refine lv_iadd hx hb dX12_variables_37 ?_
      refine lv_istore hx hb dX12_variables_38 hl (Nat.le_of_ble_eq_true rfl) rfl (fun ls (hl : lv_has ls 11 [(8, .int (((3:Int32) * (((30:Int32) * x3) + x1)) + x6)), (7, .int v1), (0, .ref mb), (1, .int x1), (2, .int x2), (3, .int x3), (4, .int x4), (5, .int x5), (6, .int x6)]) => ?_)
      refine lv_iconst (v := (3:Int32)) hx hb dX12_variables_40 (by decide) ?_
      refine lv_bipush (v := (30:Int32)) hx hb dX12_variables_41 (by decide) ?_
      refine lv_iload_n hx hb dX12_variables_43 rfl (lv_at hl 4 rfl) ?_
      refine lv_imul hx hb dX12_variables_44 ?_
      refine lv_aload_n hx hb dX12_variables_45 rfl (lv_at hl 2 rfl) ?_
      refine mg_shp X hP dX12_variables_46 ?_
      refine lv_iload_n hx hb dX12_variables_49 rfl (lv_at hl 3 rfl) ?_
      obtain ⟨v2, hv2, h⟩ := ob h
      refine m_ald X hP hv2 dX12_variables_50 ?_
      refine lv_iadd hx hb dX12_variables_51 ?_
      refine lv_imul hx hb dX12_variables_52 ?_
      refine lv_iload hx hb dX12_variables_53 (lv_at hl 8 rfl) ?_
      refine lv_iadd hx hb dX12_variables_55 ?_
      refine lv_istore hx hb dX12_variables_56 hl (Nat.le_of_ble_eq_true rfl) rfl (fun ls (hl : lv_has ls 11 [(9, .int (((3:Int32) * (((30:Int32) * x2) + v2)) + x6)), (8, .int (((3:Int32) * (((30:Int32) * x3) + x1)) + x6)), (7, .int v1), (0, .ref mb), (1, .int x1), (2, .int x2), (3, .int x3), (4, .int x4), (5, .int x5), (6, .int x6)]) => ?_)
      refine lv_iload hx hb dX12_variables_58 (lv_at hl 2 rfl) ?_
      refine lv_if_lt (tgt := 87) hx hb dX12_variables_60 rfl (fun hc => ?_) (fun hc => ?_)
      · have h := ip hc h
        exact N_variables_87 X hP hF ih (lv_sub hl [3, 4, 5, 6, 7, 8, 9, 2, 1, 0] rfl) h
      · have h := ine hc h
        refine lv_aload_n hx hb dX12_variables_63 rfl (lv_at hl 3 rfl) ?_
        refine mg_du X hP dX12_variables_64 ?_
        refine lv_iload hx hb dX12_variables_67 (lv_at hl 2 rfl) ?_
        obtain ⟨v3, hv3, h⟩ := ob h
        refine m_ald X hP hv3 dX12_variables_69 ?_
        refine lv_bipush (v := (8:Int32)) hx hb dX12_variables_70 (by decide) ?_
        refine lv_icmp_eq (tgt := 87) hx hb dX12_variables_72 rfl (fun hc => ?_) (fun hc => ?_)
        · have h := ip hc h
          exact N_variables_87 X hP hF ih (lv_sub hl [3, 4, 5, 6, 7, 8, 9, 2, 1, 0] rfl) h
        · have h := ine hc h
          refine lv_aload_n hx hb dX12_variables_75 rfl (lv_at hl 3 rfl) ?_
          refine mg_du X hP dX12_variables_76 ?_
          refine lv_iload hx hb dX12_variables_79 (lv_at hl 2 rfl) ?_
          obtain ⟨v4, hv4, h⟩ := ob h
          refine m_ald X hP hv4 dX12_variables_81 ?_
          refine lv_bipush (v := (9:Int32)) hx hb dX12_variables_82 (by decide) ?_
          refine lv_icmp_ne (tgt := 91) hx hb dX12_variables_84 rfl (fun hc => ?_) (fun hc => ?_)
          · have h := ine hc h
            refine lv_iconst (v := (0:Int32)) hx hb dX12_variables_91 (by decide) ?_
            exact N_variables_92 X hP hF ih (lv_sub hl [3, 4, 5, 6, 7, 8, 9, 2, 1, 0] rfl) h
          · have h := ip hc h
            exact N_variables_87 X hP hF ih (lv_sub hl [3, 4, 5, 6, 7, 8, 9, 2, 1, 0] rfl) h
set_option maxRecDepth 20000 in
set_option maxHeartbeats 4000000 in
theorem K_variables (l : Launch) (D : mD) (mb : Nat) (σ : mS) (x1 : Int32) (x2 : Int32) (x3 : Int32) (x4 : Int32) {q : mS} (h : f_variables x1 x2 x3 x4 σ = some q) : Met l yX12_variables (Cond.code yX12_variables cX12_variables 11 none :: BG) (rM 10 252) (mPc D mb σ [.int x1, .int x2, .int x3, .int x4]) (mQw D mb q none) 0 0 (mReg mb) := by
  refine Met.ofW (cc := cX12_variables) (maxL := 11) (ret := none) (by decide) rfl ?_
  intro p e s m args below meth c s₁ B hml hv
  obtain ⟨rfl, hP, hK⟩ := hv
  have X := mX_of B hml rfl hK
  have hx := X.1
  have hb := X.2.1
  have hown := X.2.2.2.1
  have hts := X.2.2.2.2.1
  have hl := lv_entry (.ref mb :: [.int x1, .int x2, .int x3, .int x4]) (n := 11) (Nat.le_of_ble_eq_true rfl)
  rw [lg_entry_eq]
  generalize (lg_sl (.ref mb :: [.int x1, .int x2, .int x3, .int x4]) ++ List.replicate (11 - (lg_sl (.ref mb :: [.int x1, .int x2, .int x3, .int x4])).length) Slot.unset).toArray = ls at hl ⊢
  have hl : lv_has ls 11 [(0, .ref mb), (1, .int x1), (2, .int x2), (3, .int x3), (4, .int x4)] := hl
  have hF : mF mb s.heap s.heap [] := mF.rf
  show mWw p l e 10 252 s m (Value.ref mb :: [.int x1, .int x2, .int x3, .int x4]).toArray below meth c D mb q none s.heap [] (F0 m 0 ls [])
  have h : (f_variables_6 4000 (x1) (x2) (x3) (x4) ((0:Int32)) ((0:Int32)) σ) = some q := h
  refine lv_iconst (v := (0:Int32)) hx hb dX12_variables_0 (by decide) ?_
  refine lv_istore hx hb dX12_variables_1 hl (Nat.le_of_ble_eq_true rfl) rfl (fun ls (hl : lv_has ls 11 [(5, .int (0:Int32)), (0, .ref mb), (1, .int x1), (2, .int x2), (3, .int x3), (4, .int x4)]) => ?_)
  refine lv_iconst (v := (0:Int32)) hx hb dX12_variables_3 (by decide) ?_
  refine lv_istore hx hb dX12_variables_4 hl (Nat.le_of_ble_eq_true rfl) rfl (fun ls (hl : lv_has ls 11 [(6, .int (0:Int32)), (5, .int (0:Int32)), (0, .ref mb), (1, .int x1), (2, .int x2), (3, .int x3), (4, .int x4)]) => ?_)
  exact N_variables_6 X hP hF (lv_sub hl [2, 3, 4, 5, 6, 1, 0] rfl) h
theorem cl_variables {p : Program} {l : Launch} {e : Env} {s : State} {m : MethodId} {args : Array Value} {below : List Frame} {meth : Method} {c : Code} {D : mD} {mb : Nat} {H : Heap} {locs : List Loc} {Q : State → Prop} {cc : ByteArray} {pc fR lR nL : Nat} {ls : Array Slot} {rest : List Value} {ret : Option FieldType} {σ : mS} (X : mX p s m args meth c cc nL ret D) (hP : mP D mb σ H) (hF : mF mb s.heap H locs) {x1 : Int32} {x2 : Int32} {x3 : Int32} {x4 : Int32} {q : mS} (h : f_variables x1 x2 x3 x4 σ = some q) (hr : 10 + 1 ≤ fR ∧ 8 + (11 + 11) + 252 ≤ lR) (hl : ls.size = nL) (hW : (rest.map fun v => v.category).sum ≤ 8) (hdg : decode cc pc = .ok (.invokevirtual 405, 3)) (kk : ∀ (H1 : Heap) (locs1 : List Loc), mP D mb q H1 → mF mb s.heap H1 locs1 → W p l e (rM fR lR) s m args below meth c H1 locs1 0 0 Q (F0 m (pc + 3) ls rest)) : W p l e (rM fR lR) s m args below meth c H locs 0 0 Q (F0 m pc ls (.int x4 :: .int x3 :: .int x2 :: .int x1 :: .ref mb :: rest)) := m_cv (m_run (n := 4) X (K_variables l D mb σ x1 x2 x3 x4 h) ⟨w_2184, w_2186, w_116, w_2187⟩ (hyX rfl (by decide +kernel)) rfl hr hP hl hW hdg rfl) hF kk
-- reckoned(IIIIIIZ)I
def f_reckoned_296  (y1 : Int64) (y2 : Int32) (σ : mS) : Option (Int32) := (ldv (y1 * (y2.toInt64)) (100:Int64)).bind (fun v1 => (f_bounded (v1)).bind (fun v2 => some v2))
def f_reckoned_266  (x5 : Int32) (x8 : Int64) (y0 : Int32) (σ : mS) : Option (Int32) := if (0:Int32) ≤ y0 then ((rd σ 46 (((30:Int32) * x5) + y0)).bind (fun v1 => f_reckoned_296 (x8) (v1) σ)) else (f_reckoned_296 (x8) ((σ.2 50)) σ)
def f_reckoned_244  (y0 : Int32) (σ : mS) : Option (Int32) := some y0
def f_reckoned_230  (x8 : Int64) (x13 : Int32) (σ : mS) : Option (Int32) := (ldv (x8 * (x13.toInt64)) (100:Int64)).bind (fun v1 => (f_bounded (v1)).bind (fun v2 => f_reckoned_244 (v2) σ))
def f_reckoned_209  (x2 : Int32) (x8 : Int64) (y0 : Int32) (σ : mS) : Option (Int32) := if x2 = (2:Int32) then (if y0 = ((-1000000):Int32) then (f_reckoned_244 (((-1000000):Int32)) σ) else (f_reckoned_230 (x8) (y0) σ)) else (f_reckoned_230 (x8) (y0) σ)
def f_reckoned_152  (x8 : Int64) (y0 : Int32) (σ : mS) : Option (Int32) := (ldv (x8 * (y0.toInt64)) (100:Int64)).bind (fun v1 => (f_bounded (v1)).bind (fun v2 => some v2))
def f_reckoned_74  (x1 : Int32) (x2 : Int32) (x3 : Int32) (x5 : Int32) (x7 : Int32) (x8 : Int64) (x10 : Int32) (x11 : Int32) (y0 : Int32) (σ : mS) : Option (Int32) := if (2:Int32) ≤ x3 then (if x3 = (2:Int32) then ((ldv (x8 * (y0.toInt64)) (100:Int64)).bind (fun v6 => (f_bounded (v6)).bind (fun v7 => some v7))) else (if x3 = (3:Int32) then (if x1 = (0:Int32) then (if x2 = (1:Int32) then (f_reckoned_152 (x8) ((16:Int32)) σ) else ((rd σ 43 (x10 + (1:Int32))).bind (fun v5 => f_reckoned_152 (x8) (v5) σ))) else ((rd σ 43 (((360:Int32) * x5) + (1:Int32))).bind (fun v4 => f_reckoned_152 (x8) (v4) σ))) else (if x3 = (4:Int32) then (if x2 = (1:Int32) then (f_reckoned_209 (x2) (x8) (y0) σ) else ((rd σ 77 x1).bind (fun v2 => if (0:Int32) ≤ v2 then ((rd σ 43 (x11 + (2:Int32))).bind (fun v3 => f_reckoned_209 (x2) (x8) (v3) σ)) else (f_reckoned_209 (x2) (x8) ((σ.2 50)) σ)))) else (if x3 = (5:Int32) then (if x7 = (0:Int32) then ((f_holder (x1) (x5) σ).bind (fun v1 => f_reckoned_266 (x5) (x8) (v1) σ)) else (f_reckoned_266 (x5) (x8) (((-1):Int32)) σ)) else (some ((-1000000):Int32)))))) else ((f_bounded (x8)).bind (fun v8 => some v8))
def f_reckoned (x1 : Int32) (x2 : Int32) (x3 : Int32) (x4 : Int32) (x5 : Int32) (x6 : Int32) (x7 : Int32) (σ : mS) : Option (Int32) := (rd σ 77 x1).bind (fun v1 => if x2 = (1:Int32) then ((rd σ 77 x1).bind (fun v2 => if (0:Int32) ≤ v2 then ((rd σ 43 (((12:Int32) * (((30:Int32) * x5) + v1)) + (1:Int32))).bind (fun v3 => f_reckoned_74 (x1) (x2) (x3) (x5) (x7) ((x4.toInt64)) (((12:Int32) * (((30:Int32) * x6) + x1))) (((12:Int32) * (((30:Int32) * x5) + v1))) (v3) σ)) else (f_reckoned_74 (x1) (x2) (x3) (x5) (x7) ((x4.toInt64)) (((12:Int32) * (((30:Int32) * x6) + x1))) (((12:Int32) * (((30:Int32) * x5) + v1))) ((16:Int32)) σ))) else ((rd σ 43 (((12:Int32) * (((30:Int32) * x6) + x1)) + (1:Int32))).bind (fun v4 => f_reckoned_74 (x1) (x2) (x3) (x5) (x7) ((x4.toInt64)) (((12:Int32) * (((30:Int32) * x6) + x1))) (((12:Int32) * (((30:Int32) * x5) + v1))) (v4) σ)))
set_option maxRecDepth 20000 in
set_option maxHeartbeats 4000000 in
theorem N_reckoned_296 {p : Program} {l : Launch} {e : Env} {s : State} {m : MethodId} {args : Array Value} {below : List Frame} {meth : Method} {c : Code} {D : mD} {mb : Nat}   {y1 : Int64} {y2 : Int32} {σ : mS} {ls : Array Slot} {r : Int32} (X : mX p s m args meth c cX12_reckoned 14 (some .int) D) (hP : mP D mb σ s.heap)  (hl : lv_has ls 14 [(0, .ref mb)]) (h : f_reckoned_296  y1 y2 σ = some r) : mWr p l e 1 23 s m args below meth c (some (.int r)) (F0 m 296 ls [.int y2, .long y1, .ref mb]) := by
  have hx := X.1
  have hb := X.2.1
  have hown := X.2.2.2.1
  have hts := X.2.2.2.2.1
  have h : ((ldv (y1 * (y2.toInt64)) (100:Int64)).bind (fun v1 => (f_bounded (v1)).bind (fun v2 => some v2))) = some r := h
  refine lv_i2l hx hb dX12_reckoned_296 rfl ?_
  refine lv_lmul hx hb dX12_reckoned_297 ?_
  refine lv_ldc2 hx hb hown (hts _ w_2268) dX12_reckoned_298 ?_
  obtain ⟨v1, hv1, h⟩ := ob h
  obtain ⟨hnv1, hev1⟩ := ldv_spec hv1
  refine lv_ldiv hx hb dX12_reckoned_301 hnv1 ?_
  rw [hev1]
  obtain ⟨v2, hv2, h⟩ := ob h
  refine cl_bounded X hP hv2 ⟨Nat.le_of_ble_eq_true rfl, Nat.le_of_ble_eq_true rfl⟩ hl.1 (Nat.le_of_ble_eq_true rfl) dX12_reckoned_302 ?_
  obtain rfl := sj h
  exact m_ri X dX12_reckoned_305
set_option maxRecDepth 20000 in
set_option maxHeartbeats 4000000 in
theorem N_reckoned_266 {p : Program} {l : Launch} {e : Env} {s : State} {m : MethodId} {args : Array Value} {below : List Frame} {meth : Method} {c : Code} {D : mD} {mb : Nat}   {x5 : Int32} {x8 : Int64} {y0 : Int32} {σ : mS} {ls : Array Slot} {r : Int32} (X : mX p s m args meth c cX12_reckoned 14 (some .int) D) (hP : mP D mb σ s.heap)  (hl : lv_has ls 14 [(0, .ref mb), (5, .int x5), (8, .long x8)]) (h : f_reckoned_266  x5 x8 y0 σ = some r) : mWr p l e 1 23 s m args below meth c (some (.int r)) (F0 m 266 ls [.int y0]) := by
  have hx := X.1
  have hb := X.2.1
  have hown := X.2.2.2.1
  have hts := X.2.2.2.2.1
  have h : (if (0:Int32) ≤ y0 then ((rd σ 46 (((30:Int32) * x5) + y0)).bind (fun v1 => f_reckoned_296 (x8) (v1) σ)) else (f_reckoned_296 (x8) ((σ.2 50)) σ)) = some r := h
  refine lv_istore hx hb dX12_reckoned_266 hl (Nat.le_of_ble_eq_true rfl) rfl (fun ls (hl : lv_has ls 14 [(13, .int y0), (0, .ref mb), (5, .int x5), (8, .long x8)]) => ?_)
  refine lv_aload_n hx hb dX12_reckoned_268 rfl (lv_at hl 1 rfl) ?_
  refine lv_lload hx hb dX12_reckoned_269 (lv_at hl 3 rfl) ?_
  refine lv_iload hx hb dX12_reckoned_271 (lv_at hl 0 rfl) ?_
  refine lv_if_ge (tgt := 283) hx hb dX12_reckoned_273 rfl (fun hc => ?_) (fun hc => ?_)
  · have h := ip hc h
    refine lv_aload_n hx hb dX12_reckoned_283 rfl (lv_at hl 1 rfl) ?_
    refine mg_sz X hP dX12_reckoned_284 ?_
    refine lv_bipush (v := (30:Int32)) hx hb dX12_reckoned_287 (by decide) ?_
    refine lv_iload hx hb dX12_reckoned_289 (lv_at hl 2 rfl) ?_
    refine lv_imul hx hb dX12_reckoned_291 ?_
    refine lv_iload hx hb dX12_reckoned_292 (lv_at hl 0 rfl) ?_
    refine lv_iadd hx hb dX12_reckoned_294 ?_
    obtain ⟨v1, hv1, h⟩ := ob h
    refine m_ald X hP hv1 dX12_reckoned_295 ?_
    exact N_reckoned_296 X hP (lv_sub hl [1] rfl) h
  · have h := ine hc h
    refine lv_aload_n hx hb dX12_reckoned_276 rfl (lv_at hl 1 rfl) ?_
    refine mg_width X hP dX12_reckoned_277 ?_
    refine lv_goto (tgt := 296) hx hb dX12_reckoned_280 rfl ?_
    exact N_reckoned_296 X hP (lv_sub hl [1] rfl) h
set_option maxRecDepth 20000 in
set_option maxHeartbeats 4000000 in
theorem N_reckoned_244 {p : Program} {l : Launch} {e : Env} {s : State} {m : MethodId} {args : Array Value} {below : List Frame} {meth : Method} {c : Code} {D : mD} {mb : Nat}   {y0 : Int32} {σ : mS} {ls : Array Slot} {r : Int32} (X : mX p s m args meth c cX12_reckoned 14 (some .int) D) (hP : mP D mb σ s.heap)  (hl : lv_has ls 14 [(0, .ref mb)]) (h : f_reckoned_244  y0 σ = some r) : mWr p l e 1 23 s m args below meth c (some (.int r)) (F0 m 244 ls [.int y0]) := by
  have hx := X.1
  have hb := X.2.1
  have hown := X.2.2.2.1
  have hts := X.2.2.2.2.1
  have h : (some y0) = some r := h
  obtain rfl := sj h
  exact m_ri X dX12_reckoned_244
set_option maxRecDepth 20000 in
set_option maxHeartbeats 4000000 in
theorem N_reckoned_230 {p : Program} {l : Launch} {e : Env} {s : State} {m : MethodId} {args : Array Value} {below : List Frame} {meth : Method} {c : Code} {D : mD} {mb : Nat}   {x8 : Int64} {x13 : Int32} {σ : mS} {ls : Array Slot} {r : Int32} (X : mX p s m args meth c cX12_reckoned 14 (some .int) D) (hP : mP D mb σ s.heap)  (hl : lv_has ls 14 [(0, .ref mb), (8, .long x8), (13, .int x13)]) (h : f_reckoned_230  x8 x13 σ = some r) : mWr p l e 1 23 s m args below meth c (some (.int r)) (F0 m 230 ls []) := by
  have hx := X.1
  have hb := X.2.1
  have hown := X.2.2.2.1
  have hts := X.2.2.2.2.1
  have h : ((ldv (x8 * (x13.toInt64)) (100:Int64)).bind (fun v1 => (f_bounded (v1)).bind (fun v2 => f_reckoned_244 (v2) σ))) = some r := h
  refine lv_aload_n hx hb dX12_reckoned_230 rfl (lv_at hl 0 rfl) ?_
  refine lv_lload hx hb dX12_reckoned_231 (lv_at hl 1 rfl) ?_
  refine lv_iload hx hb dX12_reckoned_233 (lv_at hl 2 rfl) ?_
  refine lv_i2l hx hb dX12_reckoned_235 rfl ?_
  refine lv_lmul hx hb dX12_reckoned_236 ?_
  refine lv_ldc2 hx hb hown (hts _ w_2268) dX12_reckoned_237 ?_
  obtain ⟨v1, hv1, h⟩ := ob h
  obtain ⟨hnv1, hev1⟩ := ldv_spec hv1
  refine lv_ldiv hx hb dX12_reckoned_240 hnv1 ?_
  rw [hev1]
  obtain ⟨v2, hv2, h⟩ := ob h
  refine cl_bounded X hP hv2 ⟨Nat.le_of_ble_eq_true rfl, Nat.le_of_ble_eq_true rfl⟩ hl.1 (Nat.le_of_ble_eq_true rfl) dX12_reckoned_241 ?_
  exact N_reckoned_244 X hP (lv_sub hl [0] rfl) h
set_option maxRecDepth 20000 in
set_option maxHeartbeats 4000000 in
theorem N_reckoned_209 {p : Program} {l : Launch} {e : Env} {s : State} {m : MethodId} {args : Array Value} {below : List Frame} {meth : Method} {c : Code} {D : mD} {mb : Nat}   {x2 : Int32} {x8 : Int64} {y0 : Int32} {σ : mS} {ls : Array Slot} {r : Int32} (X : mX p s m args meth c cX12_reckoned 14 (some .int) D) (hP : mP D mb σ s.heap)  (hl : lv_has ls 14 [(0, .ref mb), (2, .int x2), (8, .long x8)]) (h : f_reckoned_209  x2 x8 y0 σ = some r) : mWr p l e 1 23 s m args below meth c (some (.int r)) (F0 m 209 ls [.int y0]) := by
  have hx := X.1
  have hb := X.2.1
  have hown := X.2.2.2.1
  have hts := X.2.2.2.2.1
  have h : (if x2 = (2:Int32) then (if y0 = ((-1000000):Int32) then (f_reckoned_244 (((-1000000):Int32)) σ) else (f_reckoned_230 (x8) (y0) σ)) else (f_reckoned_230 (x8) (y0) σ)) = some r := h
  refine lv_istore hx hb dX12_reckoned_209 hl (Nat.le_of_ble_eq_true rfl) rfl (fun ls (hl : lv_has ls 14 [(13, .int y0), (0, .ref mb), (2, .int x2), (8, .long x8)]) => ?_)
  refine lv_iload_n hx hb dX12_reckoned_211 rfl (lv_at hl 2 rfl) ?_
  refine lv_iconst (v := (2:Int32)) hx hb dX12_reckoned_212 (by decide) ?_
  refine lv_icmp_ne (tgt := 230) hx hb dX12_reckoned_213 rfl (fun hc => ?_) (fun hc => ?_)
  · have h := ine hc h
    exact N_reckoned_230 X hP (lv_sub hl [1, 3, 0] rfl) h
  · have h := ip hc h
    refine lv_iload hx hb dX12_reckoned_216 (lv_at hl 0 rfl) ?_
    refine lv_ldcw hx hb hown (hts _ w_2175) dX12_reckoned_218 ?_
    refine lv_icmp_ne (tgt := 230) hx hb dX12_reckoned_221 rfl (fun hc => ?_) (fun hc => ?_)
    · have h := ine hc h
      exact N_reckoned_230 X hP (lv_sub hl [1, 3, 0] rfl) h
    · have h := ip hc h
      refine lv_ldcw hx hb hown (hts _ w_2175) dX12_reckoned_224 ?_
      refine lv_goto (tgt := 244) hx hb dX12_reckoned_227 rfl ?_
      exact N_reckoned_244 X hP (lv_sub hl [1] rfl) h
set_option maxRecDepth 20000 in
set_option maxHeartbeats 4000000 in
theorem N_reckoned_152 {p : Program} {l : Launch} {e : Env} {s : State} {m : MethodId} {args : Array Value} {below : List Frame} {meth : Method} {c : Code} {D : mD} {mb : Nat}   {x8 : Int64} {y0 : Int32} {σ : mS} {ls : Array Slot} {r : Int32} (X : mX p s m args meth c cX12_reckoned 14 (some .int) D) (hP : mP D mb σ s.heap)  (hl : lv_has ls 14 [(0, .ref mb), (8, .long x8)]) (h : f_reckoned_152  x8 y0 σ = some r) : mWr p l e 1 23 s m args below meth c (some (.int r)) (F0 m 152 ls [.int y0]) := by
  have hx := X.1
  have hb := X.2.1
  have hown := X.2.2.2.1
  have hts := X.2.2.2.2.1
  have h : ((ldv (x8 * (y0.toInt64)) (100:Int64)).bind (fun v1 => (f_bounded (v1)).bind (fun v2 => some v2))) = some r := h
  refine lv_istore hx hb dX12_reckoned_152 hl (Nat.le_of_ble_eq_true rfl) rfl (fun ls (hl : lv_has ls 14 [(13, .int y0), (0, .ref mb), (8, .long x8)]) => ?_)
  refine lv_aload_n hx hb dX12_reckoned_154 rfl (lv_at hl 1 rfl) ?_
  refine lv_lload hx hb dX12_reckoned_155 (lv_at hl 2 rfl) ?_
  refine lv_iload hx hb dX12_reckoned_157 (lv_at hl 0 rfl) ?_
  refine lv_i2l hx hb dX12_reckoned_159 rfl ?_
  refine lv_lmul hx hb dX12_reckoned_160 ?_
  refine lv_ldc2 hx hb hown (hts _ w_2268) dX12_reckoned_161 ?_
  obtain ⟨v1, hv1, h⟩ := ob h
  obtain ⟨hnv1, hev1⟩ := ldv_spec hv1
  refine lv_ldiv hx hb dX12_reckoned_164 hnv1 ?_
  rw [hev1]
  obtain ⟨v2, hv2, h⟩ := ob h
  refine cl_bounded X hP hv2 ⟨Nat.le_of_ble_eq_true rfl, Nat.le_of_ble_eq_true rfl⟩ hl.1 (Nat.le_of_ble_eq_true rfl) dX12_reckoned_165 ?_
  obtain rfl := sj h
  exact m_ri X dX12_reckoned_168
set_option maxRecDepth 20000 in
set_option maxHeartbeats 4000000 in
theorem N_reckoned_74 {p : Program} {l : Launch} {e : Env} {s : State} {m : MethodId} {args : Array Value} {below : List Frame} {meth : Method} {c : Code} {D : mD} {mb : Nat}   {x1 : Int32} {x2 : Int32} {x3 : Int32} {x5 : Int32} {x7 : Int32} {x8 : Int64} {x10 : Int32} {x11 : Int32} {y0 : Int32} {σ : mS} {ls : Array Slot} {r : Int32} (X : mX p s m args meth c cX12_reckoned 14 (some .int) D) (hP : mP D mb σ s.heap)  (hl : lv_has ls 14 [(0, .ref mb), (1, .int x1), (2, .int x2), (3, .int x3), (5, .int x5), (7, .int x7), (8, .long x8), (10, .int x10), (11, .int x11)]) (h : f_reckoned_74  x1 x2 x3 x5 x7 x8 x10 x11 y0 σ = some r) : mWr p l e 1 23 s m args below meth c (some (.int r)) (F0 m 74 ls [.int y0]) := by
  have hx := X.1
  have hb := X.2.1
  have hown := X.2.2.2.1
  have hts := X.2.2.2.2.1
  have h : (if (2:Int32) ≤ x3 then (if x3 = (2:Int32) then ((ldv (x8 * (y0.toInt64)) (100:Int64)).bind (fun v6 => (f_bounded (v6)).bind (fun v7 => some v7))) else (if x3 = (3:Int32) then (if x1 = (0:Int32) then (if x2 = (1:Int32) then (f_reckoned_152 (x8) ((16:Int32)) σ) else ((rd σ 43 (x10 + (1:Int32))).bind (fun v5 => f_reckoned_152 (x8) (v5) σ))) else ((rd σ 43 (((360:Int32) * x5) + (1:Int32))).bind (fun v4 => f_reckoned_152 (x8) (v4) σ))) else (if x3 = (4:Int32) then (if x2 = (1:Int32) then (f_reckoned_209 (x2) (x8) (y0) σ) else ((rd σ 77 x1).bind (fun v2 => if (0:Int32) ≤ v2 then ((rd σ 43 (x11 + (2:Int32))).bind (fun v3 => f_reckoned_209 (x2) (x8) (v3) σ)) else (f_reckoned_209 (x2) (x8) ((σ.2 50)) σ)))) else (if x3 = (5:Int32) then (if x7 = (0:Int32) then ((f_holder (x1) (x5) σ).bind (fun v1 => f_reckoned_266 (x5) (x8) (v1) σ)) else (f_reckoned_266 (x5) (x8) (((-1):Int32)) σ)) else (some ((-1000000):Int32)))))) else ((f_bounded (x8)).bind (fun v8 => some v8))) = some r := h
  refine lv_istore hx hb dX12_reckoned_74 hl (Nat.le_of_ble_eq_true rfl) rfl (fun ls (hl : lv_has ls 14 [(12, .int y0), (0, .ref mb), (1, .int x1), (2, .int x2), (3, .int x3), (5, .int x5), (7, .int x7), (8, .long x8), (10, .int x10), (11, .int x11)]) => ?_)
  refine lv_iload_n hx hb dX12_reckoned_76 rfl (lv_at hl 4 rfl) ?_
  refine lv_iconst (v := (2:Int32)) hx hb dX12_reckoned_77 (by decide) ?_
  refine lv_icmp_ge (tgt := 88) hx hb dX12_reckoned_78 rfl (fun hc => ?_) (fun hc => ?_)
  · have h := ip hc h
    refine lv_iload_n hx hb dX12_reckoned_88 rfl (lv_at hl 4 rfl) ?_
    refine lv_iconst (v := (2:Int32)) hx hb dX12_reckoned_89 (by decide) ?_
    refine lv_icmp_ne (tgt := 108) hx hb dX12_reckoned_90 rfl (fun hc => ?_) (fun hc => ?_)
    · have h := ine hc h
      refine lv_iload_n hx hb dX12_reckoned_108 rfl (lv_at hl 4 rfl) ?_
      refine lv_iconst (v := (3:Int32)) hx hb dX12_reckoned_109 (by decide) ?_
      refine lv_icmp_ne (tgt := 169) hx hb dX12_reckoned_110 rfl (fun hc => ?_) (fun hc => ?_)
      · have h := ine hc h
        refine lv_iload_n hx hb dX12_reckoned_169 rfl (lv_at hl 4 rfl) ?_
        refine lv_iconst (v := (4:Int32)) hx hb dX12_reckoned_170 (by decide) ?_
        refine lv_icmp_ne (tgt := 245) hx hb dX12_reckoned_171 rfl (fun hc => ?_) (fun hc => ?_)
        · have h := ine hc h
          refine lv_iload_n hx hb dX12_reckoned_245 rfl (lv_at hl 4 rfl) ?_
          refine lv_iconst (v := (5:Int32)) hx hb dX12_reckoned_246 (by decide) ?_
          refine lv_icmp_ne (tgt := 306) hx hb dX12_reckoned_247 rfl (fun hc => ?_) (fun hc => ?_)
          · have h := ine hc h
            refine lv_ldcw hx hb hown (hts _ w_2175) dX12_reckoned_306 ?_
            obtain rfl := sj h
            exact m_ri X dX12_reckoned_309
          · have h := ip hc h
            refine lv_iload hx hb dX12_reckoned_250 (lv_at hl 6 rfl) ?_
            refine lv_if_eq (tgt := 259) hx hb dX12_reckoned_252 rfl (fun hc => ?_) (fun hc => ?_)
            · have h := ip hc h
              refine lv_aload_n hx hb dX12_reckoned_259 rfl (lv_at hl 1 rfl) ?_
              refine lv_iload_n hx hb dX12_reckoned_260 rfl (lv_at hl 2 rfl) ?_
              refine lv_iload hx hb dX12_reckoned_261 (lv_at hl 5 rfl) ?_
              obtain ⟨v1, hv1, h⟩ := ob h
              refine cl_holder X hP hv1 ⟨Nat.le_of_ble_eq_true rfl, Nat.le_of_ble_eq_true rfl⟩ hl.1 (Nat.le_of_ble_eq_true rfl) dX12_reckoned_263 ?_
              exact N_reckoned_266 X hP (lv_sub hl [1, 5, 7] rfl) h
            · have h := ine hc h
              refine lv_iconst (v := ((-1):Int32)) hx hb dX12_reckoned_255 (by decide) ?_
              refine lv_goto (tgt := 266) hx hb dX12_reckoned_256 rfl ?_
              exact N_reckoned_266 X hP (lv_sub hl [1, 5, 7] rfl) h
        · have h := ip hc h
          refine lv_iload_n hx hb dX12_reckoned_174 rfl (lv_at hl 3 rfl) ?_
          refine lv_iconst (v := (1:Int32)) hx hb dX12_reckoned_175 (by decide) ?_
          refine lv_icmp_ne (tgt := 184) hx hb dX12_reckoned_176 rfl (fun hc => ?_) (fun hc => ?_)
          · have h := ine hc h
            refine lv_aload_n hx hb dX12_reckoned_184 rfl (lv_at hl 1 rfl) ?_
            refine mg_shp X hP dX12_reckoned_185 ?_
            refine lv_iload_n hx hb dX12_reckoned_188 rfl (lv_at hl 2 rfl) ?_
            obtain ⟨v2, hv2, h⟩ := ob h
            refine m_ald X hP hv2 dX12_reckoned_189 ?_
            refine lv_if_ge (tgt := 200) hx hb dX12_reckoned_190 rfl (fun hc => ?_) (fun hc => ?_)
            · have h := ip hc h
              refine lv_aload_n hx hb dX12_reckoned_200 rfl (lv_at hl 1 rfl) ?_
              refine mg_val X hP dX12_reckoned_201 ?_
              refine lv_iload hx hb dX12_reckoned_204 (lv_at hl 9 rfl) ?_
              refine lv_iconst (v := (2:Int32)) hx hb dX12_reckoned_206 (by decide) ?_
              refine lv_iadd hx hb dX12_reckoned_207 ?_
              obtain ⟨v3, hv3, h⟩ := ob h
              refine m_ald X hP hv3 dX12_reckoned_208 ?_
              exact N_reckoned_209 X hP (lv_sub hl [1, 3, 7] rfl) h
            · have h := ine hc h
              refine lv_aload_n hx hb dX12_reckoned_193 rfl (lv_at hl 1 rfl) ?_
              refine mg_width X hP dX12_reckoned_194 ?_
              refine lv_goto (tgt := 209) hx hb dX12_reckoned_197 rfl ?_
              exact N_reckoned_209 X hP (lv_sub hl [1, 3, 7] rfl) h
          · have h := ip hc h
            refine lv_iload hx hb dX12_reckoned_179 (lv_at hl 0 rfl) ?_
            refine lv_goto (tgt := 209) hx hb dX12_reckoned_181 rfl ?_
            exact N_reckoned_209 X hP (lv_sub hl [1, 3, 7] rfl) h
      · have h := ip hc h
        refine lv_iload_n hx hb dX12_reckoned_113 rfl (lv_at hl 2 rfl) ?_
        refine lv_if_ne (tgt := 139) hx hb dX12_reckoned_114 rfl (fun hc => ?_) (fun hc => ?_)
        · have h := ine hc h
          refine lv_aload_n hx hb dX12_reckoned_139 rfl (lv_at hl 1 rfl) ?_
          refine mg_val X hP dX12_reckoned_140 ?_
          refine lv_sipush (v := (360:Int32)) hx hb dX12_reckoned_143 (by decide) ?_
          refine lv_iload hx hb dX12_reckoned_146 (lv_at hl 5 rfl) ?_
          refine lv_imul hx hb dX12_reckoned_148 ?_
          refine lv_iconst (v := (1:Int32)) hx hb dX12_reckoned_149 (by decide) ?_
          refine lv_iadd hx hb dX12_reckoned_150 ?_
          obtain ⟨v4, hv4, h⟩ := ob h
          refine m_ald X hP hv4 dX12_reckoned_151 ?_
          exact N_reckoned_152 X hP (lv_sub hl [1, 7] rfl) h
        · have h := ip hc h
          refine lv_iload_n hx hb dX12_reckoned_117 rfl (lv_at hl 3 rfl) ?_
          refine lv_iconst (v := (1:Int32)) hx hb dX12_reckoned_118 (by decide) ?_
          refine lv_icmp_ne (tgt := 127) hx hb dX12_reckoned_119 rfl (fun hc => ?_) (fun hc => ?_)
          · have h := ine hc h
            refine lv_aload_n hx hb dX12_reckoned_127 rfl (lv_at hl 1 rfl) ?_
            refine mg_val X hP dX12_reckoned_128 ?_
            refine lv_iload hx hb dX12_reckoned_131 (lv_at hl 8 rfl) ?_
            refine lv_iconst (v := (1:Int32)) hx hb dX12_reckoned_133 (by decide) ?_
            refine lv_iadd hx hb dX12_reckoned_134 ?_
            obtain ⟨v5, hv5, h⟩ := ob h
            refine m_ald X hP hv5 dX12_reckoned_135 ?_
            refine lv_goto (tgt := 152) hx hb dX12_reckoned_136 rfl ?_
            exact N_reckoned_152 X hP (lv_sub hl [1, 7] rfl) h
          · have h := ip hc h
            refine lv_bipush (v := (16:Int32)) hx hb dX12_reckoned_122 (by decide) ?_
            refine lv_goto (tgt := 152) hx hb dX12_reckoned_124 rfl ?_
            exact N_reckoned_152 X hP (lv_sub hl [1, 7] rfl) h
    · have h := ip hc h
      refine lv_aload_n hx hb dX12_reckoned_93 rfl (lv_at hl 1 rfl) ?_
      refine lv_lload hx hb dX12_reckoned_94 (lv_at hl 7 rfl) ?_
      refine lv_iload hx hb dX12_reckoned_96 (lv_at hl 0 rfl) ?_
      refine lv_i2l hx hb dX12_reckoned_98 rfl ?_
      refine lv_lmul hx hb dX12_reckoned_99 ?_
      refine lv_ldc2 hx hb hown (hts _ w_2268) dX12_reckoned_100 ?_
      obtain ⟨v6, hv6, h⟩ := ob h
      obtain ⟨hnv6, hev6⟩ := ldv_spec hv6
      refine lv_ldiv hx hb dX12_reckoned_103 hnv6 ?_
      rw [hev6]
      obtain ⟨v7, hv7, h⟩ := ob h
      refine cl_bounded X hP hv7 ⟨Nat.le_of_ble_eq_true rfl, Nat.le_of_ble_eq_true rfl⟩ hl.1 (Nat.le_of_ble_eq_true rfl) dX12_reckoned_104 ?_
      obtain rfl := sj h
      exact m_ri X dX12_reckoned_107
  · have h := ine hc h
    refine lv_aload_n hx hb dX12_reckoned_81 rfl (lv_at hl 1 rfl) ?_
    refine lv_lload hx hb dX12_reckoned_82 (lv_at hl 7 rfl) ?_
    obtain ⟨v8, hv8, h⟩ := ob h
    refine cl_bounded X hP hv8 ⟨Nat.le_of_ble_eq_true rfl, Nat.le_of_ble_eq_true rfl⟩ hl.1 (Nat.le_of_ble_eq_true rfl) dX12_reckoned_84 ?_
    obtain rfl := sj h
    exact m_ri X dX12_reckoned_87
set_option maxRecDepth 20000 in
set_option maxHeartbeats 4000000 in
theorem K_reckoned (l : Launch) (D : mD) (mb : Nat) (σ : mS) (x1 : Int32) (x2 : Int32) (x3 : Int32) (x4 : Int32) (x5 : Int32) (x6 : Int32) (x7 : Int32) {r : Int32} (h : f_reckoned x1 x2 x3 x4 x5 x6 x7 σ = some r) : Met l yX12_reckoned (Cond.code yX12_reckoned cX12_reckoned 14 (some .int) :: BG) (rM 1 23) (mPc D mb σ [.int x1, .int x2, .int x3, .int x4, .int x5, .int x6, .int x7]) (mQr (some (.int r))) 0 0 (fun _ => False) := by
  refine Met.ofW (cc := cX12_reckoned) (maxL := 14) (ret := (some .int)) (by decide) rfl ?_
  intro p e s m args below meth c s₁ B hml hv
  obtain ⟨rfl, hP, hK⟩ := hv
  have X := mX_of B hml rfl hK
  have hx := X.1
  have hb := X.2.1
  have hown := X.2.2.2.1
  have hts := X.2.2.2.2.1
  have hl := lv_entry (.ref mb :: [.int x1, .int x2, .int x3, .int x4, .int x5, .int x6, .int x7]) (n := 14) (Nat.le_of_ble_eq_true rfl)
  rw [lg_entry_eq]
  generalize (lg_sl (.ref mb :: [.int x1, .int x2, .int x3, .int x4, .int x5, .int x6, .int x7]) ++ List.replicate (14 - (lg_sl (.ref mb :: [.int x1, .int x2, .int x3, .int x4, .int x5, .int x6, .int x7])).length) Slot.unset).toArray = ls at hl ⊢
  have hl : lv_has ls 14 [(0, .ref mb), (1, .int x1), (2, .int x2), (3, .int x3), (4, .int x4), (5, .int x5), (6, .int x6), (7, .int x7)] := hl
  show mWr p l e 1 23 s m (Value.ref mb :: [.int x1, .int x2, .int x3, .int x4, .int x5, .int x6, .int x7]).toArray below meth c (some (.int r)) (F0 m 0 ls [])
  have h : ((rd σ 77 x1).bind (fun v1 => if x2 = (1:Int32) then ((rd σ 77 x1).bind (fun v2 => if (0:Int32) ≤ v2 then ((rd σ 43 (((12:Int32) * (((30:Int32) * x5) + v1)) + (1:Int32))).bind (fun v3 => f_reckoned_74 (x1) (x2) (x3) (x5) (x7) ((x4.toInt64)) (((12:Int32) * (((30:Int32) * x6) + x1))) (((12:Int32) * (((30:Int32) * x5) + v1))) (v3) σ)) else (f_reckoned_74 (x1) (x2) (x3) (x5) (x7) ((x4.toInt64)) (((12:Int32) * (((30:Int32) * x6) + x1))) (((12:Int32) * (((30:Int32) * x5) + v1))) ((16:Int32)) σ))) else ((rd σ 43 (((12:Int32) * (((30:Int32) * x6) + x1)) + (1:Int32))).bind (fun v4 => f_reckoned_74 (x1) (x2) (x3) (x5) (x7) ((x4.toInt64)) (((12:Int32) * (((30:Int32) * x6) + x1))) (((12:Int32) * (((30:Int32) * x5) + v1))) (v4) σ)))) = some r := h
  refine lv_iload hx hb dX12_reckoned_0 (lv_at hl 4 rfl) ?_
  refine lv_i2l hx hb dX12_reckoned_2 rfl ?_
  refine lv_lstore hx hb dX12_reckoned_3 hl (Nat.le_of_ble_eq_true rfl) rfl (fun ls (hl : lv_has ls 14 [(8, .long (x4.toInt64)), (0, .ref mb), (1, .int x1), (2, .int x2), (3, .int x3), (4, .int x4), (5, .int x5), (6, .int x6), (7, .int x7)]) => ?_)
  refine lv_bipush (v := (12:Int32)) hx hb dX12_reckoned_5 (by decide) ?_
  refine lv_bipush (v := (30:Int32)) hx hb dX12_reckoned_7 (by decide) ?_
  refine lv_iload hx hb dX12_reckoned_9 (lv_at hl 7 rfl) ?_
  refine lv_imul hx hb dX12_reckoned_11 ?_
  refine lv_iload_n hx hb dX12_reckoned_12 rfl (lv_at hl 2 rfl) ?_
  refine lv_iadd hx hb dX12_reckoned_13 ?_
  refine lv_imul hx hb dX12_reckoned_14 ?_
  refine lv_istore hx hb dX12_reckoned_15 hl (Nat.le_of_ble_eq_true rfl) rfl (fun ls (hl : lv_has ls 14 [(10, .int ((12:Int32) * (((30:Int32) * x6) + x1))), (8, .long (x4.toInt64)), (0, .ref mb), (1, .int x1), (2, .int x2), (3, .int x3), (4, .int x4), (5, .int x5), (6, .int x6), (7, .int x7)]) => ?_)
  refine lv_bipush (v := (12:Int32)) hx hb dX12_reckoned_17 (by decide) ?_
  refine lv_bipush (v := (30:Int32)) hx hb dX12_reckoned_19 (by decide) ?_
  refine lv_iload hx hb dX12_reckoned_21 (lv_at hl 7 rfl) ?_
  refine lv_imul hx hb dX12_reckoned_23 ?_
  refine lv_aload_n hx hb dX12_reckoned_24 rfl (lv_at hl 2 rfl) ?_
  refine mg_shp X hP dX12_reckoned_25 ?_
  refine lv_iload_n hx hb dX12_reckoned_28 rfl (lv_at hl 3 rfl) ?_
  obtain ⟨v1, hv1, h⟩ := ob h
  refine m_ald X hP hv1 dX12_reckoned_29 ?_
  refine lv_iadd hx hb dX12_reckoned_30 ?_
  refine lv_imul hx hb dX12_reckoned_31 ?_
  refine lv_istore hx hb dX12_reckoned_32 hl (Nat.le_of_ble_eq_true rfl) rfl (fun ls (hl : lv_has ls 14 [(11, .int ((12:Int32) * (((30:Int32) * x5) + v1))), (10, .int ((12:Int32) * (((30:Int32) * x6) + x1))), (8, .long (x4.toInt64)), (0, .ref mb), (1, .int x1), (2, .int x2), (3, .int x3), (4, .int x4), (5, .int x5), (6, .int x6), (7, .int x7)]) => ?_)
  refine lv_iload_n hx hb dX12_reckoned_34 rfl (lv_at hl 5 rfl) ?_
  refine lv_iconst (v := (1:Int32)) hx hb dX12_reckoned_35 (by decide) ?_
  refine lv_icmp_eq (tgt := 51) hx hb dX12_reckoned_36 rfl (fun hc => ?_) (fun hc => ?_)
  · have h := ip hc h
    refine lv_aload_n hx hb dX12_reckoned_51 rfl (lv_at hl 3 rfl) ?_
    refine mg_shp X hP dX12_reckoned_52 ?_
    refine lv_iload_n hx hb dX12_reckoned_55 rfl (lv_at hl 4 rfl) ?_
    obtain ⟨v2, hv2, h⟩ := ob h
    refine m_ald X hP hv2 dX12_reckoned_56 ?_
    refine lv_if_ge (tgt := 65) hx hb dX12_reckoned_57 rfl (fun hc => ?_) (fun hc => ?_)
    · have h := ip hc h
      refine lv_aload_n hx hb dX12_reckoned_65 rfl (lv_at hl 3 rfl) ?_
      refine mg_val X hP dX12_reckoned_66 ?_
      refine lv_iload hx hb dX12_reckoned_69 (lv_at hl 0 rfl) ?_
      refine lv_iconst (v := (1:Int32)) hx hb dX12_reckoned_71 (by decide) ?_
      refine lv_iadd hx hb dX12_reckoned_72 ?_
      obtain ⟨v3, hv3, h⟩ := ob h
      refine m_ald X hP hv3 dX12_reckoned_73 ?_
      exact N_reckoned_74 X hP (lv_sub hl [3, 4, 5, 6, 8, 10, 2, 1, 0] rfl) h
    · have h := ine hc h
      refine lv_bipush (v := (16:Int32)) hx hb dX12_reckoned_60 (by decide) ?_
      refine lv_goto (tgt := 74) hx hb dX12_reckoned_62 rfl ?_
      exact N_reckoned_74 X hP (lv_sub hl [3, 4, 5, 6, 8, 10, 2, 1, 0] rfl) h
  · have h := ine hc h
    refine lv_aload_n hx hb dX12_reckoned_39 rfl (lv_at hl 3 rfl) ?_
    refine mg_val X hP dX12_reckoned_40 ?_
    refine lv_iload hx hb dX12_reckoned_43 (lv_at hl 1 rfl) ?_
    refine lv_iconst (v := (1:Int32)) hx hb dX12_reckoned_45 (by decide) ?_
    refine lv_iadd hx hb dX12_reckoned_46 ?_
    obtain ⟨v4, hv4, h⟩ := ob h
    refine m_ald X hP hv4 dX12_reckoned_47 ?_
    refine lv_goto (tgt := 74) hx hb dX12_reckoned_48 rfl ?_
    exact N_reckoned_74 X hP (lv_sub hl [3, 4, 5, 6, 8, 10, 2, 1, 0] rfl) h
theorem cl_reckoned {p : Program} {l : Launch} {e : Env} {s : State} {m : MethodId} {args : Array Value} {below : List Frame} {meth : Method} {c : Code} {D : mD} {mb : Nat} {H : Heap} {locs : List Loc} {Q : State → Prop} {cc : ByteArray} {pc fR lR nL : Nat} {ls : Array Slot} {rest : List Value} {ret : Option FieldType} {σ : mS} (X : mX p s m args meth c cc nL ret D) (hP : mP D mb σ H) {x1 : Int32} {x2 : Int32} {x3 : Int32} {x4 : Int32} {x5 : Int32} {x6 : Int32} {x7 : Int32} {r : Int32} (h : f_reckoned x1 x2 x3 x4 x5 x6 x7 σ = some r) (hr : 1 + 1 ≤ fR ∧ 8 + (14 + 11) + 23 ≤ lR) (hl : ls.size = nL) (hW : (rest.map fun v => v.category).sum ≤ 8) (hdg : decode cc pc = .ok (.invokevirtual 401, 3)) (kk : W p l e (rM fR lR) s m args below meth c H locs 0 0 Q (F0 m (pc + 3) ls (.int r :: rest))) : W p l e (rM fR lR) s m args below meth c H locs 0 0 Q (F0 m pc ls (.int x7 :: .int x6 :: .int x5 :: .int x4 :: .int x3 :: .int x2 :: .int x1 :: .ref mb :: rest)) := m_cr (m_run (n := 7) X (K_reckoned l D mb σ x1 x2 x3 x4 x5 x6 x7 h) ⟨w_2256, w_2258, w_134, w_2259⟩ (hyX rfl (by decide +kernel)) rfl hr hP hl hW hdg rfl) kk
-- reckon(IIIIZ)V
def f_reckon_298   (σ : mS) : Option (mS) := some σ
def f_reckon_297  (y1 : Int32) (y2 : Int32) (σ : mS) : Option (mS) := (wr σ 47 y1 y2).bind (fun s1 => f_reckon_298 s1)
def f_reckon_296  (y1 : Int32) (σ : mS) : Option (mS) := f_reckon_297 (y1) ((0:Int32)) σ
def f_reckon_256  (x1 : Int32) (x2 : Int32) (x4 : Int32) (x6 : Int32) (y1 : Int32) (y2 : Int32) (σ : mS) : Option (mS) := (wr σ 43 y1 y2).bind (fun s1 => if (5:Int32) ≤ x2 then (f_reckon_298 s1) else (if x4 = (0:Int32) then (if x6 < (0:Int32) then (f_reckon_296 ((((5:Int32) * x1) + x2)) s1) else ((rd s1 39 x6).bind (fun v2 => if v2 = (1:Int32) then (f_reckon_297 ((((5:Int32) * x1) + x2)) ((1:Int32)) s1) else (f_reckon_296 ((((5:Int32) * x1) + x2)) s1)))) else (f_reckon_298 s1)))
def f_reckon_193  (x1 : Int32) (x2 : Int32) (x3 : Int32) (x4 : Int32) (x5 : Int32) (x6 : Int32) (x7 : Int32) (x8 : Int32) (y0 : Int32) (σ : mS) : Option (mS) := if y0 = (0:Int32) then (if x7 ≤ (6:Int32) then ((f_reckoned (x1) (x2) (x7) (x8) (x3) (x4) (x5) σ).bind (fun v1 => f_reckon_256 (x1) (x2) (x4) (x6) ((((12:Int32) * (((30:Int32) * x4) + x1)) + x2)) (v1) σ)) else ((f_initial (x2)).bind (fun v2 => f_reckon_256 (x1) (x2) (x4) (x6) ((((12:Int32) * (((30:Int32) * x4) + x1)) + x2)) (v2) σ))) else ((f_inherited (x1) (x2) (x3) σ).bind (fun v3 => f_reckon_256 (x1) (x2) (x4) (x6) ((((12:Int32) * (((30:Int32) * x4) + x1)) + x2)) (v3) σ))
def f_reckon_188  (x1 : Int32) (x2 : Int32) (x3 : Int32) (x4 : Int32) (x5 : Int32) (x6 : Int32) (x7 : Int32) (x8 : Int32) (σ : mS) : Option (mS) := f_reckon_193 (x1) (x2) (x3) (x4) (x5) (x6) (x7) (x8) ((1:Int32)) σ
def f_reckon_192  (x1 : Int32) (x2 : Int32) (x3 : Int32) (x4 : Int32) (x5 : Int32) (x6 : Int32) (x7 : Int32) (x8 : Int32) (σ : mS) : Option (mS) := f_reckon_193 (x1) (x2) (x3) (x4) (x5) (x6) (x7) (x8) ((0:Int32)) σ
def f_reckon_169  (x1 : Int32) (x2 : Int32) (x3 : Int32) (x4 : Int32) (x5 : Int32) (x6 : Int32) (x7 : Int32) (x8 : Int32) (σ : mS) : Option (mS) := if x7 = (8:Int32) then (f_reckon_188 (x1) (x2) (x3) (x4) (x5) (x6) (x7) (x8) σ) else (if x7 = (9:Int32) then (if (2:Int32) ≤ x2 then (f_reckon_192 (x1) (x2) (x3) (x4) (x5) (x6) (x7) (x8) σ) else (f_reckon_188 (x1) (x2) (x3) (x4) (x5) (x6) (x7) (x8) σ)) else (f_reckon_192 (x1) (x2) (x3) (x4) (x5) (x6) (x7) (x8) σ))
def f_reckon_167  (x1 : Int32) (x2 : Int32) (x3 : Int32) (x4 : Int32) (x5 : Int32) (x6 : Int32) (x8 : Int32) (y0 : Int32) (σ : mS) : Option (mS) := f_reckon_169 (x1) (x2) (x3) (x4) (x5) (x6) (y0) (x8) σ
def f_reckon_148  (x1 : Int32) (x2 : Int32) (x3 : Int32) (x4 : Int32) (x5 : Int32) (x6 : Int32) (x7 : Int32) (y0 : Int32) (σ : mS) : Option (mS) := (f_suits (x2) (x7)).bind (fun v1 => if v1 = (0:Int32) then (f_reckon_167 (x1) (x2) (x3) (x4) (x5) (x6) (y0) ((9:Int32)) σ) else (f_reckon_167 (x1) (x2) (x3) (x4) (x5) (x6) (y0) (x7) σ))
def f_reckon_119  (x1 : Int32) (x2 : Int32) (x3 : Int32) (x4 : Int32) (x5 : Int32) (x6 : Int32) (x9 : Int32) (y0 : Int32) (σ : mS) : Option (mS) := (rd σ 44 x9).bind (fun v1 => if v1 < (0:Int32) then ((rd σ 42 x6).bind (fun v2 => f_reckon_148 (x1) (x2) (x3) (x4) (x5) (x6) (y0) (v2) σ)) else ((rd σ 45 x9).bind (fun v3 => f_reckon_148 (x1) (x2) (x3) (x4) (x5) (x6) (y0) (v3) σ)))
def f_reckon_46  (x1 : Int32) (x2 : Int32) (x3 : Int32) (x4 : Int32) (x5 : Int32) (x6 : Int32) (x7 : Int32) (y0 : Int32) (σ : mS) : Option (mS) := if x7 = (11:Int32) then ((rd σ 40 x6).bind (fun v1 => (rd σ 44 ((((3:Int32) * (((30:Int32) * x4) + x1)) + v1) - (12:Int32))).bind (fun v2 => if v2 < (0:Int32) then ((rd σ 41 x6).bind (fun v3 => if v3 < (0:Int32) then (f_reckon_119 (x1) (x2) (x3) (x4) (x5) (x6) (((((3:Int32) * (((30:Int32) * x4) + x1)) + v1) - (12:Int32))) ((9:Int32)) σ) else ((rd σ 41 x6).bind (fun v4 => f_reckon_119 (x1) (x2) (x3) (x4) (x5) (x6) (((((3:Int32) * (((30:Int32) * x4) + x1)) + v1) - (12:Int32))) (v4) σ)))) else ((rd σ 44 ((((3:Int32) * (((30:Int32) * x4) + x1)) + v1) - (12:Int32))).bind (fun v5 => f_reckon_119 (x1) (x2) (x3) (x4) (x5) (x6) (((((3:Int32) * (((30:Int32) * x4) + x1)) + v1) - (12:Int32))) (v5) σ))))) else (f_reckon_169 (x1) (x2) (x3) (x4) (x5) (x6) (x7) (y0) σ)
def f_reckon_28  (x1 : Int32) (x2 : Int32) (x3 : Int32) (x4 : Int32) (x5 : Int32) (x6 : Int32) (y0 : Int32) (σ : mS) : Option (mS) := if (0:Int32) ≤ x6 then ((rd σ 38 x6).bind (fun v1 => f_reckon_46 (x1) (x2) (x3) (x4) (x5) (x6) (y0) (v1) σ)) else (f_reckon_46 (x1) (x2) (x3) (x4) (x5) (x6) (y0) ((0:Int32)) σ)
def f_reckon (x1 : Int32) (x2 : Int32) (x3 : Int32) (x4 : Int32) (x5 : Int32) (σ : mS) : Option (mS) := (f_found (x1) (x2) (x3) (x5) σ).bind (fun v1 => if (0:Int32) ≤ v1 then ((rd σ 37 v1).bind (fun v2 => f_reckon_28 (x1) (x2) (x3) (x4) (x5) (v1) (v2) σ)) else (f_reckon_28 (x1) (x2) (x3) (x4) (x5) (v1) ((9:Int32)) σ))
set_option maxRecDepth 20000 in
set_option maxHeartbeats 4000000 in
theorem N_reckon_298 {p : Program} {l : Launch} {e : Env} {s : State} {m : MethodId} {args : Array Value} {below : List Frame} {meth : Method} {c : Code} {D : mD} {mb : Nat}    {σ : mS} {H : Heap} {locs : List Loc} {ls : Array Slot} {q : mS} (X : mX p s m args meth c cX12_reckon 10 none D) (hP : mP D mb σ H) (hF : mF mb s.heap H locs)  (hl : lv_has ls 10 [(0, .ref mb)]) (h : f_reckon_298   σ = some q) : mWw p l e 7 167 s m args below meth c D mb q none H locs (F0 m 298 ls []) := by
  have hx := X.1
  have hb := X.2.1
  have hown := X.2.2.2.1
  have hts := X.2.2.2.2.1
  have h : (some σ) = some q := h
  obtain rfl := sj h
  exact m_wv X hP hF dX12_reckon_298
set_option maxRecDepth 20000 in
set_option maxHeartbeats 4000000 in
theorem N_reckon_297 {p : Program} {l : Launch} {e : Env} {s : State} {m : MethodId} {args : Array Value} {below : List Frame} {meth : Method} {c : Code} {D : mD} {mb : Nat}   {y1 : Int32} {y2 : Int32} {σ : mS} {H : Heap} {locs : List Loc} {ls : Array Slot} {q : mS} (X : mX p s m args meth c cX12_reckon 10 none D) (hP : mP D mb σ H) (hF : mF mb s.heap H locs)  (hl : lv_has ls 10 [(0, .ref mb)]) (h : f_reckon_297  y1 y2 σ = some q) : mWw p l e 7 167 s m args below meth c D mb q none H locs (F0 m 297 ls [.int y2, .int y1, .ref (mA mb 47)]) := by
  have hx := X.1
  have hb := X.2.1
  have hown := X.2.2.2.1
  have hts := X.2.2.2.2.1
  have h : ((wr σ 47 y1 y2).bind (fun s1 => f_reckon_298 s1)) = some q := h
  obtain ⟨s1, hs1, h⟩ := ob h
  refine m_ast X hP hF hs1 dX12_reckon_297 (fun H locs hP hF => ?_)
  exact N_reckon_298 X hP hF (lv_sub hl [0] rfl) h
set_option maxRecDepth 20000 in
set_option maxHeartbeats 4000000 in
theorem N_reckon_296 {p : Program} {l : Launch} {e : Env} {s : State} {m : MethodId} {args : Array Value} {below : List Frame} {meth : Method} {c : Code} {D : mD} {mb : Nat}   {y1 : Int32} {σ : mS} {H : Heap} {locs : List Loc} {ls : Array Slot} {q : mS} (X : mX p s m args meth c cX12_reckon 10 none D) (hP : mP D mb σ H) (hF : mF mb s.heap H locs)  (hl : lv_has ls 10 [(0, .ref mb)]) (h : f_reckon_296  y1 σ = some q) : mWw p l e 7 167 s m args below meth c D mb q none H locs (F0 m 296 ls [.int y1, .ref (mA mb 47)]) := by
  have hx := X.1
  have hb := X.2.1
  have hown := X.2.2.2.1
  have hts := X.2.2.2.2.1
  have h : (f_reckon_297 (y1) ((0:Int32)) σ) = some q := h
  refine lv_iconst (v := (0:Int32)) hx hb dX12_reckon_296 (by decide) ?_
  exact N_reckon_297 X hP hF (lv_sub hl [0] rfl) h
set_option maxRecDepth 20000 in
set_option maxHeartbeats 4000000 in
theorem N_reckon_256 {p : Program} {l : Launch} {e : Env} {s : State} {m : MethodId} {args : Array Value} {below : List Frame} {meth : Method} {c : Code} {D : mD} {mb : Nat}   {x1 : Int32} {x2 : Int32} {x4 : Int32} {x6 : Int32} {y1 : Int32} {y2 : Int32} {σ : mS} {H : Heap} {locs : List Loc} {ls : Array Slot} {q : mS} (X : mX p s m args meth c cX12_reckon 10 none D) (hP : mP D mb σ H) (hF : mF mb s.heap H locs)  (hl : lv_has ls 10 [(0, .ref mb), (1, .int x1), (2, .int x2), (4, .int x4), (6, .int x6)]) (h : f_reckon_256  x1 x2 x4 x6 y1 y2 σ = some q) : mWw p l e 7 167 s m args below meth c D mb q none H locs (F0 m 256 ls [.int y2, .int y1, .ref (mA mb 43)]) := by
  have hx := X.1
  have hb := X.2.1
  have hown := X.2.2.2.1
  have hts := X.2.2.2.2.1
  have h : ((wr σ 43 y1 y2).bind (fun s1 => if (5:Int32) ≤ x2 then (f_reckon_298 s1) else (if x4 = (0:Int32) then (if x6 < (0:Int32) then (f_reckon_296 ((((5:Int32) * x1) + x2)) s1) else ((rd s1 39 x6).bind (fun v2 => if v2 = (1:Int32) then (f_reckon_297 ((((5:Int32) * x1) + x2)) ((1:Int32)) s1) else (f_reckon_296 ((((5:Int32) * x1) + x2)) s1)))) else (f_reckon_298 s1)))) = some q := h
  obtain ⟨s1, hs1, h⟩ := ob h
  refine m_ast X hP hF hs1 dX12_reckon_256 (fun H locs hP hF => ?_)
  refine lv_iload_n hx hb dX12_reckon_257 rfl (lv_at hl 2 rfl) ?_
  refine lv_iconst (v := (5:Int32)) hx hb dX12_reckon_258 (by decide) ?_
  refine lv_icmp_ge (tgt := 298) hx hb dX12_reckon_259 rfl (fun hc => ?_) (fun hc => ?_)
  · have h := ip hc h
    exact N_reckon_298 X hP hF (lv_sub hl [0] rfl) h
  · have h := ine hc h
    refine lv_iload hx hb dX12_reckon_262 (lv_at hl 3 rfl) ?_
    refine lv_if_ne (tgt := 298) hx hb dX12_reckon_264 rfl (fun hc => ?_) (fun hc => ?_)
    · have h := ine hc h
      exact N_reckon_298 X hP hF (lv_sub hl [0] rfl) h
    · have h := ip hc h
      refine lv_aload_n hx hb dX12_reckon_267 rfl (lv_at hl 0 rfl) ?_
      refine mg_imp X hP dX12_reckon_268 ?_
      refine lv_iconst (v := (5:Int32)) hx hb dX12_reckon_271 (by decide) ?_
      refine lv_iload_n hx hb dX12_reckon_272 rfl (lv_at hl 1 rfl) ?_
      refine lv_imul hx hb dX12_reckon_273 ?_
      refine lv_iload_n hx hb dX12_reckon_274 rfl (lv_at hl 2 rfl) ?_
      refine lv_iadd hx hb dX12_reckon_275 ?_
      refine lv_iload hx hb dX12_reckon_276 (lv_at hl 4 rfl) ?_
      refine lv_if_lt (tgt := 296) hx hb dX12_reckon_278 rfl (fun hc => ?_) (fun hc => ?_)
      · have h := ip hc h
        exact N_reckon_296 X hP hF (lv_sub hl [0] rfl) h
      · have h := ine hc h
        refine lv_aload_n hx hb dX12_reckon_281 rfl (lv_at hl 0 rfl) ?_
        refine mg_di X hP dX12_reckon_282 ?_
        refine lv_iload hx hb dX12_reckon_285 (lv_at hl 4 rfl) ?_
        obtain ⟨v2, hv2, h⟩ := ob h
        refine m_ald X hP hv2 dX12_reckon_287 ?_
        refine lv_iconst (v := (1:Int32)) hx hb dX12_reckon_288 (by decide) ?_
        refine lv_icmp_ne (tgt := 296) hx hb dX12_reckon_289 rfl (fun hc => ?_) (fun hc => ?_)
        · have h := ine hc h
          exact N_reckon_296 X hP hF (lv_sub hl [0] rfl) h
        · have h := ip hc h
          refine lv_iconst (v := (1:Int32)) hx hb dX12_reckon_292 (by decide) ?_
          refine lv_goto (tgt := 297) hx hb dX12_reckon_293 rfl ?_
          exact N_reckon_297 X hP hF (lv_sub hl [0] rfl) h
set_option maxRecDepth 20000 in
set_option maxHeartbeats 4000000 in
theorem N_reckon_193 {p : Program} {l : Launch} {e : Env} {s : State} {m : MethodId} {args : Array Value} {below : List Frame} {meth : Method} {c : Code} {D : mD} {mb : Nat}   {x1 : Int32} {x2 : Int32} {x3 : Int32} {x4 : Int32} {x5 : Int32} {x6 : Int32} {x7 : Int32} {x8 : Int32} {y0 : Int32} {σ : mS} {H : Heap} {locs : List Loc} {ls : Array Slot} {q : mS} (X : mX p s m args meth c cX12_reckon 10 none D) (hP : mP D mb σ H) (hF : mF mb s.heap H locs)  (hl : lv_has ls 10 [(0, .ref mb), (1, .int x1), (2, .int x2), (3, .int x3), (4, .int x4), (5, .int x5), (6, .int x6), (7, .int x7), (8, .int x8)]) (h : f_reckon_193  x1 x2 x3 x4 x5 x6 x7 x8 y0 σ = some q) : mWw p l e 7 167 s m args below meth c D mb q none H locs (F0 m 193 ls [.int y0]) := by
  have hx := X.1
  have hb := X.2.1
  have hown := X.2.2.2.1
  have hts := X.2.2.2.2.1
  have h : (if y0 = (0:Int32) then (if x7 ≤ (6:Int32) then ((f_reckoned (x1) (x2) (x7) (x8) (x3) (x4) (x5) σ).bind (fun v1 => f_reckon_256 (x1) (x2) (x4) (x6) ((((12:Int32) * (((30:Int32) * x4) + x1)) + x2)) (v1) σ)) else ((f_initial (x2)).bind (fun v2 => f_reckon_256 (x1) (x2) (x4) (x6) ((((12:Int32) * (((30:Int32) * x4) + x1)) + x2)) (v2) σ))) else ((f_inherited (x1) (x2) (x3) σ).bind (fun v3 => f_reckon_256 (x1) (x2) (x4) (x6) ((((12:Int32) * (((30:Int32) * x4) + x1)) + x2)) (v3) σ))) = some q := h
  refine lv_istore hx hb dX12_reckon_193 hl (Nat.le_of_ble_eq_true rfl) rfl (fun ls (hl : lv_has ls 10 [(9, .int y0), (0, .ref mb), (1, .int x1), (2, .int x2), (3, .int x3), (4, .int x4), (5, .int x5), (6, .int x6), (7, .int x7), (8, .int x8)]) => ?_)
  refine lv_aload_n hx hb dX12_reckon_195 rfl (lv_at hl 1 rfl) ?_
  refine mg_val X hP dX12_reckon_196 ?_
  refine lv_bipush (v := (12:Int32)) hx hb dX12_reckon_199 (by decide) ?_
  refine lv_bipush (v := (30:Int32)) hx hb dX12_reckon_201 (by decide) ?_
  refine lv_iload hx hb dX12_reckon_203 (lv_at hl 5 rfl) ?_
  refine lv_imul hx hb dX12_reckon_205 ?_
  refine lv_iload_n hx hb dX12_reckon_206 rfl (lv_at hl 2 rfl) ?_
  refine lv_iadd hx hb dX12_reckon_207 ?_
  refine lv_imul hx hb dX12_reckon_208 ?_
  refine lv_iload_n hx hb dX12_reckon_209 rfl (lv_at hl 3 rfl) ?_
  refine lv_iadd hx hb dX12_reckon_210 ?_
  refine lv_iload hx hb dX12_reckon_211 (lv_at hl 0 rfl) ?_
  refine lv_if_eq (tgt := 226) hx hb dX12_reckon_213 rfl (fun hc => ?_) (fun hc => ?_)
  · have h := ip hc h
    refine lv_iload hx hb dX12_reckon_226 (lv_at hl 8 rfl) ?_
    refine lv_bipush (v := (6:Int32)) hx hb dX12_reckon_228 (by decide) ?_
    refine lv_icmp_le (tgt := 241) hx hb dX12_reckon_230 rfl (fun hc => ?_) (fun hc => ?_)
    · have h := ip hc h
      refine lv_aload_n hx hb dX12_reckon_241 rfl (lv_at hl 1 rfl) ?_
      refine lv_iload_n hx hb dX12_reckon_242 rfl (lv_at hl 2 rfl) ?_
      refine lv_iload_n hx hb dX12_reckon_243 rfl (lv_at hl 3 rfl) ?_
      refine lv_iload hx hb dX12_reckon_244 (lv_at hl 8 rfl) ?_
      refine lv_iload hx hb dX12_reckon_246 (lv_at hl 9 rfl) ?_
      refine lv_iload_n hx hb dX12_reckon_248 rfl (lv_at hl 4 rfl) ?_
      refine lv_iload hx hb dX12_reckon_249 (lv_at hl 5 rfl) ?_
      refine lv_iload hx hb dX12_reckon_251 (lv_at hl 6 rfl) ?_
      obtain ⟨v1, hv1, h⟩ := ob h
      refine cl_reckoned X hP hv1 ⟨Nat.le_of_ble_eq_true rfl, Nat.le_of_ble_eq_true rfl⟩ hl.1 (Nat.le_of_ble_eq_true rfl) dX12_reckon_253 ?_
      exact N_reckon_256 X hP hF (lv_sub hl [1, 2, 3, 5, 7] rfl) h
    · have h := ine hc h
      refine lv_aload_n hx hb dX12_reckon_233 rfl (lv_at hl 1 rfl) ?_
      refine lv_iload_n hx hb dX12_reckon_234 rfl (lv_at hl 3 rfl) ?_
      obtain ⟨v2, hv2, h⟩ := ob h
      refine cl_initial X hP hv2 ⟨Nat.le_of_ble_eq_true rfl, Nat.le_of_ble_eq_true rfl⟩ hl.1 (Nat.le_of_ble_eq_true rfl) dX12_reckon_235 ?_
      refine lv_goto (tgt := 256) hx hb dX12_reckon_238 rfl ?_
      exact N_reckon_256 X hP hF (lv_sub hl [1, 2, 3, 5, 7] rfl) h
  · have h := ine hc h
    refine lv_aload_n hx hb dX12_reckon_216 rfl (lv_at hl 1 rfl) ?_
    refine lv_iload_n hx hb dX12_reckon_217 rfl (lv_at hl 2 rfl) ?_
    refine lv_iload_n hx hb dX12_reckon_218 rfl (lv_at hl 3 rfl) ?_
    refine lv_iload_n hx hb dX12_reckon_219 rfl (lv_at hl 4 rfl) ?_
    obtain ⟨v3, hv3, h⟩ := ob h
    refine cl_inherited X hP hv3 ⟨Nat.le_of_ble_eq_true rfl, Nat.le_of_ble_eq_true rfl⟩ hl.1 (Nat.le_of_ble_eq_true rfl) dX12_reckon_220 ?_
    refine lv_goto (tgt := 256) hx hb dX12_reckon_223 rfl ?_
    exact N_reckon_256 X hP hF (lv_sub hl [1, 2, 3, 5, 7] rfl) h
set_option maxRecDepth 20000 in
set_option maxHeartbeats 4000000 in
theorem N_reckon_188 {p : Program} {l : Launch} {e : Env} {s : State} {m : MethodId} {args : Array Value} {below : List Frame} {meth : Method} {c : Code} {D : mD} {mb : Nat}   {x1 : Int32} {x2 : Int32} {x3 : Int32} {x4 : Int32} {x5 : Int32} {x6 : Int32} {x7 : Int32} {x8 : Int32} {σ : mS} {H : Heap} {locs : List Loc} {ls : Array Slot} {q : mS} (X : mX p s m args meth c cX12_reckon 10 none D) (hP : mP D mb σ H) (hF : mF mb s.heap H locs)  (hl : lv_has ls 10 [(0, .ref mb), (1, .int x1), (2, .int x2), (3, .int x3), (4, .int x4), (5, .int x5), (6, .int x6), (7, .int x7), (8, .int x8)]) (h : f_reckon_188  x1 x2 x3 x4 x5 x6 x7 x8 σ = some q) : mWw p l e 7 167 s m args below meth c D mb q none H locs (F0 m 188 ls []) := by
  have hx := X.1
  have hb := X.2.1
  have hown := X.2.2.2.1
  have hts := X.2.2.2.2.1
  have h : (f_reckon_193 (x1) (x2) (x3) (x4) (x5) (x6) (x7) (x8) ((1:Int32)) σ) = some q := h
  refine lv_iconst (v := (1:Int32)) hx hb dX12_reckon_188 (by decide) ?_
  refine lv_goto (tgt := 193) hx hb dX12_reckon_189 rfl ?_
  exact N_reckon_193 X hP hF (lv_sub hl [0, 1, 2, 3, 4, 5, 6, 7, 8] rfl) h
set_option maxRecDepth 20000 in
set_option maxHeartbeats 4000000 in
theorem N_reckon_192 {p : Program} {l : Launch} {e : Env} {s : State} {m : MethodId} {args : Array Value} {below : List Frame} {meth : Method} {c : Code} {D : mD} {mb : Nat}   {x1 : Int32} {x2 : Int32} {x3 : Int32} {x4 : Int32} {x5 : Int32} {x6 : Int32} {x7 : Int32} {x8 : Int32} {σ : mS} {H : Heap} {locs : List Loc} {ls : Array Slot} {q : mS} (X : mX p s m args meth c cX12_reckon 10 none D) (hP : mP D mb σ H) (hF : mF mb s.heap H locs)  (hl : lv_has ls 10 [(0, .ref mb), (1, .int x1), (2, .int x2), (3, .int x3), (4, .int x4), (5, .int x5), (6, .int x6), (7, .int x7), (8, .int x8)]) (h : f_reckon_192  x1 x2 x3 x4 x5 x6 x7 x8 σ = some q) : mWw p l e 7 167 s m args below meth c D mb q none H locs (F0 m 192 ls []) := by
  have hx := X.1
  have hb := X.2.1
  have hown := X.2.2.2.1
  have hts := X.2.2.2.2.1
  have h : (f_reckon_193 (x1) (x2) (x3) (x4) (x5) (x6) (x7) (x8) ((0:Int32)) σ) = some q := h
  refine lv_iconst (v := (0:Int32)) hx hb dX12_reckon_192 (by decide) ?_
  exact N_reckon_193 X hP hF (lv_sub hl [0, 1, 2, 3, 4, 5, 6, 7, 8] rfl) h
set_option maxRecDepth 20000 in
set_option maxHeartbeats 4000000 in
theorem N_reckon_169 {p : Program} {l : Launch} {e : Env} {s : State} {m : MethodId} {args : Array Value} {below : List Frame} {meth : Method} {c : Code} {D : mD} {mb : Nat}   {x1 : Int32} {x2 : Int32} {x3 : Int32} {x4 : Int32} {x5 : Int32} {x6 : Int32} {x7 : Int32} {x8 : Int32} {σ : mS} {H : Heap} {locs : List Loc} {ls : Array Slot} {q : mS} (X : mX p s m args meth c cX12_reckon 10 none D) (hP : mP D mb σ H) (hF : mF mb s.heap H locs)  (hl : lv_has ls 10 [(0, .ref mb), (1, .int x1), (2, .int x2), (3, .int x3), (4, .int x4), (5, .int x5), (6, .int x6), (7, .int x7), (8, .int x8)]) (h : f_reckon_169  x1 x2 x3 x4 x5 x6 x7 x8 σ = some q) : mWw p l e 7 167 s m args below meth c D mb q none H locs (F0 m 169 ls []) := by
  have hx := X.1
  have hb := X.2.1
  have hown := X.2.2.2.1
  have hts := X.2.2.2.2.1
  have h : (if x7 = (8:Int32) then (f_reckon_188 (x1) (x2) (x3) (x4) (x5) (x6) (x7) (x8) σ) else (if x7 = (9:Int32) then (if (2:Int32) ≤ x2 then (f_reckon_192 (x1) (x2) (x3) (x4) (x5) (x6) (x7) (x8) σ) else (f_reckon_188 (x1) (x2) (x3) (x4) (x5) (x6) (x7) (x8) σ)) else (f_reckon_192 (x1) (x2) (x3) (x4) (x5) (x6) (x7) (x8) σ))) = some q := h
  refine lv_iload hx hb dX12_reckon_169 (lv_at hl 7 rfl) ?_
  refine lv_bipush (v := (8:Int32)) hx hb dX12_reckon_171 (by decide) ?_
  refine lv_icmp_eq (tgt := 188) hx hb dX12_reckon_173 rfl (fun hc => ?_) (fun hc => ?_)
  · have h := ip hc h
    exact N_reckon_188 X hP hF (lv_sub hl [0, 1, 2, 3, 4, 5, 6, 7, 8] rfl) h
  · have h := ine hc h
    refine lv_iload hx hb dX12_reckon_176 (lv_at hl 7 rfl) ?_
    refine lv_bipush (v := (9:Int32)) hx hb dX12_reckon_178 (by decide) ?_
    refine lv_icmp_ne (tgt := 192) hx hb dX12_reckon_180 rfl (fun hc => ?_) (fun hc => ?_)
    · have h := ine hc h
      exact N_reckon_192 X hP hF (lv_sub hl [0, 1, 2, 3, 4, 5, 6, 7, 8] rfl) h
    · have h := ip hc h
      refine lv_iload_n hx hb dX12_reckon_183 rfl (lv_at hl 2 rfl) ?_
      refine lv_iconst (v := (2:Int32)) hx hb dX12_reckon_184 (by decide) ?_
      refine lv_icmp_ge (tgt := 192) hx hb dX12_reckon_185 rfl (fun hc => ?_) (fun hc => ?_)
      · have h := ip hc h
        exact N_reckon_192 X hP hF (lv_sub hl [0, 1, 2, 3, 4, 5, 6, 7, 8] rfl) h
      · have h := ine hc h
        exact N_reckon_188 X hP hF (lv_sub hl [0, 1, 2, 3, 4, 5, 6, 7, 8] rfl) h
set_option maxRecDepth 20000 in
set_option maxHeartbeats 4000000 in
theorem N_reckon_167 {p : Program} {l : Launch} {e : Env} {s : State} {m : MethodId} {args : Array Value} {below : List Frame} {meth : Method} {c : Code} {D : mD} {mb : Nat}   {x1 : Int32} {x2 : Int32} {x3 : Int32} {x4 : Int32} {x5 : Int32} {x6 : Int32} {x8 : Int32} {y0 : Int32} {σ : mS} {H : Heap} {locs : List Loc} {ls : Array Slot} {q : mS} (X : mX p s m args meth c cX12_reckon 10 none D) (hP : mP D mb σ H) (hF : mF mb s.heap H locs)  (hl : lv_has ls 10 [(0, .ref mb), (1, .int x1), (2, .int x2), (3, .int x3), (4, .int x4), (5, .int x5), (6, .int x6), (8, .int x8)]) (h : f_reckon_167  x1 x2 x3 x4 x5 x6 x8 y0 σ = some q) : mWw p l e 7 167 s m args below meth c D mb q none H locs (F0 m 167 ls [.int y0]) := by
  have hx := X.1
  have hb := X.2.1
  have hown := X.2.2.2.1
  have hts := X.2.2.2.2.1
  have h : (f_reckon_169 (x1) (x2) (x3) (x4) (x5) (x6) (y0) (x8) σ) = some q := h
  refine lv_istore hx hb dX12_reckon_167 hl (Nat.le_of_ble_eq_true rfl) rfl (fun ls (hl : lv_has ls 10 [(7, .int y0), (0, .ref mb), (1, .int x1), (2, .int x2), (3, .int x3), (4, .int x4), (5, .int x5), (6, .int x6), (8, .int x8)]) => ?_)
  exact N_reckon_169 X hP hF (lv_sub hl [1, 2, 3, 4, 5, 6, 7, 0, 8] rfl) h
set_option maxRecDepth 20000 in
set_option maxHeartbeats 4000000 in
theorem N_reckon_148 {p : Program} {l : Launch} {e : Env} {s : State} {m : MethodId} {args : Array Value} {below : List Frame} {meth : Method} {c : Code} {D : mD} {mb : Nat}   {x1 : Int32} {x2 : Int32} {x3 : Int32} {x4 : Int32} {x5 : Int32} {x6 : Int32} {x7 : Int32} {y0 : Int32} {σ : mS} {H : Heap} {locs : List Loc} {ls : Array Slot} {q : mS} (X : mX p s m args meth c cX12_reckon 10 none D) (hP : mP D mb σ H) (hF : mF mb s.heap H locs)  (hl : lv_has ls 10 [(0, .ref mb), (1, .int x1), (2, .int x2), (3, .int x3), (4, .int x4), (5, .int x5), (6, .int x6), (7, .int x7)]) (h : f_reckon_148  x1 x2 x3 x4 x5 x6 x7 y0 σ = some q) : mWw p l e 7 167 s m args below meth c D mb q none H locs (F0 m 148 ls [.int y0]) := by
  have hx := X.1
  have hb := X.2.1
  have hown := X.2.2.2.1
  have hts := X.2.2.2.2.1
  have h : ((f_suits (x2) (x7)).bind (fun v1 => if v1 = (0:Int32) then (f_reckon_167 (x1) (x2) (x3) (x4) (x5) (x6) (y0) ((9:Int32)) σ) else (f_reckon_167 (x1) (x2) (x3) (x4) (x5) (x6) (y0) (x7) σ))) = some q := h
  refine lv_istore hx hb dX12_reckon_148 hl (Nat.le_of_ble_eq_true rfl) rfl (fun ls (hl : lv_has ls 10 [(8, .int y0), (0, .ref mb), (1, .int x1), (2, .int x2), (3, .int x3), (4, .int x4), (5, .int x5), (6, .int x6), (7, .int x7)]) => ?_)
  refine lv_aload_n hx hb dX12_reckon_150 rfl (lv_at hl 1 rfl) ?_
  refine lv_iload_n hx hb dX12_reckon_151 rfl (lv_at hl 3 rfl) ?_
  refine lv_iload hx hb dX12_reckon_152 (lv_at hl 8 rfl) ?_
  obtain ⟨v1, hv1, h⟩ := ob h
  refine cl_suits X hP hv1 ⟨Nat.le_of_ble_eq_true rfl, Nat.le_of_ble_eq_true rfl⟩ hl.1 (Nat.le_of_ble_eq_true rfl) dX12_reckon_154 ?_
  refine lv_if_eq (tgt := 165) hx hb dX12_reckon_157 rfl (fun hc => ?_) (fun hc => ?_)
  · have h := ip hc h
    refine lv_bipush (v := (9:Int32)) hx hb dX12_reckon_165 (by decide) ?_
    exact N_reckon_167 X hP hF (lv_sub hl [1, 2, 3, 4, 5, 6, 7, 0] rfl) h
  · have h := ine hc h
    refine lv_iload hx hb dX12_reckon_160 (lv_at hl 8 rfl) ?_
    refine lv_goto (tgt := 167) hx hb dX12_reckon_162 rfl ?_
    exact N_reckon_167 X hP hF (lv_sub hl [1, 2, 3, 4, 5, 6, 7, 0] rfl) h
set_option maxRecDepth 20000 in
set_option maxHeartbeats 4000000 in
theorem N_reckon_119 {p : Program} {l : Launch} {e : Env} {s : State} {m : MethodId} {args : Array Value} {below : List Frame} {meth : Method} {c : Code} {D : mD} {mb : Nat}   {x1 : Int32} {x2 : Int32} {x3 : Int32} {x4 : Int32} {x5 : Int32} {x6 : Int32} {x9 : Int32} {y0 : Int32} {σ : mS} {H : Heap} {locs : List Loc} {ls : Array Slot} {q : mS} (X : mX p s m args meth c cX12_reckon 10 none D) (hP : mP D mb σ H) (hF : mF mb s.heap H locs)  (hl : lv_has ls 10 [(0, .ref mb), (1, .int x1), (2, .int x2), (3, .int x3), (4, .int x4), (5, .int x5), (6, .int x6), (9, .int x9)]) (h : f_reckon_119  x1 x2 x3 x4 x5 x6 x9 y0 σ = some q) : mWw p l e 7 167 s m args below meth c D mb q none H locs (F0 m 119 ls [.int y0]) := by
  have hx := X.1
  have hb := X.2.1
  have hown := X.2.2.2.1
  have hts := X.2.2.2.2.1
  have h : ((rd σ 44 x9).bind (fun v1 => if v1 < (0:Int32) then ((rd σ 42 x6).bind (fun v2 => f_reckon_148 (x1) (x2) (x3) (x4) (x5) (x6) (y0) (v2) σ)) else ((rd σ 45 x9).bind (fun v3 => f_reckon_148 (x1) (x2) (x3) (x4) (x5) (x6) (y0) (v3) σ)))) = some q := h
  refine lv_istore hx hb dX12_reckon_119 hl (Nat.le_of_ble_eq_true rfl) rfl (fun ls (hl : lv_has ls 10 [(7, .int y0), (0, .ref mb), (1, .int x1), (2, .int x2), (3, .int x3), (4, .int x4), (5, .int x5), (6, .int x6), (9, .int x9)]) => ?_)
  refine lv_aload_n hx hb dX12_reckon_121 rfl (lv_at hl 1 rfl) ?_
  refine mg_vu X hP dX12_reckon_122 ?_
  refine lv_iload hx hb dX12_reckon_125 (lv_at hl 8 rfl) ?_
  obtain ⟨v1, hv1, h⟩ := ob h
  refine m_ald X hP hv1 dX12_reckon_127 ?_
  refine lv_if_lt (tgt := 141) hx hb dX12_reckon_128 rfl (fun hc => ?_) (fun hc => ?_)
  · have h := ip hc h
    refine lv_aload_n hx hb dX12_reckon_141 rfl (lv_at hl 1 rfl) ?_
    refine mg_en X hP dX12_reckon_142 ?_
    refine lv_iload hx hb dX12_reckon_145 (lv_at hl 7 rfl) ?_
    obtain ⟨v2, hv2, h⟩ := ob h
    refine m_ald X hP hv2 dX12_reckon_147 ?_
    exact N_reckon_148 X hP hF (lv_sub hl [1, 2, 3, 4, 5, 6, 7, 0] rfl) h
  · have h := ine hc h
    refine lv_aload_n hx hb dX12_reckon_131 rfl (lv_at hl 1 rfl) ?_
    refine mg_vn X hP dX12_reckon_132 ?_
    refine lv_iload hx hb dX12_reckon_135 (lv_at hl 8 rfl) ?_
    obtain ⟨v3, hv3, h⟩ := ob h
    refine m_ald X hP hv3 dX12_reckon_137 ?_
    refine lv_goto (tgt := 148) hx hb dX12_reckon_138 rfl ?_
    exact N_reckon_148 X hP hF (lv_sub hl [1, 2, 3, 4, 5, 6, 7, 0] rfl) h
set_option maxRecDepth 20000 in
set_option maxHeartbeats 4000000 in
theorem N_reckon_46 {p : Program} {l : Launch} {e : Env} {s : State} {m : MethodId} {args : Array Value} {below : List Frame} {meth : Method} {c : Code} {D : mD} {mb : Nat}   {x1 : Int32} {x2 : Int32} {x3 : Int32} {x4 : Int32} {x5 : Int32} {x6 : Int32} {x7 : Int32} {y0 : Int32} {σ : mS} {H : Heap} {locs : List Loc} {ls : Array Slot} {q : mS} (X : mX p s m args meth c cX12_reckon 10 none D) (hP : mP D mb σ H) (hF : mF mb s.heap H locs)  (hl : lv_has ls 10 [(0, .ref mb), (1, .int x1), (2, .int x2), (3, .int x3), (4, .int x4), (5, .int x5), (6, .int x6), (7, .int x7)]) (h : f_reckon_46  x1 x2 x3 x4 x5 x6 x7 y0 σ = some q) : mWw p l e 7 167 s m args below meth c D mb q none H locs (F0 m 46 ls [.int y0]) := by
  have hx := X.1
  have hb := X.2.1
  have hown := X.2.2.2.1
  have hts := X.2.2.2.2.1
  have h : (if x7 = (11:Int32) then ((rd σ 40 x6).bind (fun v1 => (rd σ 44 ((((3:Int32) * (((30:Int32) * x4) + x1)) + v1) - (12:Int32))).bind (fun v2 => if v2 < (0:Int32) then ((rd σ 41 x6).bind (fun v3 => if v3 < (0:Int32) then (f_reckon_119 (x1) (x2) (x3) (x4) (x5) (x6) (((((3:Int32) * (((30:Int32) * x4) + x1)) + v1) - (12:Int32))) ((9:Int32)) σ) else ((rd σ 41 x6).bind (fun v4 => f_reckon_119 (x1) (x2) (x3) (x4) (x5) (x6) (((((3:Int32) * (((30:Int32) * x4) + x1)) + v1) - (12:Int32))) (v4) σ)))) else ((rd σ 44 ((((3:Int32) * (((30:Int32) * x4) + x1)) + v1) - (12:Int32))).bind (fun v5 => f_reckon_119 (x1) (x2) (x3) (x4) (x5) (x6) (((((3:Int32) * (((30:Int32) * x4) + x1)) + v1) - (12:Int32))) (v5) σ))))) else (f_reckon_169 (x1) (x2) (x3) (x4) (x5) (x6) (x7) (y0) σ)) = some q := h
  refine lv_istore hx hb dX12_reckon_46 hl (Nat.le_of_ble_eq_true rfl) rfl (fun ls (hl : lv_has ls 10 [(8, .int y0), (0, .ref mb), (1, .int x1), (2, .int x2), (3, .int x3), (4, .int x4), (5, .int x5), (6, .int x6), (7, .int x7)]) => ?_)
  refine lv_iload hx hb dX12_reckon_48 (lv_at hl 8 rfl) ?_
  refine lv_bipush (v := (11:Int32)) hx hb dX12_reckon_50 (by decide) ?_
  refine lv_icmp_ne (tgt := 169) hx hb dX12_reckon_52 rfl (fun hc => ?_) (fun hc => ?_)
  · have h := ine hc h
    exact N_reckon_169 X hP hF (lv_sub hl [1, 2, 3, 4, 5, 6, 7, 8, 0] rfl) h
  · have h := ip hc h
    refine lv_iconst (v := (3:Int32)) hx hb dX12_reckon_55 (by decide) ?_
    refine lv_bipush (v := (30:Int32)) hx hb dX12_reckon_56 (by decide) ?_
    refine lv_iload hx hb dX12_reckon_58 (lv_at hl 5 rfl) ?_
    refine lv_imul hx hb dX12_reckon_60 ?_
    refine lv_iload_n hx hb dX12_reckon_61 rfl (lv_at hl 2 rfl) ?_
    refine lv_iadd hx hb dX12_reckon_62 ?_
    refine lv_imul hx hb dX12_reckon_63 ?_
    refine lv_aload_n hx hb dX12_reckon_64 rfl (lv_at hl 1 rfl) ?_
    refine mg_dv X hP dX12_reckon_65 ?_
    refine lv_iload hx hb dX12_reckon_68 (lv_at hl 7 rfl) ?_
    obtain ⟨v1, hv1, h⟩ := ob h
    refine m_ald X hP hv1 dX12_reckon_70 ?_
    refine lv_iadd hx hb dX12_reckon_71 ?_
    refine lv_bipush (v := (12:Int32)) hx hb dX12_reckon_72 (by decide) ?_
    refine lv_isub hx hb dX12_reckon_74 ?_
    refine lv_istore hx hb dX12_reckon_75 hl (Nat.le_of_ble_eq_true rfl) rfl (fun ls (hl : lv_has ls 10 [(9, .int ((((3:Int32) * (((30:Int32) * x4) + x1)) + v1) - (12:Int32))), (8, .int y0), (0, .ref mb), (1, .int x1), (2, .int x2), (3, .int x3), (4, .int x4), (5, .int x5), (6, .int x6), (7, .int x7)]) => ?_)
    refine lv_aload_n hx hb dX12_reckon_77 rfl (lv_at hl 2 rfl) ?_
    refine mg_vu X hP dX12_reckon_78 ?_
    refine lv_iload hx hb dX12_reckon_81 (lv_at hl 0 rfl) ?_
    obtain ⟨v2, hv2, h⟩ := ob h
    refine m_ald X hP hv2 dX12_reckon_83 ?_
    refine lv_if_lt (tgt := 97) hx hb dX12_reckon_84 rfl (fun hc => ?_) (fun hc => ?_)
    · have h := ip hc h
      refine lv_aload_n hx hb dX12_reckon_97 rfl (lv_at hl 2 rfl) ?_
      refine mg_eu X hP dX12_reckon_98 ?_
      refine lv_iload hx hb dX12_reckon_101 (lv_at hl 8 rfl) ?_
      obtain ⟨v3, hv3, h⟩ := ob h
      refine m_ald X hP hv3 dX12_reckon_103 ?_
      refine lv_if_lt (tgt := 117) hx hb dX12_reckon_104 rfl (fun hc => ?_) (fun hc => ?_)
      · have h := ip hc h
        refine lv_bipush (v := (9:Int32)) hx hb dX12_reckon_117 (by decide) ?_
        exact N_reckon_119 X hP hF (lv_sub hl [2, 3, 4, 5, 6, 7, 8, 0] rfl) h
      · have h := ine hc h
        refine lv_aload_n hx hb dX12_reckon_107 rfl (lv_at hl 2 rfl) ?_
        refine mg_eu X hP dX12_reckon_108 ?_
        refine lv_iload hx hb dX12_reckon_111 (lv_at hl 8 rfl) ?_
        obtain ⟨v4, hv4, h⟩ := ob h
        refine m_ald X hP hv4 dX12_reckon_113 ?_
        refine lv_goto (tgt := 119) hx hb dX12_reckon_114 rfl ?_
        exact N_reckon_119 X hP hF (lv_sub hl [2, 3, 4, 5, 6, 7, 8, 0] rfl) h
    · have h := ine hc h
      refine lv_aload_n hx hb dX12_reckon_87 rfl (lv_at hl 2 rfl) ?_
      refine mg_vu X hP dX12_reckon_88 ?_
      refine lv_iload hx hb dX12_reckon_91 (lv_at hl 0 rfl) ?_
      obtain ⟨v5, hv5, h⟩ := ob h
      refine m_ald X hP hv5 dX12_reckon_93 ?_
      refine lv_goto (tgt := 119) hx hb dX12_reckon_94 rfl ?_
      exact N_reckon_119 X hP hF (lv_sub hl [2, 3, 4, 5, 6, 7, 8, 0] rfl) h
set_option maxRecDepth 20000 in
set_option maxHeartbeats 4000000 in
theorem N_reckon_28 {p : Program} {l : Launch} {e : Env} {s : State} {m : MethodId} {args : Array Value} {below : List Frame} {meth : Method} {c : Code} {D : mD} {mb : Nat}   {x1 : Int32} {x2 : Int32} {x3 : Int32} {x4 : Int32} {x5 : Int32} {x6 : Int32} {y0 : Int32} {σ : mS} {H : Heap} {locs : List Loc} {ls : Array Slot} {q : mS} (X : mX p s m args meth c cX12_reckon 10 none D) (hP : mP D mb σ H) (hF : mF mb s.heap H locs)  (hl : lv_has ls 10 [(0, .ref mb), (1, .int x1), (2, .int x2), (3, .int x3), (4, .int x4), (5, .int x5), (6, .int x6)]) (h : f_reckon_28  x1 x2 x3 x4 x5 x6 y0 σ = some q) : mWw p l e 7 167 s m args below meth c D mb q none H locs (F0 m 28 ls [.int y0]) := by
  have hx := X.1
  have hb := X.2.1
  have hown := X.2.2.2.1
  have hts := X.2.2.2.2.1
  have h : (if (0:Int32) ≤ x6 then ((rd σ 38 x6).bind (fun v1 => f_reckon_46 (x1) (x2) (x3) (x4) (x5) (x6) (y0) (v1) σ)) else (f_reckon_46 (x1) (x2) (x3) (x4) (x5) (x6) (y0) ((0:Int32)) σ)) = some q := h
  refine lv_istore hx hb dX12_reckon_28 hl (Nat.le_of_ble_eq_true rfl) rfl (fun ls (hl : lv_has ls 10 [(7, .int y0), (0, .ref mb), (1, .int x1), (2, .int x2), (3, .int x3), (4, .int x4), (5, .int x5), (6, .int x6)]) => ?_)
  refine lv_iload hx hb dX12_reckon_30 (lv_at hl 7 rfl) ?_
  refine lv_if_ge (tgt := 39) hx hb dX12_reckon_32 rfl (fun hc => ?_) (fun hc => ?_)
  · have h := ip hc h
    refine lv_aload_n hx hb dX12_reckon_39 rfl (lv_at hl 1 rfl) ?_
    refine mg_dn X hP dX12_reckon_40 ?_
    refine lv_iload hx hb dX12_reckon_43 (lv_at hl 7 rfl) ?_
    obtain ⟨v1, hv1, h⟩ := ob h
    refine m_ald X hP hv1 dX12_reckon_45 ?_
    exact N_reckon_46 X hP hF (lv_sub hl [1, 2, 3, 4, 5, 6, 7, 0] rfl) h
  · have h := ine hc h
    refine lv_iconst (v := (0:Int32)) hx hb dX12_reckon_35 (by decide) ?_
    refine lv_goto (tgt := 46) hx hb dX12_reckon_36 rfl ?_
    exact N_reckon_46 X hP hF (lv_sub hl [1, 2, 3, 4, 5, 6, 7, 0] rfl) h
set_option maxRecDepth 20000 in
set_option maxHeartbeats 4000000 in
theorem K_reckon (l : Launch) (D : mD) (mb : Nat) (σ : mS) (x1 : Int32) (x2 : Int32) (x3 : Int32) (x4 : Int32) (x5 : Int32) {q : mS} (h : f_reckon x1 x2 x3 x4 x5 σ = some q) : Met l yX12_reckon (Cond.code yX12_reckon cX12_reckon 10 none :: BG) (rM 7 167) (mPc D mb σ [.int x1, .int x2, .int x3, .int x4, .int x5]) (mQw D mb q none) 0 0 (mReg mb) := by
  refine Met.ofW (cc := cX12_reckon) (maxL := 10) (ret := none) (by decide) rfl ?_
  intro p e s m args below meth c s₁ B hml hv
  obtain ⟨rfl, hP, hK⟩ := hv
  have X := mX_of B hml rfl hK
  have hx := X.1
  have hb := X.2.1
  have hown := X.2.2.2.1
  have hts := X.2.2.2.2.1
  have hl := lv_entry (.ref mb :: [.int x1, .int x2, .int x3, .int x4, .int x5]) (n := 10) (Nat.le_of_ble_eq_true rfl)
  rw [lg_entry_eq]
  generalize (lg_sl (.ref mb :: [.int x1, .int x2, .int x3, .int x4, .int x5]) ++ List.replicate (10 - (lg_sl (.ref mb :: [.int x1, .int x2, .int x3, .int x4, .int x5])).length) Slot.unset).toArray = ls at hl ⊢
  have hl : lv_has ls 10 [(0, .ref mb), (1, .int x1), (2, .int x2), (3, .int x3), (4, .int x4), (5, .int x5)] := hl
  have hF : mF mb s.heap s.heap [] := mF.rf
  show mWw p l e 7 167 s m (Value.ref mb :: [.int x1, .int x2, .int x3, .int x4, .int x5]).toArray below meth c D mb q none s.heap [] (F0 m 0 ls [])
  have h : ((f_found (x1) (x2) (x3) (x5) σ).bind (fun v1 => if (0:Int32) ≤ v1 then ((rd σ 37 v1).bind (fun v2 => f_reckon_28 (x1) (x2) (x3) (x4) (x5) (v1) (v2) σ)) else (f_reckon_28 (x1) (x2) (x3) (x4) (x5) (v1) ((9:Int32)) σ))) = some q := h
  refine lv_aload_n hx hb dX12_reckon_0 rfl (lv_at hl 0 rfl) ?_
  refine lv_iload_n hx hb dX12_reckon_1 rfl (lv_at hl 1 rfl) ?_
  refine lv_iload_n hx hb dX12_reckon_2 rfl (lv_at hl 2 rfl) ?_
  refine lv_iload_n hx hb dX12_reckon_3 rfl (lv_at hl 3 rfl) ?_
  refine lv_iload hx hb dX12_reckon_4 (lv_at hl 5 rfl) ?_
  obtain ⟨v1, hv1, h⟩ := ob h
  refine cl_found X hP hv1 ⟨Nat.le_of_ble_eq_true rfl, Nat.le_of_ble_eq_true rfl⟩ hl.1 (Nat.le_of_ble_eq_true rfl) dX12_reckon_6 ?_
  refine lv_istore hx hb dX12_reckon_9 hl (Nat.le_of_ble_eq_true rfl) rfl (fun ls (hl : lv_has ls 10 [(6, .int v1), (0, .ref mb), (1, .int x1), (2, .int x2), (3, .int x3), (4, .int x4), (5, .int x5)]) => ?_)
  refine lv_iload hx hb dX12_reckon_11 (lv_at hl 0 rfl) ?_
  refine lv_if_ge (tgt := 21) hx hb dX12_reckon_13 rfl (fun hc => ?_) (fun hc => ?_)
  · have h := ip hc h
    refine lv_aload_n hx hb dX12_reckon_21 rfl (lv_at hl 1 rfl) ?_
    refine mg_du X hP dX12_reckon_22 ?_
    refine lv_iload hx hb dX12_reckon_25 (lv_at hl 0 rfl) ?_
    obtain ⟨v2, hv2, h⟩ := ob h
    refine m_ald X hP hv2 dX12_reckon_27 ?_
    exact N_reckon_28 X hP hF (lv_sub hl [1, 2, 3, 4, 5, 6, 0] rfl) h
  · have h := ine hc h
    refine lv_bipush (v := (9:Int32)) hx hb dX12_reckon_16 (by decide) ?_
    refine lv_goto (tgt := 28) hx hb dX12_reckon_18 rfl ?_
    exact N_reckon_28 X hP hF (lv_sub hl [1, 2, 3, 4, 5, 6, 0] rfl) h
theorem cl_reckon {p : Program} {l : Launch} {e : Env} {s : State} {m : MethodId} {args : Array Value} {below : List Frame} {meth : Method} {c : Code} {D : mD} {mb : Nat} {H : Heap} {locs : List Loc} {Q : State → Prop} {cc : ByteArray} {pc fR lR nL : Nat} {ls : Array Slot} {rest : List Value} {ret : Option FieldType} {σ : mS} (X : mX p s m args meth c cc nL ret D) (hP : mP D mb σ H) (hF : mF mb s.heap H locs) {x1 : Int32} {x2 : Int32} {x3 : Int32} {x4 : Int32} {x5 : Int32} {q : mS} (h : f_reckon x1 x2 x3 x4 x5 σ = some q) (hr : 7 + 1 ≤ fR ∧ 8 + (10 + 11) + 167 ≤ lR) (hl : ls.size = nL) (hW : (rest.map fun v => v.category).sum ≤ 8) (hdg : decode cc pc = .ok (.invokevirtual 409, 3)) (kk : ∀ (H1 : Heap) (locs1 : List Loc), mP D mb q H1 → mF mb s.heap H1 locs1 → W p l e (rM fR lR) s m args below meth c H1 locs1 0 0 Q (F0 m (pc + 3) ls rest)) : W p l e (rM fR lR) s m args below meth c H locs 0 0 Q (F0 m pc ls (.int x5 :: .int x4 :: .int x3 :: .int x2 :: .int x1 :: .ref mb :: rest)) := m_cv (m_run (n := 5) X (K_reckon l D mb σ x1 x2 x3 x4 x5 h) ⟨w_2244, w_2246, w_131, w_2247⟩ (hyX rfl (by decide +kernel)) rfl hr hP hl hW hdg rfl) hF kk
-- style(IIIZ)V
def f_style_57 (k22 : Int32 → Int32 → Int32 → Int32 → Int32 → mS → Option (mS)) (x1 : Int32) (x2 : Int32) (x3 : Int32) (x4 : Int32) (x5 : Int32) (σ : mS) : Option (mS) := k22 (x1) (x2) (x3) (x4) ((x5 + (1:Int32))) σ
def f_style_46 (k22 : Int32 → Int32 → Int32 → Int32 → Int32 → mS → Option (mS)) (x1 : Int32) (x2 : Int32) (x3 : Int32) (x4 : Int32) (x5 : Int32) (σ : mS) : Option (mS) := (f_reckon (x1) (x5) (x2) (x3) (x4) σ).bind (fun v1 => f_style_57 k22 (x1) (x2) (x3) (x4) (x5) v1)
def f_style_22  : Nat → Int32 → Int32 → Int32 → Int32 → Int32 → mS → Option (mS)
  | 0, _, _, _, _, _, _ => none
  | n + 1, x1, x2, x3, x4, x5, σ => if (12:Int32) ≤ x5 then (some σ) else (if x5 = (1:Int32) then (f_style_57 (f_style_22 n) (x1) (x2) (x3) (x4) (x5) σ) else (if x4 = (0:Int32) then (f_style_46 (f_style_22 n) (x1) (x2) (x3) (x4) (x5) σ) else (if (4:Int32) ≤ x5 then (f_style_57 (f_style_22 n) (x1) (x2) (x3) (x4) (x5) σ) else (f_style_46 (f_style_22 n) (x1) (x2) (x3) (x4) (x5) σ))))
def f_style (x1 : Int32) (x2 : Int32) (x3 : Int32) (x4 : Int32) (σ : mS) : Option (mS) := (f_variables (x1) (x2) (x3) (x4) σ).bind (fun v1 => (f_reckon (x1) ((1:Int32)) (x2) (x3) (x4) v1).bind (fun v2 => f_style_22 4000 (x1) (x2) (x3) (x4) ((0:Int32)) v2))
set_option maxRecDepth 20000 in
set_option maxHeartbeats 4000000 in
theorem N_style_57 {p : Program} {l : Launch} {e : Env} {s : State} {m : MethodId} {args : Array Value} {below : List Frame} {meth : Method} {c : Code} {D : mD} {mb : Nat} {k22 : Int32 → Int32 → Int32 → Int32 → Int32 → mS → Option (mS)}  {x1 : Int32} {x2 : Int32} {x3 : Int32} {x4 : Int32} {x5 : Int32} {σ : mS} {H : Heap} {locs : List Loc} {ls : Array Slot} {q : mS} (X : mX p s m args meth c cX12_style 6 none D) (hP : mP D mb σ H) (hF : mF mb s.heap H locs) (hk22 : ∀ {x1 : Int32} {x2 : Int32} {x3 : Int32} {x4 : Int32} {x5 : Int32} {σ : mS} {H : Heap} {locs : List Loc} {ls : Array Slot}, mP D mb σ H → mF mb s.heap H locs → lv_has ls 6 [(0, .ref mb), (1, .int x1), (2, .int x2), (3, .int x3), (4, .int x4), (5, .int x5)] → k22 x1 x2 x3 x4 x5 σ = some q → mWw p l e 11 282 s m args below meth c D mb q none H locs (F0 m 22 ls [])) (hl : lv_has ls 6 [(0, .ref mb), (1, .int x1), (2, .int x2), (3, .int x3), (4, .int x4), (5, .int x5)]) (h : f_style_57 k22 x1 x2 x3 x4 x5 σ = some q) : mWw p l e 11 282 s m args below meth c D mb q none H locs (F0 m 57 ls []) := by
  have hx := X.1
  have hb := X.2.1
  have hown := X.2.2.2.1
  have hts := X.2.2.2.2.1
  have h : (k22 (x1) (x2) (x3) (x4) ((x5 + (1:Int32))) σ) = some q := h
  refine lv_iinc (v := (x5 + (1:Int32))) hx hb dX12_style_57 hl (k := 5) rfl rfl (Nat.le_of_ble_eq_true rfl) rfl (fun ls (hl : lv_has ls 6 [(5, .int (x5 + (1:Int32))), (0, .ref mb), (1, .int x1), (2, .int x2), (3, .int x3), (4, .int x4)]) => ?_)
  refine lv_goto (tgt := 22) hx hb dX12_style_60 rfl ?_
  exact hk22 hP hF (lv_sub hl [1, 2, 3, 4, 5, 0] rfl) h
set_option maxRecDepth 20000 in
set_option maxHeartbeats 4000000 in
theorem N_style_46 {p : Program} {l : Launch} {e : Env} {s : State} {m : MethodId} {args : Array Value} {below : List Frame} {meth : Method} {c : Code} {D : mD} {mb : Nat} {k22 : Int32 → Int32 → Int32 → Int32 → Int32 → mS → Option (mS)}  {x1 : Int32} {x2 : Int32} {x3 : Int32} {x4 : Int32} {x5 : Int32} {σ : mS} {H : Heap} {locs : List Loc} {ls : Array Slot} {q : mS} (X : mX p s m args meth c cX12_style 6 none D) (hP : mP D mb σ H) (hF : mF mb s.heap H locs) (hk22 : ∀ {x1 : Int32} {x2 : Int32} {x3 : Int32} {x4 : Int32} {x5 : Int32} {σ : mS} {H : Heap} {locs : List Loc} {ls : Array Slot}, mP D mb σ H → mF mb s.heap H locs → lv_has ls 6 [(0, .ref mb), (1, .int x1), (2, .int x2), (3, .int x3), (4, .int x4), (5, .int x5)] → k22 x1 x2 x3 x4 x5 σ = some q → mWw p l e 11 282 s m args below meth c D mb q none H locs (F0 m 22 ls [])) (hl : lv_has ls 6 [(0, .ref mb), (1, .int x1), (2, .int x2), (3, .int x3), (4, .int x4), (5, .int x5)]) (h : f_style_46 k22 x1 x2 x3 x4 x5 σ = some q) : mWw p l e 11 282 s m args below meth c D mb q none H locs (F0 m 46 ls []) := by
  have hx := X.1
  have hb := X.2.1
  have hown := X.2.2.2.1
  have hts := X.2.2.2.2.1
  have h : ((f_reckon (x1) (x5) (x2) (x3) (x4) σ).bind (fun v1 => f_style_57 k22 (x1) (x2) (x3) (x4) (x5) v1)) = some q := h
  refine lv_aload_n hx hb dX12_style_46 rfl (lv_at hl 0 rfl) ?_
  refine lv_iload_n hx hb dX12_style_47 rfl (lv_at hl 1 rfl) ?_
  refine lv_iload hx hb dX12_style_48 (lv_at hl 5 rfl) ?_
  refine lv_iload_n hx hb dX12_style_50 rfl (lv_at hl 2 rfl) ?_
  refine lv_iload_n hx hb dX12_style_51 rfl (lv_at hl 3 rfl) ?_
  refine lv_iload hx hb dX12_style_52 (lv_at hl 4 rfl) ?_
  obtain ⟨v1, hv1, h⟩ := ob h
  refine cl_reckon X hP hF hv1 ⟨Nat.le_of_ble_eq_true rfl, Nat.le_of_ble_eq_true rfl⟩ hl.1 (Nat.le_of_ble_eq_true rfl) dX12_style_54 (fun H locs hP hF => ?_)
  exact N_style_57 X hP hF hk22 (lv_sub hl [0, 1, 2, 3, 4, 5] rfl) h
set_option maxRecDepth 20000 in
set_option maxHeartbeats 4000000 in
theorem N_style_22 {p : Program} {l : Launch} {e : Env} {s : State} {m : MethodId} {args : Array Value} {below : List Frame} {meth : Method} {c : Code} {D : mD} {mb : Nat}  {n : Nat} {x1 : Int32} {x2 : Int32} {x3 : Int32} {x4 : Int32} {x5 : Int32} {σ : mS} {H : Heap} {locs : List Loc} {ls : Array Slot} {q : mS} (X : mX p s m args meth c cX12_style 6 none D) (hP : mP D mb σ H) (hF : mF mb s.heap H locs)  (hl : lv_has ls 6 [(0, .ref mb), (1, .int x1), (2, .int x2), (3, .int x3), (4, .int x4), (5, .int x5)]) (h : f_style_22  n x1 x2 x3 x4 x5 σ = some q) : mWw p l e 11 282 s m args below meth c D mb q none H locs (F0 m 22 ls []) := by
  have hx := X.1
  have hb := X.2.1
  have hown := X.2.2.2.1
  have hts := X.2.2.2.2.1
  induction n generalizing x1 x2 x3 x4 x5 σ H locs ls with
  | zero => exact absurd (show none = some q from h) (by simp)
  | succ n ih =>
    have h : (if (12:Int32) ≤ x5 then (some σ) else (if x5 = (1:Int32) then (f_style_57 (f_style_22 n) (x1) (x2) (x3) (x4) (x5) σ) else (if x4 = (0:Int32) then (f_style_46 (f_style_22 n) (x1) (x2) (x3) (x4) (x5) σ) else (if (4:Int32) ≤ x5 then (f_style_57 (f_style_22 n) (x1) (x2) (x3) (x4) (x5) σ) else (f_style_46 (f_style_22 n) (x1) (x2) (x3) (x4) (x5) σ))))) = some q := h
    refine lv_iload hx hb dX12_style_22 (lv_at hl 5 rfl) ?_
    refine lv_bipush (v := (12:Int32)) hx hb dX12_style_24 (by decide) ?_
    refine lv_icmp_ge (tgt := 63) hx hb dX12_style_26 rfl (fun hc => ?_) (fun hc => ?_)
    · have h := ip hc h
      obtain rfl := sj h
      exact m_wv X hP hF dX12_style_63
    · have h := ine hc h
      refine lv_iload hx hb dX12_style_29 (lv_at hl 5 rfl) ?_
      refine lv_iconst (v := (1:Int32)) hx hb dX12_style_31 (by decide) ?_
      refine lv_icmp_eq (tgt := 57) hx hb dX12_style_32 rfl (fun hc => ?_) (fun hc => ?_)
      · have h := ip hc h
        exact N_style_57 X hP hF ih (lv_sub hl [0, 1, 2, 3, 4, 5] rfl) h
      · have h := ine hc h
        refine lv_iload hx hb dX12_style_35 (lv_at hl 4 rfl) ?_
        refine lv_if_eq (tgt := 46) hx hb dX12_style_37 rfl (fun hc => ?_) (fun hc => ?_)
        · have h := ip hc h
          exact N_style_46 X hP hF ih (lv_sub hl [0, 1, 2, 3, 4, 5] rfl) h
        · have h := ine hc h
          refine lv_iload hx hb dX12_style_40 (lv_at hl 5 rfl) ?_
          refine lv_iconst (v := (4:Int32)) hx hb dX12_style_42 (by decide) ?_
          refine lv_icmp_ge (tgt := 57) hx hb dX12_style_43 rfl (fun hc => ?_) (fun hc => ?_)
          · have h := ip hc h
            exact N_style_57 X hP hF ih (lv_sub hl [0, 1, 2, 3, 4, 5] rfl) h
          · have h := ine hc h
            exact N_style_46 X hP hF ih (lv_sub hl [0, 1, 2, 3, 4, 5] rfl) h
set_option maxRecDepth 20000 in
set_option maxHeartbeats 4000000 in
theorem K_style (l : Launch) (D : mD) (mb : Nat) (σ : mS) (x1 : Int32) (x2 : Int32) (x3 : Int32) (x4 : Int32) {q : mS} (h : f_style x1 x2 x3 x4 σ = some q) : Met l yX12_style (Cond.code yX12_style cX12_style 6 none :: BG) (rM 11 282) (mPc D mb σ [.int x1, .int x2, .int x3, .int x4]) (mQw D mb q none) 0 0 (mReg mb) := by
  refine Met.ofW (cc := cX12_style) (maxL := 6) (ret := none) (by decide) rfl ?_
  intro p e s m args below meth c s₁ B hml hv
  obtain ⟨rfl, hP, hK⟩ := hv
  have X := mX_of B hml rfl hK
  have hx := X.1
  have hb := X.2.1
  have hown := X.2.2.2.1
  have hts := X.2.2.2.2.1
  have hl := lv_entry (.ref mb :: [.int x1, .int x2, .int x3, .int x4]) (n := 6) (Nat.le_of_ble_eq_true rfl)
  rw [lg_entry_eq]
  generalize (lg_sl (.ref mb :: [.int x1, .int x2, .int x3, .int x4]) ++ List.replicate (6 - (lg_sl (.ref mb :: [.int x1, .int x2, .int x3, .int x4])).length) Slot.unset).toArray = ls at hl ⊢
  have hl : lv_has ls 6 [(0, .ref mb), (1, .int x1), (2, .int x2), (3, .int x3), (4, .int x4)] := hl
  have hF : mF mb s.heap s.heap [] := mF.rf
  show mWw p l e 11 282 s m (Value.ref mb :: [.int x1, .int x2, .int x3, .int x4]).toArray below meth c D mb q none s.heap [] (F0 m 0 ls [])
  have h : ((f_variables (x1) (x2) (x3) (x4) σ).bind (fun v1 => (f_reckon (x1) ((1:Int32)) (x2) (x3) (x4) v1).bind (fun v2 => f_style_22 4000 (x1) (x2) (x3) (x4) ((0:Int32)) v2))) = some q := h
  refine lv_aload_n hx hb dX12_style_0 rfl (lv_at hl 0 rfl) ?_
  refine lv_iload_n hx hb dX12_style_1 rfl (lv_at hl 1 rfl) ?_
  refine lv_iload_n hx hb dX12_style_2 rfl (lv_at hl 2 rfl) ?_
  refine lv_iload_n hx hb dX12_style_3 rfl (lv_at hl 3 rfl) ?_
  refine lv_iload hx hb dX12_style_4 (lv_at hl 4 rfl) ?_
  obtain ⟨v1, hv1, h⟩ := ob h
  refine cl_variables X hP hF hv1 ⟨Nat.le_of_ble_eq_true rfl, Nat.le_of_ble_eq_true rfl⟩ hl.1 (Nat.le_of_ble_eq_true rfl) dX12_style_6 (fun H locs hP hF => ?_)
  refine lv_aload_n hx hb dX12_style_9 rfl (lv_at hl 0 rfl) ?_
  refine lv_iload_n hx hb dX12_style_10 rfl (lv_at hl 1 rfl) ?_
  refine lv_iconst (v := (1:Int32)) hx hb dX12_style_11 (by decide) ?_
  refine lv_iload_n hx hb dX12_style_12 rfl (lv_at hl 2 rfl) ?_
  refine lv_iload_n hx hb dX12_style_13 rfl (lv_at hl 3 rfl) ?_
  refine lv_iload hx hb dX12_style_14 (lv_at hl 4 rfl) ?_
  obtain ⟨v2, hv2, h⟩ := ob h
  refine cl_reckon X hP hF hv2 ⟨Nat.le_of_ble_eq_true rfl, Nat.le_of_ble_eq_true rfl⟩ hl.1 (Nat.le_of_ble_eq_true rfl) dX12_style_16 (fun H locs hP hF => ?_)
  refine lv_iconst (v := (0:Int32)) hx hb dX12_style_19 (by decide) ?_
  refine lv_istore hx hb dX12_style_20 hl (Nat.le_of_ble_eq_true rfl) rfl (fun ls (hl : lv_has ls 6 [(5, .int (0:Int32)), (0, .ref mb), (1, .int x1), (2, .int x2), (3, .int x3), (4, .int x4)]) => ?_)
  exact N_style_22 X hP hF (lv_sub hl [1, 2, 3, 4, 5, 0] rfl) h
theorem cl_style {p : Program} {l : Launch} {e : Env} {s : State} {m : MethodId} {args : Array Value} {below : List Frame} {meth : Method} {c : Code} {D : mD} {mb : Nat} {H : Heap} {locs : List Loc} {Q : State → Prop} {cc : ByteArray} {pc fR lR nL : Nat} {ls : Array Slot} {rest : List Value} {ret : Option FieldType} {σ : mS} (X : mX p s m args meth c cc nL ret D) (hP : mP D mb σ H) (hF : mF mb s.heap H locs) {x1 : Int32} {x2 : Int32} {x3 : Int32} {x4 : Int32} {q : mS} (h : f_style x1 x2 x3 x4 σ = some q) (hr : 11 + 1 ≤ fR ∧ 8 + (6 + 11) + 282 ≤ lR) (hl : ls.size = nL) (hW : (rest.map fun v => v.category).sum ≤ 8) (hdg : decode cc pc = .ok (.invokevirtual 413, 3)) (kk : ∀ (H1 : Heap) (locs1 : List Loc), mP D mb q H1 → mF mb s.heap H1 locs1 → W p l e (rM fR lR) s m args below meth c H1 locs1 0 0 Q (F0 m (pc + 3) ls rest)) : W p l e (rM fR lR) s m args below meth c H locs 0 0 Q (F0 m pc ls (.int x4 :: .int x3 :: .int x2 :: .int x1 :: .ref mb :: rest)) := m_cv (m_run (n := 4) X (K_style l D mb σ x1 x2 x3 x4 h) ⟨w_2180, w_2182, w_115, w_2183⟩ (hyX rfl (by decide +kernel)) rfl hr hP hl hW hdg rfl) hF kk
-- sized(II)I
def f_sized_126 (k58 : Int32 → Int32 → Int32 → mS → Option (Int32 × mS)) (x2 : Int32) (x5 : Int32) (x6 : Int32) (y0 : Int32) (y1 : Int32) (σ : mS) : Option (Int32 × mS) := (rd σ 43 (x6 + (3:Int32))).bind (fun v1 => k58 (x2) ((y0 + (y1 + ((2:Int32) * v1)))) ((x5 + (1:Int32))) σ)
def f_sized_58  : Nat → Int32 → Int32 → Int32 → mS → Option (Int32 × mS)
  | 0, _, _, _, _ => none
  | n + 1, x2, x4, x5, σ => if (σ.2 79) ≤ x5 then (some (x4, σ)) else ((rd σ 78 x5).bind (fun v1 => (rd σ 78 x5).bind (fun v2 => (f_style (v2) (x2) ((2:Int32)) ((1:Int32)) σ).bind (fun v3 => (rd v3 43 (((12:Int32) * ((60:Int32) + v1)) + (2:Int32))).bind (fun v4 => if v4 = ((-1000000):Int32) then (f_sized_126 (f_sized_58 n) (x2) (x5) (((12:Int32) * ((60:Int32) + v1))) (x4) ((0:Int32)) v3) else ((rd v3 43 (((12:Int32) * ((60:Int32) + v1)) + (2:Int32))).bind (fun v5 => f_sized_126 (f_sized_58 n) (x2) (x5) (((12:Int32) * ((60:Int32) + v1))) (x4) (v5) v3)))))))
def f_sized (x1 : Int32) (x2 : Int32) (σ : mS) : Option (Int32 × mS) := (rd σ 43 (((12:Int32) * (((30:Int32) * x2) + x1)) + (6:Int32))).bind (fun v1 => if (0:Int32) < v1 then ((rd σ 43 (((12:Int32) * (((30:Int32) * x2) + x1)) + (2:Int32))).bind (fun v2 => if v2 = ((-1000000):Int32) then ((f_fanOf (x1) σ).bind (fun v3 => f_sized_58 4000 (x2) ((0:Int32)) ((0:Int32)) v3)) else ((rd σ 43 (((12:Int32) * (((30:Int32) * x2) + x1)) + (2:Int32))).bind (fun v4 => some (v4, σ))))) else (some (((-1):Int32), σ)))
set_option maxRecDepth 20000 in
set_option maxHeartbeats 4000000 in
theorem N_sized_126 {p : Program} {l : Launch} {e : Env} {s : State} {m : MethodId} {args : Array Value} {below : List Frame} {meth : Method} {c : Code} {D : mD} {mb : Nat} {k58 : Int32 → Int32 → Int32 → mS → Option (Int32 × mS)}  {x2 : Int32} {x5 : Int32} {x6 : Int32} {y0 : Int32} {y1 : Int32} {σ : mS} {H : Heap} {locs : List Loc} {ls : Array Slot} {q : Int32 × mS} (X : mX p s m args meth c cX12_sized 7 (some .int) D) (hP : mP D mb σ H) (hF : mF mb s.heap H locs) (hk58 : ∀ {x2 : Int32} {x4 : Int32} {x5 : Int32} {σ : mS} {H : Heap} {locs : List Loc} {ls : Array Slot}, mP D mb σ H → mF mb s.heap H locs → lv_has ls 7 [(0, .ref mb), (2, .int x2), (4, .int x4), (5, .int x5)] → k58 x2 x4 x5 σ = some q → mWw p l e 12 307 s m args below meth c D mb q.2 (some (.int q.1)) H locs (F0 m 58 ls [])) (hl : lv_has ls 7 [(0, .ref mb), (2, .int x2), (5, .int x5), (6, .int x6)]) (h : f_sized_126 k58 x2 x5 x6 y0 y1 σ = some q) : mWw p l e 12 307 s m args below meth c D mb q.2 (some (.int q.1)) H locs (F0 m 126 ls [.int y1, .int y0]) := by
  have hx := X.1
  have hb := X.2.1
  have hown := X.2.2.2.1
  have hts := X.2.2.2.2.1
  have h : ((rd σ 43 (x6 + (3:Int32))).bind (fun v1 => k58 (x2) ((y0 + (y1 + ((2:Int32) * v1)))) ((x5 + (1:Int32))) σ)) = some q := h
  refine lv_iconst (v := (2:Int32)) hx hb dX12_sized_126 (by decide) ?_
  refine lv_aload_n hx hb dX12_sized_127 rfl (lv_at hl 0 rfl) ?_
  refine mg_val X hP dX12_sized_128 ?_
  refine lv_iload hx hb dX12_sized_131 (lv_at hl 3 rfl) ?_
  refine lv_iconst (v := (3:Int32)) hx hb dX12_sized_133 (by decide) ?_
  refine lv_iadd hx hb dX12_sized_134 ?_
  obtain ⟨v1, hv1, h⟩ := ob h
  refine m_ald X hP hv1 dX12_sized_135 ?_
  refine lv_imul hx hb dX12_sized_136 ?_
  refine lv_iadd hx hb dX12_sized_137 ?_
  refine lv_iadd hx hb dX12_sized_138 ?_
  refine lv_istore hx hb dX12_sized_139 hl (Nat.le_of_ble_eq_true rfl) rfl (fun ls (hl : lv_has ls 7 [(4, .int (y0 + (y1 + ((2:Int32) * v1)))), (0, .ref mb), (2, .int x2), (5, .int x5), (6, .int x6)]) => ?_)
  refine lv_iinc (v := (x5 + (1:Int32))) hx hb dX12_sized_141 hl (k := 3) rfl rfl (Nat.le_of_ble_eq_true rfl) rfl (fun ls (hl : lv_has ls 7 [(5, .int (x5 + (1:Int32))), (4, .int (y0 + (y1 + ((2:Int32) * v1)))), (0, .ref mb), (2, .int x2), (6, .int x6)]) => ?_)
  refine lv_goto (tgt := 58) hx hb dX12_sized_144 rfl ?_
  exact hk58 hP hF (lv_sub hl [2, 3, 1, 0] rfl) h
set_option maxRecDepth 20000 in
set_option maxHeartbeats 4000000 in
theorem N_sized_58 {p : Program} {l : Launch} {e : Env} {s : State} {m : MethodId} {args : Array Value} {below : List Frame} {meth : Method} {c : Code} {D : mD} {mb : Nat}  {n : Nat} {x2 : Int32} {x4 : Int32} {x5 : Int32} {σ : mS} {H : Heap} {locs : List Loc} {ls : Array Slot} {q : Int32 × mS} (X : mX p s m args meth c cX12_sized 7 (some .int) D) (hP : mP D mb σ H) (hF : mF mb s.heap H locs)  (hl : lv_has ls 7 [(0, .ref mb), (2, .int x2), (4, .int x4), (5, .int x5)]) (h : f_sized_58  n x2 x4 x5 σ = some q) : mWw p l e 12 307 s m args below meth c D mb q.2 (some (.int q.1)) H locs (F0 m 58 ls []) := by
  have hx := X.1
  have hb := X.2.1
  have hown := X.2.2.2.1
  have hts := X.2.2.2.2.1
  induction n generalizing x2 x4 x5 σ H locs ls with
  | zero => exact absurd (show none = some q from h) (by simp)
  | succ n ih =>
    have h : (if (σ.2 79) ≤ x5 then (some (x4, σ)) else ((rd σ 78 x5).bind (fun v1 => (rd σ 78 x5).bind (fun v2 => (f_style (v2) (x2) ((2:Int32)) ((1:Int32)) σ).bind (fun v3 => (rd v3 43 (((12:Int32) * ((60:Int32) + v1)) + (2:Int32))).bind (fun v4 => if v4 = ((-1000000):Int32) then (f_sized_126 (f_sized_58 n) (x2) (x5) (((12:Int32) * ((60:Int32) + v1))) (x4) ((0:Int32)) v3) else ((rd v3 43 (((12:Int32) * ((60:Int32) + v1)) + (2:Int32))).bind (fun v5 => f_sized_126 (f_sized_58 n) (x2) (x5) (((12:Int32) * ((60:Int32) + v1))) (x4) (v5) v3)))))))) = some q := h
    refine lv_iload hx hb dX12_sized_58 (lv_at hl 3 rfl) ?_
    refine lv_aload_n hx hb dX12_sized_60 rfl (lv_at hl 0 rfl) ?_
    refine mg_fans X hP dX12_sized_61 ?_
    refine lv_icmp_ge (tgt := 147) hx hb dX12_sized_64 rfl (fun hc => ?_) (fun hc => ?_)
    · have h := ip hc h
      refine lv_iload hx hb dX12_sized_147 (lv_at hl 2 rfl) ?_
      obtain rfl := sj h
      exact m_wi X hP hF dX12_sized_149
    · have h := ine hc h
      refine lv_bipush (v := (12:Int32)) hx hb dX12_sized_67 (by decide) ?_
      refine lv_bipush (v := (60:Int32)) hx hb dX12_sized_69 (by decide) ?_
      refine lv_aload_n hx hb dX12_sized_71 rfl (lv_at hl 0 rfl) ?_
      refine mg_fan X hP dX12_sized_72 ?_
      refine lv_iload hx hb dX12_sized_75 (lv_at hl 3 rfl) ?_
      obtain ⟨v1, hv1, h⟩ := ob h
      refine m_ald X hP hv1 dX12_sized_77 ?_
      refine lv_iadd hx hb dX12_sized_78 ?_
      refine lv_imul hx hb dX12_sized_79 ?_
      refine lv_istore hx hb dX12_sized_80 hl (Nat.le_of_ble_eq_true rfl) rfl (fun ls (hl : lv_has ls 7 [(6, .int ((12:Int32) * ((60:Int32) + v1))), (0, .ref mb), (2, .int x2), (4, .int x4), (5, .int x5)]) => ?_)
      refine lv_aload_n hx hb dX12_sized_82 rfl (lv_at hl 1 rfl) ?_
      refine lv_aload_n hx hb dX12_sized_83 rfl (lv_at hl 1 rfl) ?_
      refine mg_fan X hP dX12_sized_84 ?_
      refine lv_iload hx hb dX12_sized_87 (lv_at hl 4 rfl) ?_
      obtain ⟨v2, hv2, h⟩ := ob h
      refine m_ald X hP hv2 dX12_sized_89 ?_
      refine lv_iload_n hx hb dX12_sized_90 rfl (lv_at hl 2 rfl) ?_
      refine lv_iconst (v := (2:Int32)) hx hb dX12_sized_91 (by decide) ?_
      refine lv_iconst (v := (1:Int32)) hx hb dX12_sized_92 (by decide) ?_
      obtain ⟨v3, hv3, h⟩ := ob h
      refine cl_style X hP hF hv3 ⟨Nat.le_of_ble_eq_true rfl, Nat.le_of_ble_eq_true rfl⟩ hl.1 (Nat.le_of_ble_eq_true rfl) dX12_sized_93 (fun H locs hP hF => ?_)
      refine lv_iload hx hb dX12_sized_96 (lv_at hl 3 rfl) ?_
      refine lv_aload_n hx hb dX12_sized_98 rfl (lv_at hl 1 rfl) ?_
      refine mg_val X hP dX12_sized_99 ?_
      refine lv_iload hx hb dX12_sized_102 (lv_at hl 0 rfl) ?_
      refine lv_iconst (v := (2:Int32)) hx hb dX12_sized_104 (by decide) ?_
      refine lv_iadd hx hb dX12_sized_105 ?_
      obtain ⟨v4, hv4, h⟩ := ob h
      refine m_ald X hP hv4 dX12_sized_106 ?_
      refine lv_ldcw hx hb hown (hts _ w_2175) dX12_sized_107 ?_
      refine lv_icmp_ne (tgt := 117) hx hb dX12_sized_110 rfl (fun hc => ?_) (fun hc => ?_)
      · have h := ine hc h
        refine lv_aload_n hx hb dX12_sized_117 rfl (lv_at hl 1 rfl) ?_
        refine mg_val X hP dX12_sized_118 ?_
        refine lv_iload hx hb dX12_sized_121 (lv_at hl 0 rfl) ?_
        refine lv_iconst (v := (2:Int32)) hx hb dX12_sized_123 (by decide) ?_
        refine lv_iadd hx hb dX12_sized_124 ?_
        obtain ⟨v5, hv5, h⟩ := ob h
        refine m_ald X hP hv5 dX12_sized_125 ?_
        exact N_sized_126 X hP hF ih (lv_sub hl [1, 2, 4, 0] rfl) h
      · have h := ip hc h
        refine lv_iconst (v := (0:Int32)) hx hb dX12_sized_113 (by decide) ?_
        refine lv_goto (tgt := 126) hx hb dX12_sized_114 rfl ?_
        exact N_sized_126 X hP hF ih (lv_sub hl [1, 2, 4, 0] rfl) h
set_option maxRecDepth 20000 in
set_option maxHeartbeats 4000000 in
theorem K_sized (l : Launch) (D : mD) (mb : Nat) (σ : mS) (x1 : Int32) (x2 : Int32) {q : Int32 × mS} (h : f_sized x1 x2 σ = some q) : Met l yX12_sized (Cond.code yX12_sized cX12_sized 7 (some .int) :: BG) (rM 12 307) (mPc D mb σ [.int x1, .int x2]) (mQw D mb q.2 (some (.int q.1))) 0 0 (mReg mb) := by
  refine Met.ofW (cc := cX12_sized) (maxL := 7) (ret := (some .int)) (by decide) rfl ?_
  intro p e s m args below meth c s₁ B hml hv
  obtain ⟨rfl, hP, hK⟩ := hv
  have X := mX_of B hml rfl hK
  have hx := X.1
  have hb := X.2.1
  have hown := X.2.2.2.1
  have hts := X.2.2.2.2.1
  have hl := lv_entry (.ref mb :: [.int x1, .int x2]) (n := 7) (Nat.le_of_ble_eq_true rfl)
  rw [lg_entry_eq]
  generalize (lg_sl (.ref mb :: [.int x1, .int x2]) ++ List.replicate (7 - (lg_sl (.ref mb :: [.int x1, .int x2])).length) Slot.unset).toArray = ls at hl ⊢
  have hl : lv_has ls 7 [(0, .ref mb), (1, .int x1), (2, .int x2)] := hl
  have hF : mF mb s.heap s.heap [] := mF.rf
  show mWw p l e 12 307 s m (Value.ref mb :: [.int x1, .int x2]).toArray below meth c D mb q.2 (some (.int q.1)) s.heap [] (F0 m 0 ls [])
  have h : ((rd σ 43 (((12:Int32) * (((30:Int32) * x2) + x1)) + (6:Int32))).bind (fun v1 => if (0:Int32) < v1 then ((rd σ 43 (((12:Int32) * (((30:Int32) * x2) + x1)) + (2:Int32))).bind (fun v2 => if v2 = ((-1000000):Int32) then ((f_fanOf (x1) σ).bind (fun v3 => f_sized_58 4000 (x2) ((0:Int32)) ((0:Int32)) v3)) else ((rd σ 43 (((12:Int32) * (((30:Int32) * x2) + x1)) + (2:Int32))).bind (fun v4 => some (v4, σ))))) else (some (((-1):Int32), σ)))) = some q := h
  refine lv_bipush (v := (12:Int32)) hx hb dX12_sized_0 (by decide) ?_
  refine lv_bipush (v := (30:Int32)) hx hb dX12_sized_2 (by decide) ?_
  refine lv_iload_n hx hb dX12_sized_4 rfl (lv_at hl 2 rfl) ?_
  refine lv_imul hx hb dX12_sized_5 ?_
  refine lv_iload_n hx hb dX12_sized_6 rfl (lv_at hl 1 rfl) ?_
  refine lv_iadd hx hb dX12_sized_7 ?_
  refine lv_imul hx hb dX12_sized_8 ?_
  refine lv_istore_n hx hb dX12_sized_9 rfl hl (Nat.le_of_ble_eq_true rfl) rfl (fun ls (hl : lv_has ls 7 [(3, .int ((12:Int32) * (((30:Int32) * x2) + x1))), (0, .ref mb), (1, .int x1), (2, .int x2)]) => ?_)
  refine lv_aload_n hx hb dX12_sized_10 rfl (lv_at hl 1 rfl) ?_
  refine mg_val X hP dX12_sized_11 ?_
  refine lv_iload_n hx hb dX12_sized_14 rfl (lv_at hl 0 rfl) ?_
  refine lv_bipush (v := (6:Int32)) hx hb dX12_sized_15 (by decide) ?_
  refine lv_iadd hx hb dX12_sized_17 ?_
  obtain ⟨v1, hv1, h⟩ := ob h
  refine m_ald X hP hv1 dX12_sized_18 ?_
  refine lv_if_gt (tgt := 24) hx hb dX12_sized_19 rfl (fun hc => ?_) (fun hc => ?_)
  · have h := ip hc h
    refine lv_aload_n hx hb dX12_sized_24 rfl (lv_at hl 1 rfl) ?_
    refine mg_val X hP dX12_sized_25 ?_
    refine lv_iload_n hx hb dX12_sized_28 rfl (lv_at hl 0 rfl) ?_
    refine lv_iconst (v := (2:Int32)) hx hb dX12_sized_29 (by decide) ?_
    refine lv_iadd hx hb dX12_sized_30 ?_
    obtain ⟨v2, hv2, h⟩ := ob h
    refine m_ald X hP hv2 dX12_sized_31 ?_
    refine lv_ldcw hx hb hown (hts _ w_2175) dX12_sized_32 ?_
    refine lv_icmp_eq (tgt := 47) hx hb dX12_sized_35 rfl (fun hc => ?_) (fun hc => ?_)
    · have h := ip hc h
      refine lv_iconst (v := (0:Int32)) hx hb dX12_sized_47 (by decide) ?_
      refine lv_istore hx hb dX12_sized_48 hl (Nat.le_of_ble_eq_true rfl) rfl (fun ls (hl : lv_has ls 7 [(4, .int (0:Int32)), (3, .int ((12:Int32) * (((30:Int32) * x2) + x1))), (0, .ref mb), (1, .int x1), (2, .int x2)]) => ?_)
      refine lv_aload_n hx hb dX12_sized_50 rfl (lv_at hl 2 rfl) ?_
      refine lv_iload_n hx hb dX12_sized_51 rfl (lv_at hl 3 rfl) ?_
      obtain ⟨v3, hv3, h⟩ := ob h
      refine cl_fanOf X hP hF hv3 ⟨Nat.le_of_ble_eq_true rfl, Nat.le_of_ble_eq_true rfl⟩ hl.1 (Nat.le_of_ble_eq_true rfl) dX12_sized_52 (fun H locs hP hF => ?_)
      refine lv_iconst (v := (0:Int32)) hx hb dX12_sized_55 (by decide) ?_
      refine lv_istore hx hb dX12_sized_56 hl (Nat.le_of_ble_eq_true rfl) rfl (fun ls (hl : lv_has ls 7 [(5, .int (0:Int32)), (4, .int (0:Int32)), (3, .int ((12:Int32) * (((30:Int32) * x2) + x1))), (0, .ref mb), (1, .int x1), (2, .int x2)]) => ?_)
      exact N_sized_58 X hP hF (lv_sub hl [3, 5, 1, 0] rfl) h
    · have h := ine hc h
      refine lv_aload_n hx hb dX12_sized_38 rfl (lv_at hl 1 rfl) ?_
      refine mg_val X hP dX12_sized_39 ?_
      refine lv_iload_n hx hb dX12_sized_42 rfl (lv_at hl 0 rfl) ?_
      refine lv_iconst (v := (2:Int32)) hx hb dX12_sized_43 (by decide) ?_
      refine lv_iadd hx hb dX12_sized_44 ?_
      obtain ⟨v4, hv4, h⟩ := ob h
      refine m_ald X hP hv4 dX12_sized_45 ?_
      obtain rfl := sj h
      exact m_wi X hP hF dX12_sized_46
  · have h := ine hc h
    refine lv_iconst (v := ((-1):Int32)) hx hb dX12_sized_22 (by decide) ?_
    obtain rfl := sj h
    exact m_wi X hP hF dX12_sized_23
theorem cl_sized {p : Program} {l : Launch} {e : Env} {s : State} {m : MethodId} {args : Array Value} {below : List Frame} {meth : Method} {c : Code} {D : mD} {mb : Nat} {H : Heap} {locs : List Loc} {Q : State → Prop} {cc : ByteArray} {pc fR lR nL : Nat} {ls : Array Slot} {rest : List Value} {ret : Option FieldType} {σ : mS} (X : mX p s m args meth c cc nL ret D) (hP : mP D mb σ H) (hF : mF mb s.heap H locs) {x1 : Int32} {x2 : Int32} {q : Int32 × mS} (h : f_sized x1 x2 σ = some q) (hr : 12 + 1 ≤ fR ∧ 8 + (7 + 11) + 307 ≤ lR) (hl : ls.size = nL) (hW : (rest.map fun v => v.category).sum ≤ 8) (hdg : decode cc pc = .ok (.invokevirtual 434, 3)) (kk : ∀ (H1 : Heap) (locs1 : List Loc), mP D mb q.2 H1 → mF mb s.heap H1 locs1 → W p l e (rM fR lR) s m args below meth c H1 locs1 0 0 Q (F0 m (pc + 3) ls (.int q.1 :: rest))) : W p l e (rM fR lR) s m args below meth c H locs 0 0 Q (F0 m pc ls (.int x2 :: .int x1 :: .ref mb :: rest)) := m_cw (m_run (n := 2) X (K_sized l D mb σ x1 x2 h) ⟨w_2269, w_2271, w_136, w_2272⟩ (hyX rfl (by decide +kernel)) rfl hr hP hl hW hdg rfl) hF kk
-- byFrames(II)I
def f_byFrames_362  (y0 : Int32) (σ : mS) : Option (Int32) := some y0
def f_byFrames_306  (x3 : Int32) (x6 : Int32) (x10 : Int64) (x12 : Int64) (x14 : Int32) (y0 : Int32) (σ : mS) : Option (Int32) := if x14 = y0 then (f_byFrames_362 ((x10.toInt32)) σ) else ((rd σ 60 x3).bind (fun v1 => (rd σ 60 x3).bind (fun v2 => (ldv ((x12 - x10) * ((((10:Int32) * x6) - (x14 * v1)).toInt64)) ((v2.toInt64) * ((y0 - x14).toInt64))).bind (fun v3 => f_byFrames_362 (((x10 + v3).toInt32)) σ))))
def f_byFrames_292  (x3 : Int32) (x6 : Int32) (x8 : Int32) (x10 : Int64) (x12 : Int64) (y0 : Int32) (σ : mS) : Option (Int32) := if (0:Int32) ≤ x8 then (f_byFrames_306 (x3) (x6) (x10) (x12) (y0) (x8) σ) else (f_byFrames_306 (x3) (x6) (x10) (x12) (y0) ((10:Int32)) σ)
def f_byFrames_279  (x3 : Int32) (x6 : Int32) (x7 : Int32) (x8 : Int32) (x10 : Int64) (y0 : Int64) (σ : mS) : Option (Int32) := if (0:Int32) ≤ x7 then (f_byFrames_292 (x3) (x6) (x8) (x10) (y0) (x7) σ) else (f_byFrames_292 (x3) (x6) (x8) (x10) (y0) ((0:Int32)) σ)
def f_byFrames_255  (x3 : Int32) (x4 : Int32) (x6 : Int32) (x7 : Int32) (x8 : Int32) (x9 : Int32) (y0 : Int64) (σ : mS) : Option (Int32) := if (0:Int32) ≤ x8 then ((rd σ 64 (x4 + x8)).bind (fun v1 => f_byFrames_279 (x3) (x6) (x7) (x8) (y0) ((v1.toInt64)) σ)) else (f_byFrames_279 (x3) (x6) (x7) (x8) (y0) ((x9.toInt64)) σ)
def f_byFrames_231  (x3 : Int32) (x4 : Int32) (x6 : Int32) (x7 : Int32) (x8 : Int32) (y0 : Int32) (σ : mS) : Option (Int32) := if (0:Int32) ≤ x7 then ((rd σ 64 (x4 + x7)).bind (fun v1 => f_byFrames_255 (x3) (x4) (x6) (x7) (x8) (y0) ((v1.toInt64)) σ)) else (f_byFrames_255 (x3) (x4) (x6) (x7) (x8) (y0) ((y0.toInt64)) σ)
def f_byFrames_191 (k98 : Int32 → Int32 → Int32 → Int32 → Int32 → Int32 → Int32 → Int32 → Option (Int32)) (x1 : Int32) (x2 : Int32) (x3 : Int32) (x4 : Int32) (x6 : Int32) (x7 : Int32) (x9 : Int32) (y0 : Int32) (σ : mS) : Option (Int32) := k98 (x1) (x2) (x3) (x4) (x6) (x7) (y0) ((x9 + (1:Int32)))
def f_byFrames_189 (k98 : Int32 → Int32 → Int32 → Int32 → Int32 → Int32 → Int32 → Int32 → Option (Int32)) (x1 : Int32) (x2 : Int32) (x3 : Int32) (x4 : Int32) (x6 : Int32) (x7 : Int32) (x8 : Int32) (x9 : Int32) (σ : mS) : Option (Int32) := f_byFrames_191 k98 (x1) (x2) (x3) (x4) (x6) (x7) (x9) (x8) σ
def f_byFrames_155 (k98 : Int32 → Int32 → Int32 → Int32 → Int32 → Int32 → Int32 → Int32 → Option (Int32)) (x1 : Int32) (x2 : Int32) (x3 : Int32) (x4 : Int32) (x6 : Int32) (x8 : Int32) (x9 : Int32) (x10 : Int32) (y0 : Int32) (σ : mS) : Option (Int32) := if x10 = (0:Int32) then (f_byFrames_189 k98 (x1) (x2) (x3) (x4) (x6) (y0) (x8) (x9) σ) else ((rd σ 60 x3).bind (fun v1 => if (x9 * v1) ≤ ((10:Int32) * x6) then (f_byFrames_189 k98 (x1) (x2) (x3) (x4) (x6) (y0) (x8) (x9) σ) else (if (0:Int32) ≤ x8 then (f_byFrames_189 k98 (x1) (x2) (x3) (x4) (x6) (y0) (x8) (x9) σ) else (f_byFrames_191 k98 (x1) (x2) (x3) (x4) (x6) (y0) (x9) (x9) σ))))
def f_byFrames_153 (k98 : Int32 → Int32 → Int32 → Int32 → Int32 → Int32 → Int32 → Int32 → Option (Int32)) (x1 : Int32) (x2 : Int32) (x3 : Int32) (x4 : Int32) (x6 : Int32) (x7 : Int32) (x8 : Int32) (x9 : Int32) (x10 : Int32) (σ : mS) : Option (Int32) := f_byFrames_155 k98 (x1) (x2) (x3) (x4) (x6) (x8) (x9) (x10) (x7) σ
def f_byFrames_124 (k98 : Int32 → Int32 → Int32 → Int32 → Int32 → Int32 → Int32 → Int32 → Option (Int32)) (x1 : Int32) (x2 : Int32) (x3 : Int32) (x4 : Int32) (x6 : Int32) (x7 : Int32) (x8 : Int32) (x9 : Int32) (y0 : Int32) (σ : mS) : Option (Int32) := if y0 = (0:Int32) then (f_byFrames_153 k98 (x1) (x2) (x3) (x4) (x6) (x7) (x8) (x9) (y0) σ) else ((rd σ 60 x3).bind (fun v1 => if ((10:Int32) * x6) < (x9 * v1) then (f_byFrames_153 k98 (x1) (x2) (x3) (x4) (x6) (x7) (x8) (x9) (y0) σ) else (f_byFrames_155 k98 (x1) (x2) (x3) (x4) (x6) (x8) (x9) (y0) (x9) σ)))
def f_byFrames_98  : Nat → Int32 → Int32 → Int32 → Int32 → Int32 → Int32 → Int32 → Int32 → mS → Option (Int32)
  | 0, _, _, _, _, _, _, _, _, _ => none
  | n + 1, x1, x2, x3, x4, x6, x7, x8, x9, σ => if (11:Int32) ≤ x9 then ((rd σ 43 (((12:Int32) * x1) + x2)).bind (fun v1 => if v1 = ((-1000000):Int32) then (f_byFrames_231 (x3) (x4) (x6) (x7) (x8) ((0:Int32)) σ) else ((rd σ 43 (((12:Int32) * x1) + x2)).bind (fun v2 => f_byFrames_231 (x3) (x4) (x6) (x7) (x8) (v2) σ)))) else ((rd σ 63 (x4 + x9)).bind (fun v3 => if v3 = (1:Int32) then (f_byFrames_124 (fun z0 z1 z2 z3 z4 z5 z6 z7 => f_byFrames_98 n z0 z1 z2 z3 z4 z5 z6 z7 σ) (x1) (x2) (x3) (x4) (x6) (x7) (x8) (x9) ((1:Int32)) σ) else (f_byFrames_124 (fun z0 z1 z2 z3 z4 z5 z6 z7 => f_byFrames_98 n z0 z1 z2 z3 z4 z5 z6 z7 σ) (x1) (x2) (x3) (x4) (x6) (x7) (x8) (x9) ((0:Int32)) σ)))
def f_byFrames_87  (x1 : Int32) (x2 : Int32) (x3 : Int32) (x4 : Int32) (y0 : Int32) (σ : mS) : Option (Int32) := f_byFrames_98 4000 (x1) (x2) (x3) (x4) (y0) (((-1):Int32)) (((-1):Int32)) ((0:Int32)) σ
def f_byFrames_85  (x1 : Int32) (x2 : Int32) (x3 : Int32) (x4 : Int32) (x6 : Int32) (σ : mS) : Option (Int32) := f_byFrames_87 (x1) (x2) (x3) (x4) (x6) σ
def f_byFrames (x1 : Int32) (x2 : Int32) (σ : mS) : Option (Int32) := (rd σ 43 (((12:Int32) * x1) + (11:Int32))).bind (fun v1 => (rd σ 59 x1).bind (fun v2 => (rd σ 60 v1).bind (fun v3 => (rm ((σ.2 54) - v2) v3).bind (fun v4 => (rd σ 62 v1).bind (fun v5 => if v5 = (1:Int32) then ((rd σ 60 v1).bind (fun v6 => (dv ((σ.2 54) - v2) v6).bind (fun v7 => (rm v7 (2:Int32)).bind (fun v8 => if v8 = (1:Int32) then ((rd σ 60 v1).bind (fun v9 => f_byFrames_87 (x1) (x2) (v1) ((((55:Int32) * v1) + ((11:Int32) * x2))) ((v9 - v4)) σ)) else (f_byFrames_85 (x1) (x2) (v1) ((((55:Int32) * v1) + ((11:Int32) * x2))) (v4) σ))))) else (f_byFrames_85 (x1) (x2) (v1) ((((55:Int32) * v1) + ((11:Int32) * x2))) (v4) σ))))))
set_option maxRecDepth 20000 in
set_option maxHeartbeats 4000000 in
theorem N_byFrames_362 {p : Program} {l : Launch} {e : Env} {s : State} {m : MethodId} {args : Array Value} {below : List Frame} {meth : Method} {c : Code} {D : mD} {mb : Nat}   {y0 : Int32} {σ : mS} {ls : Array Slot} {r : Int32} (X : mX p s m args meth c cX12_byFrames 16 (some .int) D) (hP : mP D mb σ s.heap)  (hl : lv_has ls 16 [(0, .ref mb)]) (h : f_byFrames_362  y0 σ = some r) : mWr p l e 0 0 s m args below meth c (some (.int r)) (F0 m 362 ls [.int y0]) := by
  have hx := X.1
  have hb := X.2.1
  have hown := X.2.2.2.1
  have hts := X.2.2.2.2.1
  have h : (some y0) = some r := h
  obtain rfl := sj h
  exact m_ri X dX12_byFrames_362
set_option maxRecDepth 20000 in
set_option maxHeartbeats 4000000 in
theorem N_byFrames_306 {p : Program} {l : Launch} {e : Env} {s : State} {m : MethodId} {args : Array Value} {below : List Frame} {meth : Method} {c : Code} {D : mD} {mb : Nat}   {x3 : Int32} {x6 : Int32} {x10 : Int64} {x12 : Int64} {x14 : Int32} {y0 : Int32} {σ : mS} {ls : Array Slot} {r : Int32} (X : mX p s m args meth c cX12_byFrames 16 (some .int) D) (hP : mP D mb σ s.heap)  (hl : lv_has ls 16 [(0, .ref mb), (3, .int x3), (6, .int x6), (10, .long x10), (12, .long x12), (14, .int x14)]) (h : f_byFrames_306  x3 x6 x10 x12 x14 y0 σ = some r) : mWr p l e 0 0 s m args below meth c (some (.int r)) (F0 m 306 ls [.int y0]) := by
  have hx := X.1
  have hb := X.2.1
  have hown := X.2.2.2.1
  have hts := X.2.2.2.2.1
  have h : (if x14 = y0 then (f_byFrames_362 ((x10.toInt32)) σ) else ((rd σ 60 x3).bind (fun v1 => (rd σ 60 x3).bind (fun v2 => (ldv ((x12 - x10) * ((((10:Int32) * x6) - (x14 * v1)).toInt64)) ((v2.toInt64) * ((y0 - x14).toInt64))).bind (fun v3 => f_byFrames_362 (((x10 + v3).toInt32)) σ))))) = some r := h
  refine lv_istore hx hb dX12_byFrames_306 hl (Nat.le_of_ble_eq_true rfl) rfl (fun ls (hl : lv_has ls 16 [(15, .int y0), (0, .ref mb), (3, .int x3), (6, .int x6), (10, .long x10), (12, .long x12), (14, .int x14)]) => ?_)
  refine lv_iload hx hb dX12_byFrames_308 (lv_at hl 6 rfl) ?_
  refine lv_iload hx hb dX12_byFrames_310 (lv_at hl 0 rfl) ?_
  refine lv_icmp_ne (tgt := 321) hx hb dX12_byFrames_312 rfl (fun hc => ?_) (fun hc => ?_)
  · have h := ine hc h
    refine lv_lload hx hb dX12_byFrames_321 (lv_at hl 4 rfl) ?_
    refine lv_lload hx hb dX12_byFrames_323 (lv_at hl 5 rfl) ?_
    refine lv_lload hx hb dX12_byFrames_325 (lv_at hl 4 rfl) ?_
    refine lv_lsub hx hb dX12_byFrames_327 ?_
    refine lv_bipush (v := (10:Int32)) hx hb dX12_byFrames_328 (by decide) ?_
    refine lv_iload hx hb dX12_byFrames_330 (lv_at hl 3 rfl) ?_
    refine lv_imul hx hb dX12_byFrames_332 ?_
    refine lv_iload hx hb dX12_byFrames_333 (lv_at hl 6 rfl) ?_
    refine lv_aload_n hx hb dX12_byFrames_335 rfl (lv_at hl 1 rfl) ?_
    refine mg_al X hP dX12_byFrames_336 ?_
    refine lv_iload_n hx hb dX12_byFrames_339 rfl (lv_at hl 2 rfl) ?_
    obtain ⟨v1, hv1, h⟩ := ob h
    refine m_ald X hP hv1 dX12_byFrames_340 ?_
    refine lv_imul hx hb dX12_byFrames_341 ?_
    refine lv_isub hx hb dX12_byFrames_342 ?_
    refine lv_i2l hx hb dX12_byFrames_343 rfl ?_
    refine lv_lmul hx hb dX12_byFrames_344 ?_
    refine lv_aload_n hx hb dX12_byFrames_345 rfl (lv_at hl 1 rfl) ?_
    refine mg_al X hP dX12_byFrames_346 ?_
    refine lv_iload_n hx hb dX12_byFrames_349 rfl (lv_at hl 2 rfl) ?_
    obtain ⟨v2, hv2, h⟩ := ob h
    refine m_ald X hP hv2 dX12_byFrames_350 ?_
    refine lv_i2l hx hb dX12_byFrames_351 rfl ?_
    refine lv_iload hx hb dX12_byFrames_352 (lv_at hl 0 rfl) ?_
    refine lv_iload hx hb dX12_byFrames_354 (lv_at hl 6 rfl) ?_
    refine lv_isub hx hb dX12_byFrames_356 ?_
    refine lv_i2l hx hb dX12_byFrames_357 rfl ?_
    refine lv_lmul hx hb dX12_byFrames_358 ?_
    obtain ⟨v3, hv3, h⟩ := ob h
    obtain ⟨hnv3, hev3⟩ := ldv_spec hv3
    refine lv_ldiv hx hb dX12_byFrames_359 hnv3 ?_
    rw [hev3]
    refine lv_ladd hx hb dX12_byFrames_360 ?_
    refine lv_l2i hx hb dX12_byFrames_361 rfl ?_
    exact N_byFrames_362 X hP (lv_sub hl [1] rfl) h
  · have h := ip hc h
    refine lv_lload hx hb dX12_byFrames_315 (lv_at hl 4 rfl) ?_
    refine lv_l2i hx hb dX12_byFrames_317 rfl ?_
    refine lv_goto (tgt := 362) hx hb dX12_byFrames_318 rfl ?_
    exact N_byFrames_362 X hP (lv_sub hl [1] rfl) h
set_option maxRecDepth 20000 in
set_option maxHeartbeats 4000000 in
theorem N_byFrames_292 {p : Program} {l : Launch} {e : Env} {s : State} {m : MethodId} {args : Array Value} {below : List Frame} {meth : Method} {c : Code} {D : mD} {mb : Nat}   {x3 : Int32} {x6 : Int32} {x8 : Int32} {x10 : Int64} {x12 : Int64} {y0 : Int32} {σ : mS} {ls : Array Slot} {r : Int32} (X : mX p s m args meth c cX12_byFrames 16 (some .int) D) (hP : mP D mb σ s.heap)  (hl : lv_has ls 16 [(0, .ref mb), (3, .int x3), (6, .int x6), (8, .int x8), (10, .long x10), (12, .long x12)]) (h : f_byFrames_292  x3 x6 x8 x10 x12 y0 σ = some r) : mWr p l e 0 0 s m args below meth c (some (.int r)) (F0 m 292 ls [.int y0]) := by
  have hx := X.1
  have hb := X.2.1
  have hown := X.2.2.2.1
  have hts := X.2.2.2.2.1
  have h : (if (0:Int32) ≤ x8 then (f_byFrames_306 (x3) (x6) (x10) (x12) (y0) (x8) σ) else (f_byFrames_306 (x3) (x6) (x10) (x12) (y0) ((10:Int32)) σ)) = some r := h
  refine lv_istore hx hb dX12_byFrames_292 hl (Nat.le_of_ble_eq_true rfl) rfl (fun ls (hl : lv_has ls 16 [(14, .int y0), (0, .ref mb), (3, .int x3), (6, .int x6), (8, .int x8), (10, .long x10), (12, .long x12)]) => ?_)
  refine lv_iload hx hb dX12_byFrames_294 (lv_at hl 4 rfl) ?_
  refine lv_if_ge (tgt := 304) hx hb dX12_byFrames_296 rfl (fun hc => ?_) (fun hc => ?_)
  · have h := ip hc h
    refine lv_iload hx hb dX12_byFrames_304 (lv_at hl 4 rfl) ?_
    exact N_byFrames_306 X hP (lv_sub hl [1, 2, 3, 5, 6, 0] rfl) h
  · have h := ine hc h
    refine lv_bipush (v := (10:Int32)) hx hb dX12_byFrames_299 (by decide) ?_
    refine lv_goto (tgt := 306) hx hb dX12_byFrames_301 rfl ?_
    exact N_byFrames_306 X hP (lv_sub hl [1, 2, 3, 5, 6, 0] rfl) h
set_option maxRecDepth 20000 in
set_option maxHeartbeats 4000000 in
theorem N_byFrames_279 {p : Program} {l : Launch} {e : Env} {s : State} {m : MethodId} {args : Array Value} {below : List Frame} {meth : Method} {c : Code} {D : mD} {mb : Nat}   {x3 : Int32} {x6 : Int32} {x7 : Int32} {x8 : Int32} {x10 : Int64} {y0 : Int64} {σ : mS} {ls : Array Slot} {r : Int32} (X : mX p s m args meth c cX12_byFrames 16 (some .int) D) (hP : mP D mb σ s.heap)  (hl : lv_has ls 16 [(0, .ref mb), (3, .int x3), (6, .int x6), (7, .int x7), (8, .int x8), (10, .long x10)]) (h : f_byFrames_279  x3 x6 x7 x8 x10 y0 σ = some r) : mWr p l e 0 0 s m args below meth c (some (.int r)) (F0 m 279 ls [.long y0]) := by
  have hx := X.1
  have hb := X.2.1
  have hown := X.2.2.2.1
  have hts := X.2.2.2.2.1
  have h : (if (0:Int32) ≤ x7 then (f_byFrames_292 (x3) (x6) (x8) (x10) (y0) (x7) σ) else (f_byFrames_292 (x3) (x6) (x8) (x10) (y0) ((0:Int32)) σ)) = some r := h
  refine lv_lstore hx hb dX12_byFrames_279 hl (Nat.le_of_ble_eq_true rfl) rfl (fun ls (hl : lv_has ls 16 [(12, .long y0), (0, .ref mb), (3, .int x3), (6, .int x6), (7, .int x7), (8, .int x8), (10, .long x10)]) => ?_)
  refine lv_iload hx hb dX12_byFrames_281 (lv_at hl 4 rfl) ?_
  refine lv_if_ge (tgt := 290) hx hb dX12_byFrames_283 rfl (fun hc => ?_) (fun hc => ?_)
  · have h := ip hc h
    refine lv_iload hx hb dX12_byFrames_290 (lv_at hl 4 rfl) ?_
    exact N_byFrames_292 X hP (lv_sub hl [1, 2, 3, 5, 6, 0] rfl) h
  · have h := ine hc h
    refine lv_iconst (v := (0:Int32)) hx hb dX12_byFrames_286 (by decide) ?_
    refine lv_goto (tgt := 292) hx hb dX12_byFrames_287 rfl ?_
    exact N_byFrames_292 X hP (lv_sub hl [1, 2, 3, 5, 6, 0] rfl) h
set_option maxRecDepth 20000 in
set_option maxHeartbeats 4000000 in
theorem N_byFrames_255 {p : Program} {l : Launch} {e : Env} {s : State} {m : MethodId} {args : Array Value} {below : List Frame} {meth : Method} {c : Code} {D : mD} {mb : Nat}   {x3 : Int32} {x4 : Int32} {x6 : Int32} {x7 : Int32} {x8 : Int32} {x9 : Int32} {y0 : Int64} {σ : mS} {ls : Array Slot} {r : Int32} (X : mX p s m args meth c cX12_byFrames 16 (some .int) D) (hP : mP D mb σ s.heap)  (hl : lv_has ls 16 [(0, .ref mb), (3, .int x3), (4, .int x4), (6, .int x6), (7, .int x7), (8, .int x8), (9, .int x9)]) (h : f_byFrames_255  x3 x4 x6 x7 x8 x9 y0 σ = some r) : mWr p l e 0 0 s m args below meth c (some (.int r)) (F0 m 255 ls [.long y0]) := by
  have hx := X.1
  have hb := X.2.1
  have hown := X.2.2.2.1
  have hts := X.2.2.2.2.1
  have h : (if (0:Int32) ≤ x8 then ((rd σ 64 (x4 + x8)).bind (fun v1 => f_byFrames_279 (x3) (x6) (x7) (x8) (y0) ((v1.toInt64)) σ)) else (f_byFrames_279 (x3) (x6) (x7) (x8) (y0) ((x9.toInt64)) σ)) = some r := h
  refine lv_lstore hx hb dX12_byFrames_255 hl (Nat.le_of_ble_eq_true rfl) rfl (fun ls (hl : lv_has ls 16 [(10, .long y0), (0, .ref mb), (3, .int x3), (4, .int x4), (6, .int x6), (7, .int x7), (8, .int x8), (9, .int x9)]) => ?_)
  refine lv_iload hx hb dX12_byFrames_257 (lv_at hl 6 rfl) ?_
  refine lv_if_ge (tgt := 268) hx hb dX12_byFrames_259 rfl (fun hc => ?_) (fun hc => ?_)
  · have h := ip hc h
    refine lv_aload_n hx hb dX12_byFrames_268 rfl (lv_at hl 1 rfl) ?_
    refine mg_fn X hP dX12_byFrames_269 ?_
    refine lv_iload hx hb dX12_byFrames_272 (lv_at hl 3 rfl) ?_
    refine lv_iload hx hb dX12_byFrames_274 (lv_at hl 6 rfl) ?_
    refine lv_iadd hx hb dX12_byFrames_276 ?_
    obtain ⟨v1, hv1, h⟩ := ob h
    refine m_ald X hP hv1 dX12_byFrames_277 ?_
    refine lv_i2l hx hb dX12_byFrames_278 rfl ?_
    exact N_byFrames_279 X hP (lv_sub hl [1, 2, 4, 5, 6, 0] rfl) h
  · have h := ine hc h
    refine lv_iload hx hb dX12_byFrames_262 (lv_at hl 7 rfl) ?_
    refine lv_i2l hx hb dX12_byFrames_264 rfl ?_
    refine lv_goto (tgt := 279) hx hb dX12_byFrames_265 rfl ?_
    exact N_byFrames_279 X hP (lv_sub hl [1, 2, 4, 5, 6, 0] rfl) h
set_option maxRecDepth 20000 in
set_option maxHeartbeats 4000000 in
theorem N_byFrames_231 {p : Program} {l : Launch} {e : Env} {s : State} {m : MethodId} {args : Array Value} {below : List Frame} {meth : Method} {c : Code} {D : mD} {mb : Nat}   {x3 : Int32} {x4 : Int32} {x6 : Int32} {x7 : Int32} {x8 : Int32} {y0 : Int32} {σ : mS} {ls : Array Slot} {r : Int32} (X : mX p s m args meth c cX12_byFrames 16 (some .int) D) (hP : mP D mb σ s.heap)  (hl : lv_has ls 16 [(0, .ref mb), (3, .int x3), (4, .int x4), (6, .int x6), (7, .int x7), (8, .int x8)]) (h : f_byFrames_231  x3 x4 x6 x7 x8 y0 σ = some r) : mWr p l e 0 0 s m args below meth c (some (.int r)) (F0 m 231 ls [.int y0]) := by
  have hx := X.1
  have hb := X.2.1
  have hown := X.2.2.2.1
  have hts := X.2.2.2.2.1
  have h : (if (0:Int32) ≤ x7 then ((rd σ 64 (x4 + x7)).bind (fun v1 => f_byFrames_255 (x3) (x4) (x6) (x7) (x8) (y0) ((v1.toInt64)) σ)) else (f_byFrames_255 (x3) (x4) (x6) (x7) (x8) (y0) ((y0.toInt64)) σ)) = some r := h
  refine lv_istore hx hb dX12_byFrames_231 hl (Nat.le_of_ble_eq_true rfl) rfl (fun ls (hl : lv_has ls 16 [(9, .int y0), (0, .ref mb), (3, .int x3), (4, .int x4), (6, .int x6), (7, .int x7), (8, .int x8)]) => ?_)
  refine lv_iload hx hb dX12_byFrames_233 (lv_at hl 5 rfl) ?_
  refine lv_if_ge (tgt := 244) hx hb dX12_byFrames_235 rfl (fun hc => ?_) (fun hc => ?_)
  · have h := ip hc h
    refine lv_aload_n hx hb dX12_byFrames_244 rfl (lv_at hl 1 rfl) ?_
    refine mg_fn X hP dX12_byFrames_245 ?_
    refine lv_iload hx hb dX12_byFrames_248 (lv_at hl 3 rfl) ?_
    refine lv_iload hx hb dX12_byFrames_250 (lv_at hl 5 rfl) ?_
    refine lv_iadd hx hb dX12_byFrames_252 ?_
    obtain ⟨v1, hv1, h⟩ := ob h
    refine m_ald X hP hv1 dX12_byFrames_253 ?_
    refine lv_i2l hx hb dX12_byFrames_254 rfl ?_
    exact N_byFrames_255 X hP (lv_sub hl [1, 2, 3, 4, 5, 6, 0] rfl) h
  · have h := ine hc h
    refine lv_iload hx hb dX12_byFrames_238 (lv_at hl 0 rfl) ?_
    refine lv_i2l hx hb dX12_byFrames_240 rfl ?_
    refine lv_goto (tgt := 255) hx hb dX12_byFrames_241 rfl ?_
    exact N_byFrames_255 X hP (lv_sub hl [1, 2, 3, 4, 5, 6, 0] rfl) h
set_option maxRecDepth 20000 in
set_option maxHeartbeats 4000000 in
theorem N_byFrames_191 {p : Program} {l : Launch} {e : Env} {s : State} {m : MethodId} {args : Array Value} {below : List Frame} {meth : Method} {c : Code} {D : mD} {mb : Nat} {k98 : Int32 → Int32 → Int32 → Int32 → Int32 → Int32 → Int32 → Int32 → Option (Int32)}  {x1 : Int32} {x2 : Int32} {x3 : Int32} {x4 : Int32} {x6 : Int32} {x7 : Int32} {x9 : Int32} {y0 : Int32} {σ : mS} {ls : Array Slot} {r : Int32} (X : mX p s m args meth c cX12_byFrames 16 (some .int) D) (hP : mP D mb σ s.heap) (hk98 : ∀ {x1 : Int32} {x2 : Int32} {x3 : Int32} {x4 : Int32} {x6 : Int32} {x7 : Int32} {x8 : Int32} {x9 : Int32} {ls : Array Slot}, lv_has ls 16 [(0, .ref mb), (1, .int x1), (2, .int x2), (3, .int x3), (4, .int x4), (6, .int x6), (7, .int x7), (8, .int x8), (9, .int x9)] → k98 x1 x2 x3 x4 x6 x7 x8 x9 = some r → mWr p l e 0 0 s m args below meth c (some (.int r)) (F0 m 98 ls [])) (hl : lv_has ls 16 [(0, .ref mb), (1, .int x1), (2, .int x2), (3, .int x3), (4, .int x4), (6, .int x6), (7, .int x7), (9, .int x9)]) (h : f_byFrames_191 k98 x1 x2 x3 x4 x6 x7 x9 y0 σ = some r) : mWr p l e 0 0 s m args below meth c (some (.int r)) (F0 m 191 ls [.int y0]) := by
  have hx := X.1
  have hb := X.2.1
  have hown := X.2.2.2.1
  have hts := X.2.2.2.2.1
  have h : (k98 (x1) (x2) (x3) (x4) (x6) (x7) (y0) ((x9 + (1:Int32)))) = some r := h
  refine lv_istore hx hb dX12_byFrames_191 hl (Nat.le_of_ble_eq_true rfl) rfl (fun ls (hl : lv_has ls 16 [(8, .int y0), (0, .ref mb), (1, .int x1), (2, .int x2), (3, .int x3), (4, .int x4), (6, .int x6), (7, .int x7), (9, .int x9)]) => ?_)
  refine lv_iinc (v := (x9 + (1:Int32))) hx hb dX12_byFrames_193 hl (k := 8) rfl rfl (Nat.le_of_ble_eq_true rfl) rfl (fun ls (hl : lv_has ls 16 [(9, .int (x9 + (1:Int32))), (8, .int y0), (0, .ref mb), (1, .int x1), (2, .int x2), (3, .int x3), (4, .int x4), (6, .int x6), (7, .int x7)]) => ?_)
  refine lv_goto (tgt := 98) hx hb dX12_byFrames_196 rfl ?_
  exact hk98 (lv_sub hl [2, 3, 4, 5, 6, 7, 8, 1, 0] rfl) h
set_option maxRecDepth 20000 in
set_option maxHeartbeats 4000000 in
theorem N_byFrames_189 {p : Program} {l : Launch} {e : Env} {s : State} {m : MethodId} {args : Array Value} {below : List Frame} {meth : Method} {c : Code} {D : mD} {mb : Nat} {k98 : Int32 → Int32 → Int32 → Int32 → Int32 → Int32 → Int32 → Int32 → Option (Int32)}  {x1 : Int32} {x2 : Int32} {x3 : Int32} {x4 : Int32} {x6 : Int32} {x7 : Int32} {x8 : Int32} {x9 : Int32} {σ : mS} {ls : Array Slot} {r : Int32} (X : mX p s m args meth c cX12_byFrames 16 (some .int) D) (hP : mP D mb σ s.heap) (hk98 : ∀ {x1 : Int32} {x2 : Int32} {x3 : Int32} {x4 : Int32} {x6 : Int32} {x7 : Int32} {x8 : Int32} {x9 : Int32} {ls : Array Slot}, lv_has ls 16 [(0, .ref mb), (1, .int x1), (2, .int x2), (3, .int x3), (4, .int x4), (6, .int x6), (7, .int x7), (8, .int x8), (9, .int x9)] → k98 x1 x2 x3 x4 x6 x7 x8 x9 = some r → mWr p l e 0 0 s m args below meth c (some (.int r)) (F0 m 98 ls [])) (hl : lv_has ls 16 [(0, .ref mb), (1, .int x1), (2, .int x2), (3, .int x3), (4, .int x4), (6, .int x6), (7, .int x7), (8, .int x8), (9, .int x9)]) (h : f_byFrames_189 k98 x1 x2 x3 x4 x6 x7 x8 x9 σ = some r) : mWr p l e 0 0 s m args below meth c (some (.int r)) (F0 m 189 ls []) := by
  have hx := X.1
  have hb := X.2.1
  have hown := X.2.2.2.1
  have hts := X.2.2.2.2.1
  have h : (f_byFrames_191 k98 (x1) (x2) (x3) (x4) (x6) (x7) (x9) (x8) σ) = some r := h
  refine lv_iload hx hb dX12_byFrames_189 (lv_at hl 7 rfl) ?_
  exact N_byFrames_191 X hP hk98 (lv_sub hl [0, 1, 2, 3, 4, 5, 6, 8] rfl) h
set_option maxRecDepth 20000 in
set_option maxHeartbeats 4000000 in
theorem N_byFrames_155 {p : Program} {l : Launch} {e : Env} {s : State} {m : MethodId} {args : Array Value} {below : List Frame} {meth : Method} {c : Code} {D : mD} {mb : Nat} {k98 : Int32 → Int32 → Int32 → Int32 → Int32 → Int32 → Int32 → Int32 → Option (Int32)}  {x1 : Int32} {x2 : Int32} {x3 : Int32} {x4 : Int32} {x6 : Int32} {x8 : Int32} {x9 : Int32} {x10 : Int32} {y0 : Int32} {σ : mS} {ls : Array Slot} {r : Int32} (X : mX p s m args meth c cX12_byFrames 16 (some .int) D) (hP : mP D mb σ s.heap) (hk98 : ∀ {x1 : Int32} {x2 : Int32} {x3 : Int32} {x4 : Int32} {x6 : Int32} {x7 : Int32} {x8 : Int32} {x9 : Int32} {ls : Array Slot}, lv_has ls 16 [(0, .ref mb), (1, .int x1), (2, .int x2), (3, .int x3), (4, .int x4), (6, .int x6), (7, .int x7), (8, .int x8), (9, .int x9)] → k98 x1 x2 x3 x4 x6 x7 x8 x9 = some r → mWr p l e 0 0 s m args below meth c (some (.int r)) (F0 m 98 ls [])) (hl : lv_has ls 16 [(0, .ref mb), (1, .int x1), (2, .int x2), (3, .int x3), (4, .int x4), (6, .int x6), (8, .int x8), (9, .int x9), (10, .int x10)]) (h : f_byFrames_155 k98 x1 x2 x3 x4 x6 x8 x9 x10 y0 σ = some r) : mWr p l e 0 0 s m args below meth c (some (.int r)) (F0 m 155 ls [.int y0]) := by
  have hx := X.1
  have hb := X.2.1
  have hown := X.2.2.2.1
  have hts := X.2.2.2.2.1
  have h : (if x10 = (0:Int32) then (f_byFrames_189 k98 (x1) (x2) (x3) (x4) (x6) (y0) (x8) (x9) σ) else ((rd σ 60 x3).bind (fun v1 => if (x9 * v1) ≤ ((10:Int32) * x6) then (f_byFrames_189 k98 (x1) (x2) (x3) (x4) (x6) (y0) (x8) (x9) σ) else (if (0:Int32) ≤ x8 then (f_byFrames_189 k98 (x1) (x2) (x3) (x4) (x6) (y0) (x8) (x9) σ) else (f_byFrames_191 k98 (x1) (x2) (x3) (x4) (x6) (y0) (x9) (x9) σ))))) = some r := h
  refine lv_istore hx hb dX12_byFrames_155 hl (Nat.le_of_ble_eq_true rfl) rfl (fun ls (hl : lv_has ls 16 [(7, .int y0), (0, .ref mb), (1, .int x1), (2, .int x2), (3, .int x3), (4, .int x4), (6, .int x6), (8, .int x8), (9, .int x9), (10, .int x10)]) => ?_)
  refine lv_iload hx hb dX12_byFrames_157 (lv_at hl 9 rfl) ?_
  refine lv_if_eq (tgt := 189) hx hb dX12_byFrames_159 rfl (fun hc => ?_) (fun hc => ?_)
  · have h := ip hc h
    exact N_byFrames_189 X hP hk98 (lv_sub hl [1, 2, 3, 4, 5, 6, 0, 7, 8] rfl) h
  · have h := ine hc h
    refine lv_iload hx hb dX12_byFrames_162 (lv_at hl 8 rfl) ?_
    refine lv_aload_n hx hb dX12_byFrames_164 rfl (lv_at hl 1 rfl) ?_
    refine mg_al X hP dX12_byFrames_165 ?_
    refine lv_iload_n hx hb dX12_byFrames_168 rfl (lv_at hl 4 rfl) ?_
    obtain ⟨v1, hv1, h⟩ := ob h
    refine m_ald X hP hv1 dX12_byFrames_169 ?_
    refine lv_imul hx hb dX12_byFrames_170 ?_
    refine lv_bipush (v := (10:Int32)) hx hb dX12_byFrames_171 (by decide) ?_
    refine lv_iload hx hb dX12_byFrames_173 (lv_at hl 6 rfl) ?_
    refine lv_imul hx hb dX12_byFrames_175 ?_
    refine lv_icmp_le (tgt := 189) hx hb dX12_byFrames_176 rfl (fun hc => ?_) (fun hc => ?_)
    · have h := ip hc h
      exact N_byFrames_189 X hP hk98 (lv_sub hl [1, 2, 3, 4, 5, 6, 0, 7, 8] rfl) h
    · have h := ine hc h
      refine lv_iload hx hb dX12_byFrames_179 (lv_at hl 7 rfl) ?_
      refine lv_if_ge (tgt := 189) hx hb dX12_byFrames_181 rfl (fun hc => ?_) (fun hc => ?_)
      · have h := ip hc h
        exact N_byFrames_189 X hP hk98 (lv_sub hl [1, 2, 3, 4, 5, 6, 0, 7, 8] rfl) h
      · have h := ine hc h
        refine lv_iload hx hb dX12_byFrames_184 (lv_at hl 8 rfl) ?_
        refine lv_goto (tgt := 191) hx hb dX12_byFrames_186 rfl ?_
        exact N_byFrames_191 X hP hk98 (lv_sub hl [1, 2, 3, 4, 5, 6, 0, 8] rfl) h
set_option maxRecDepth 20000 in
set_option maxHeartbeats 4000000 in
theorem N_byFrames_153 {p : Program} {l : Launch} {e : Env} {s : State} {m : MethodId} {args : Array Value} {below : List Frame} {meth : Method} {c : Code} {D : mD} {mb : Nat} {k98 : Int32 → Int32 → Int32 → Int32 → Int32 → Int32 → Int32 → Int32 → Option (Int32)}  {x1 : Int32} {x2 : Int32} {x3 : Int32} {x4 : Int32} {x6 : Int32} {x7 : Int32} {x8 : Int32} {x9 : Int32} {x10 : Int32} {σ : mS} {ls : Array Slot} {r : Int32} (X : mX p s m args meth c cX12_byFrames 16 (some .int) D) (hP : mP D mb σ s.heap) (hk98 : ∀ {x1 : Int32} {x2 : Int32} {x3 : Int32} {x4 : Int32} {x6 : Int32} {x7 : Int32} {x8 : Int32} {x9 : Int32} {ls : Array Slot}, lv_has ls 16 [(0, .ref mb), (1, .int x1), (2, .int x2), (3, .int x3), (4, .int x4), (6, .int x6), (7, .int x7), (8, .int x8), (9, .int x9)] → k98 x1 x2 x3 x4 x6 x7 x8 x9 = some r → mWr p l e 0 0 s m args below meth c (some (.int r)) (F0 m 98 ls [])) (hl : lv_has ls 16 [(0, .ref mb), (1, .int x1), (2, .int x2), (3, .int x3), (4, .int x4), (6, .int x6), (7, .int x7), (8, .int x8), (9, .int x9), (10, .int x10)]) (h : f_byFrames_153 k98 x1 x2 x3 x4 x6 x7 x8 x9 x10 σ = some r) : mWr p l e 0 0 s m args below meth c (some (.int r)) (F0 m 153 ls []) := by
  have hx := X.1
  have hb := X.2.1
  have hown := X.2.2.2.1
  have hts := X.2.2.2.2.1
  have h : (f_byFrames_155 k98 (x1) (x2) (x3) (x4) (x6) (x8) (x9) (x10) (x7) σ) = some r := h
  refine lv_iload hx hb dX12_byFrames_153 (lv_at hl 6 rfl) ?_
  exact N_byFrames_155 X hP hk98 (lv_sub hl [0, 1, 2, 3, 4, 5, 7, 8, 9] rfl) h
set_option maxRecDepth 20000 in
set_option maxHeartbeats 4000000 in
theorem N_byFrames_124 {p : Program} {l : Launch} {e : Env} {s : State} {m : MethodId} {args : Array Value} {below : List Frame} {meth : Method} {c : Code} {D : mD} {mb : Nat} {k98 : Int32 → Int32 → Int32 → Int32 → Int32 → Int32 → Int32 → Int32 → Option (Int32)}  {x1 : Int32} {x2 : Int32} {x3 : Int32} {x4 : Int32} {x6 : Int32} {x7 : Int32} {x8 : Int32} {x9 : Int32} {y0 : Int32} {σ : mS} {ls : Array Slot} {r : Int32} (X : mX p s m args meth c cX12_byFrames 16 (some .int) D) (hP : mP D mb σ s.heap) (hk98 : ∀ {x1 : Int32} {x2 : Int32} {x3 : Int32} {x4 : Int32} {x6 : Int32} {x7 : Int32} {x8 : Int32} {x9 : Int32} {ls : Array Slot}, lv_has ls 16 [(0, .ref mb), (1, .int x1), (2, .int x2), (3, .int x3), (4, .int x4), (6, .int x6), (7, .int x7), (8, .int x8), (9, .int x9)] → k98 x1 x2 x3 x4 x6 x7 x8 x9 = some r → mWr p l e 0 0 s m args below meth c (some (.int r)) (F0 m 98 ls [])) (hl : lv_has ls 16 [(0, .ref mb), (1, .int x1), (2, .int x2), (3, .int x3), (4, .int x4), (6, .int x6), (7, .int x7), (8, .int x8), (9, .int x9)]) (h : f_byFrames_124 k98 x1 x2 x3 x4 x6 x7 x8 x9 y0 σ = some r) : mWr p l e 0 0 s m args below meth c (some (.int r)) (F0 m 124 ls [.int y0]) := by
  have hx := X.1
  have hb := X.2.1
  have hown := X.2.2.2.1
  have hts := X.2.2.2.2.1
  have h : (if y0 = (0:Int32) then (f_byFrames_153 k98 (x1) (x2) (x3) (x4) (x6) (x7) (x8) (x9) (y0) σ) else ((rd σ 60 x3).bind (fun v1 => if ((10:Int32) * x6) < (x9 * v1) then (f_byFrames_153 k98 (x1) (x2) (x3) (x4) (x6) (x7) (x8) (x9) (y0) σ) else (f_byFrames_155 k98 (x1) (x2) (x3) (x4) (x6) (x8) (x9) (y0) (x9) σ)))) = some r := h
  refine lv_istore hx hb dX12_byFrames_124 hl (Nat.le_of_ble_eq_true rfl) rfl (fun ls (hl : lv_has ls 16 [(10, .int y0), (0, .ref mb), (1, .int x1), (2, .int x2), (3, .int x3), (4, .int x4), (6, .int x6), (7, .int x7), (8, .int x8), (9, .int x9)]) => ?_)
  refine lv_iload hx hb dX12_byFrames_126 (lv_at hl 0 rfl) ?_
  refine lv_if_eq (tgt := 153) hx hb dX12_byFrames_128 rfl (fun hc => ?_) (fun hc => ?_)
  · have h := ip hc h
    exact N_byFrames_153 X hP hk98 (lv_sub hl [1, 2, 3, 4, 5, 6, 7, 8, 9, 0] rfl) h
  · have h := ine hc h
    refine lv_iload hx hb dX12_byFrames_131 (lv_at hl 9 rfl) ?_
    refine lv_aload_n hx hb dX12_byFrames_133 rfl (lv_at hl 1 rfl) ?_
    refine mg_al X hP dX12_byFrames_134 ?_
    refine lv_iload_n hx hb dX12_byFrames_137 rfl (lv_at hl 4 rfl) ?_
    obtain ⟨v1, hv1, h⟩ := ob h
    refine m_ald X hP hv1 dX12_byFrames_138 ?_
    refine lv_imul hx hb dX12_byFrames_139 ?_
    refine lv_bipush (v := (10:Int32)) hx hb dX12_byFrames_140 (by decide) ?_
    refine lv_iload hx hb dX12_byFrames_142 (lv_at hl 6 rfl) ?_
    refine lv_imul hx hb dX12_byFrames_144 ?_
    refine lv_icmp_gt (tgt := 153) hx hb dX12_byFrames_145 rfl (fun hc => ?_) (fun hc => ?_)
    · have h := ip hc h
      exact N_byFrames_153 X hP hk98 (lv_sub hl [1, 2, 3, 4, 5, 6, 7, 8, 9, 0] rfl) h
    · have h := ine hc h
      refine lv_iload hx hb dX12_byFrames_148 (lv_at hl 9 rfl) ?_
      refine lv_goto (tgt := 155) hx hb dX12_byFrames_150 rfl ?_
      exact N_byFrames_155 X hP hk98 (lv_sub hl [1, 2, 3, 4, 5, 6, 8, 9, 0] rfl) h
set_option maxRecDepth 20000 in
set_option maxHeartbeats 4000000 in
theorem N_byFrames_98 {p : Program} {l : Launch} {e : Env} {s : State} {m : MethodId} {args : Array Value} {below : List Frame} {meth : Method} {c : Code} {D : mD} {mb : Nat}  {n : Nat} {x1 : Int32} {x2 : Int32} {x3 : Int32} {x4 : Int32} {x6 : Int32} {x7 : Int32} {x8 : Int32} {x9 : Int32} {σ : mS} {ls : Array Slot} {r : Int32} (X : mX p s m args meth c cX12_byFrames 16 (some .int) D) (hP : mP D mb σ s.heap)  (hl : lv_has ls 16 [(0, .ref mb), (1, .int x1), (2, .int x2), (3, .int x3), (4, .int x4), (6, .int x6), (7, .int x7), (8, .int x8), (9, .int x9)]) (h : f_byFrames_98  n x1 x2 x3 x4 x6 x7 x8 x9 σ = some r) : mWr p l e 0 0 s m args below meth c (some (.int r)) (F0 m 98 ls []) := by
  have hx := X.1
  have hb := X.2.1
  have hown := X.2.2.2.1
  have hts := X.2.2.2.2.1
  induction n generalizing x1 x2 x3 x4 x6 x7 x8 x9 ls with
  | zero => exact absurd (show none = some r from h) (by simp)
  | succ n ih =>
    have h : (if (11:Int32) ≤ x9 then ((rd σ 43 (((12:Int32) * x1) + x2)).bind (fun v1 => if v1 = ((-1000000):Int32) then (f_byFrames_231 (x3) (x4) (x6) (x7) (x8) ((0:Int32)) σ) else ((rd σ 43 (((12:Int32) * x1) + x2)).bind (fun v2 => f_byFrames_231 (x3) (x4) (x6) (x7) (x8) (v2) σ)))) else ((rd σ 63 (x4 + x9)).bind (fun v3 => if v3 = (1:Int32) then (f_byFrames_124 (fun z0 z1 z2 z3 z4 z5 z6 z7 => f_byFrames_98 n z0 z1 z2 z3 z4 z5 z6 z7 σ) (x1) (x2) (x3) (x4) (x6) (x7) (x8) (x9) ((1:Int32)) σ) else (f_byFrames_124 (fun z0 z1 z2 z3 z4 z5 z6 z7 => f_byFrames_98 n z0 z1 z2 z3 z4 z5 z6 z7 σ) (x1) (x2) (x3) (x4) (x6) (x7) (x8) (x9) ((0:Int32)) σ)))) = some r := h
    refine lv_iload hx hb dX12_byFrames_98 (lv_at hl 8 rfl) ?_
    refine lv_bipush (v := (11:Int32)) hx hb dX12_byFrames_100 (by decide) ?_
    refine lv_icmp_ge (tgt := 199) hx hb dX12_byFrames_102 rfl (fun hc => ?_) (fun hc => ?_)
    · have h := ip hc h
      refine lv_aload_n hx hb dX12_byFrames_199 rfl (lv_at hl 0 rfl) ?_
      refine mg_val X hP dX12_byFrames_200 ?_
      refine lv_bipush (v := (12:Int32)) hx hb dX12_byFrames_203 (by decide) ?_
      refine lv_iload_n hx hb dX12_byFrames_205 rfl (lv_at hl 1 rfl) ?_
      refine lv_imul hx hb dX12_byFrames_206 ?_
      refine lv_iload_n hx hb dX12_byFrames_207 rfl (lv_at hl 2 rfl) ?_
      refine lv_iadd hx hb dX12_byFrames_208 ?_
      obtain ⟨v1, hv1, h⟩ := ob h
      refine m_ald X hP hv1 dX12_byFrames_209 ?_
      refine lv_ldcw hx hb hown (hts _ w_2175) dX12_byFrames_210 ?_
      refine lv_icmp_ne (tgt := 220) hx hb dX12_byFrames_213 rfl (fun hc => ?_) (fun hc => ?_)
      · have h := ine hc h
        refine lv_aload_n hx hb dX12_byFrames_220 rfl (lv_at hl 0 rfl) ?_
        refine mg_val X hP dX12_byFrames_221 ?_
        refine lv_bipush (v := (12:Int32)) hx hb dX12_byFrames_224 (by decide) ?_
        refine lv_iload_n hx hb dX12_byFrames_226 rfl (lv_at hl 1 rfl) ?_
        refine lv_imul hx hb dX12_byFrames_227 ?_
        refine lv_iload_n hx hb dX12_byFrames_228 rfl (lv_at hl 2 rfl) ?_
        refine lv_iadd hx hb dX12_byFrames_229 ?_
        obtain ⟨v2, hv2, h⟩ := ob h
        refine m_ald X hP hv2 dX12_byFrames_230 ?_
        exact N_byFrames_231 X hP (lv_sub hl [0, 3, 4, 5, 6, 7] rfl) h
      · have h := ip hc h
        refine lv_iconst (v := (0:Int32)) hx hb dX12_byFrames_216 (by decide) ?_
        refine lv_goto (tgt := 231) hx hb dX12_byFrames_217 rfl ?_
        exact N_byFrames_231 X hP (lv_sub hl [0, 3, 4, 5, 6, 7] rfl) h
    · have h := ine hc h
      refine lv_aload_n hx hb dX12_byFrames_105 rfl (lv_at hl 0 rfl) ?_
      refine mg_fs X hP dX12_byFrames_106 ?_
      refine lv_iload hx hb dX12_byFrames_109 (lv_at hl 4 rfl) ?_
      refine lv_iload hx hb dX12_byFrames_111 (lv_at hl 8 rfl) ?_
      refine lv_iadd hx hb dX12_byFrames_113 ?_
      obtain ⟨v3, hv3, h⟩ := ob h
      refine m_ald X hP hv3 dX12_byFrames_114 ?_
      refine lv_iconst (v := (1:Int32)) hx hb dX12_byFrames_115 (by decide) ?_
      refine lv_icmp_ne (tgt := 123) hx hb dX12_byFrames_116 rfl (fun hc => ?_) (fun hc => ?_)
      · have h := ine hc h
        refine lv_iconst (v := (0:Int32)) hx hb dX12_byFrames_123 (by decide) ?_
        exact N_byFrames_124 X hP ih (lv_sub hl [0, 1, 2, 3, 4, 5, 6, 7, 8] rfl) h
      · have h := ip hc h
        refine lv_iconst (v := (1:Int32)) hx hb dX12_byFrames_119 (by decide) ?_
        refine lv_goto (tgt := 124) hx hb dX12_byFrames_120 rfl ?_
        exact N_byFrames_124 X hP ih (lv_sub hl [0, 1, 2, 3, 4, 5, 6, 7, 8] rfl) h
set_option maxRecDepth 20000 in
set_option maxHeartbeats 4000000 in
theorem N_byFrames_87 {p : Program} {l : Launch} {e : Env} {s : State} {m : MethodId} {args : Array Value} {below : List Frame} {meth : Method} {c : Code} {D : mD} {mb : Nat}   {x1 : Int32} {x2 : Int32} {x3 : Int32} {x4 : Int32} {y0 : Int32} {σ : mS} {ls : Array Slot} {r : Int32} (X : mX p s m args meth c cX12_byFrames 16 (some .int) D) (hP : mP D mb σ s.heap)  (hl : lv_has ls 16 [(0, .ref mb), (1, .int x1), (2, .int x2), (3, .int x3), (4, .int x4)]) (h : f_byFrames_87  x1 x2 x3 x4 y0 σ = some r) : mWr p l e 0 0 s m args below meth c (some (.int r)) (F0 m 87 ls [.int y0]) := by
  have hx := X.1
  have hb := X.2.1
  have hown := X.2.2.2.1
  have hts := X.2.2.2.2.1
  have h : (f_byFrames_98 4000 (x1) (x2) (x3) (x4) (y0) (((-1):Int32)) (((-1):Int32)) ((0:Int32)) σ) = some r := h
  refine lv_istore hx hb dX12_byFrames_87 hl (Nat.le_of_ble_eq_true rfl) rfl (fun ls (hl : lv_has ls 16 [(6, .int y0), (0, .ref mb), (1, .int x1), (2, .int x2), (3, .int x3), (4, .int x4)]) => ?_)
  refine lv_iconst (v := ((-1):Int32)) hx hb dX12_byFrames_89 (by decide) ?_
  refine lv_istore hx hb dX12_byFrames_90 hl (Nat.le_of_ble_eq_true rfl) rfl (fun ls (hl : lv_has ls 16 [(7, .int ((-1):Int32)), (6, .int y0), (0, .ref mb), (1, .int x1), (2, .int x2), (3, .int x3), (4, .int x4)]) => ?_)
  refine lv_iconst (v := ((-1):Int32)) hx hb dX12_byFrames_92 (by decide) ?_
  refine lv_istore hx hb dX12_byFrames_93 hl (Nat.le_of_ble_eq_true rfl) rfl (fun ls (hl : lv_has ls 16 [(8, .int ((-1):Int32)), (7, .int ((-1):Int32)), (6, .int y0), (0, .ref mb), (1, .int x1), (2, .int x2), (3, .int x3), (4, .int x4)]) => ?_)
  refine lv_iconst (v := (0:Int32)) hx hb dX12_byFrames_95 (by decide) ?_
  refine lv_istore hx hb dX12_byFrames_96 hl (Nat.le_of_ble_eq_true rfl) rfl (fun ls (hl : lv_has ls 16 [(9, .int (0:Int32)), (8, .int ((-1):Int32)), (7, .int ((-1):Int32)), (6, .int y0), (0, .ref mb), (1, .int x1), (2, .int x2), (3, .int x3), (4, .int x4)]) => ?_)
  exact N_byFrames_98 X hP (lv_sub hl [4, 5, 6, 7, 8, 3, 2, 1, 0] rfl) h
set_option maxRecDepth 20000 in
set_option maxHeartbeats 4000000 in
theorem N_byFrames_85 {p : Program} {l : Launch} {e : Env} {s : State} {m : MethodId} {args : Array Value} {below : List Frame} {meth : Method} {c : Code} {D : mD} {mb : Nat}   {x1 : Int32} {x2 : Int32} {x3 : Int32} {x4 : Int32} {x6 : Int32} {σ : mS} {ls : Array Slot} {r : Int32} (X : mX p s m args meth c cX12_byFrames 16 (some .int) D) (hP : mP D mb σ s.heap)  (hl : lv_has ls 16 [(0, .ref mb), (1, .int x1), (2, .int x2), (3, .int x3), (4, .int x4), (6, .int x6)]) (h : f_byFrames_85  x1 x2 x3 x4 x6 σ = some r) : mWr p l e 0 0 s m args below meth c (some (.int r)) (F0 m 85 ls []) := by
  have hx := X.1
  have hb := X.2.1
  have hown := X.2.2.2.1
  have hts := X.2.2.2.2.1
  have h : (f_byFrames_87 (x1) (x2) (x3) (x4) (x6) σ) = some r := h
  refine lv_iload hx hb dX12_byFrames_85 (lv_at hl 5 rfl) ?_
  exact N_byFrames_87 X hP (lv_sub hl [0, 1, 2, 3, 4] rfl) h
set_option maxRecDepth 20000 in
set_option maxHeartbeats 4000000 in
theorem K_byFrames (l : Launch) (D : mD) (mb : Nat) (σ : mS) (x1 : Int32) (x2 : Int32) {r : Int32} (h : f_byFrames x1 x2 σ = some r) : Met l yX12_byFrames (Cond.code yX12_byFrames cX12_byFrames 16 (some .int) :: BG) (rM 0 0) (mPc D mb σ [.int x1, .int x2]) (mQr (some (.int r))) 0 0 (fun _ => False) := by
  refine Met.ofW (cc := cX12_byFrames) (maxL := 16) (ret := (some .int)) (by decide) rfl ?_
  intro p e s m args below meth c s₁ B hml hv
  obtain ⟨rfl, hP, hK⟩ := hv
  have X := mX_of B hml rfl hK
  have hx := X.1
  have hb := X.2.1
  have hown := X.2.2.2.1
  have hts := X.2.2.2.2.1
  have hl := lv_entry (.ref mb :: [.int x1, .int x2]) (n := 16) (Nat.le_of_ble_eq_true rfl)
  rw [lg_entry_eq]
  generalize (lg_sl (.ref mb :: [.int x1, .int x2]) ++ List.replicate (16 - (lg_sl (.ref mb :: [.int x1, .int x2])).length) Slot.unset).toArray = ls at hl ⊢
  have hl : lv_has ls 16 [(0, .ref mb), (1, .int x1), (2, .int x2)] := hl
  show mWr p l e 0 0 s m (Value.ref mb :: [.int x1, .int x2]).toArray below meth c (some (.int r)) (F0 m 0 ls [])
  have h : ((rd σ 43 (((12:Int32) * x1) + (11:Int32))).bind (fun v1 => (rd σ 59 x1).bind (fun v2 => (rd σ 60 v1).bind (fun v3 => (rm ((σ.2 54) - v2) v3).bind (fun v4 => (rd σ 62 v1).bind (fun v5 => if v5 = (1:Int32) then ((rd σ 60 v1).bind (fun v6 => (dv ((σ.2 54) - v2) v6).bind (fun v7 => (rm v7 (2:Int32)).bind (fun v8 => if v8 = (1:Int32) then ((rd σ 60 v1).bind (fun v9 => f_byFrames_87 (x1) (x2) (v1) ((((55:Int32) * v1) + ((11:Int32) * x2))) ((v9 - v4)) σ)) else (f_byFrames_85 (x1) (x2) (v1) ((((55:Int32) * v1) + ((11:Int32) * x2))) (v4) σ))))) else (f_byFrames_85 (x1) (x2) (v1) ((((55:Int32) * v1) + ((11:Int32) * x2))) (v4) σ))))))) = some r := h
  refine lv_aload_n hx hb dX12_byFrames_0 rfl (lv_at hl 0 rfl) ?_
  refine mg_val X hP dX12_byFrames_1 ?_
  refine lv_bipush (v := (12:Int32)) hx hb dX12_byFrames_4 (by decide) ?_
  refine lv_iload_n hx hb dX12_byFrames_6 rfl (lv_at hl 1 rfl) ?_
  refine lv_imul hx hb dX12_byFrames_7 ?_
  refine lv_bipush (v := (11:Int32)) hx hb dX12_byFrames_8 (by decide) ?_
  refine lv_iadd hx hb dX12_byFrames_10 ?_
  obtain ⟨v1, hv1, h⟩ := ob h
  refine m_ald X hP hv1 dX12_byFrames_11 ?_
  refine lv_istore_n hx hb dX12_byFrames_12 rfl hl (Nat.le_of_ble_eq_true rfl) rfl (fun ls (hl : lv_has ls 16 [(3, .int v1), (0, .ref mb), (1, .int x1), (2, .int x2)]) => ?_)
  refine lv_bipush (v := (55:Int32)) hx hb dX12_byFrames_13 (by decide) ?_
  refine lv_iload_n hx hb dX12_byFrames_15 rfl (lv_at hl 0 rfl) ?_
  refine lv_imul hx hb dX12_byFrames_16 ?_
  refine lv_bipush (v := (11:Int32)) hx hb dX12_byFrames_17 (by decide) ?_
  refine lv_iload_n hx hb dX12_byFrames_19 rfl (lv_at hl 3 rfl) ?_
  refine lv_imul hx hb dX12_byFrames_20 ?_
  refine lv_iadd hx hb dX12_byFrames_21 ?_
  refine lv_istore hx hb dX12_byFrames_22 hl (Nat.le_of_ble_eq_true rfl) rfl (fun ls (hl : lv_has ls 16 [(4, .int (((55:Int32) * v1) + ((11:Int32) * x2))), (3, .int v1), (0, .ref mb), (1, .int x1), (2, .int x2)]) => ?_)
  refine lv_aload_n hx hb dX12_byFrames_24 rfl (lv_at hl 2 rfl) ?_
  refine mg_now X hP dX12_byFrames_25 ?_
  refine lv_aload_n hx hb dX12_byFrames_28 rfl (lv_at hl 2 rfl) ?_
  refine mg_an X hP dX12_byFrames_29 ?_
  refine lv_iload_n hx hb dX12_byFrames_32 rfl (lv_at hl 3 rfl) ?_
  obtain ⟨v2, hv2, h⟩ := ob h
  refine m_ald X hP hv2 dX12_byFrames_33 ?_
  refine lv_isub hx hb dX12_byFrames_34 ?_
  refine lv_istore hx hb dX12_byFrames_35 hl (Nat.le_of_ble_eq_true rfl) rfl (fun ls (hl : lv_has ls 16 [(5, .int ((σ.2 54) - v2)), (4, .int (((55:Int32) * v1) + ((11:Int32) * x2))), (3, .int v1), (0, .ref mb), (1, .int x1), (2, .int x2)]) => ?_)
  refine lv_iload hx hb dX12_byFrames_37 (lv_at hl 0 rfl) ?_
  refine lv_aload_n hx hb dX12_byFrames_39 rfl (lv_at hl 3 rfl) ?_
  refine mg_al X hP dX12_byFrames_40 ?_
  refine lv_iload_n hx hb dX12_byFrames_43 rfl (lv_at hl 2 rfl) ?_
  obtain ⟨v3, hv3, h⟩ := ob h
  refine m_ald X hP hv3 dX12_byFrames_44 ?_
  obtain ⟨v4, hv4, h⟩ := ob h
  obtain ⟨hnv4, hev4⟩ := rm_spec hv4
  refine lv_irem hx hb dX12_byFrames_45 hnv4 ?_
  rw [hev4]
  refine lv_istore hx hb dX12_byFrames_46 hl (Nat.le_of_ble_eq_true rfl) rfl (fun ls (hl : lv_has ls 16 [(6, .int v4), (5, .int ((σ.2 54) - v2)), (4, .int (((55:Int32) * v1) + ((11:Int32) * x2))), (3, .int v1), (0, .ref mb), (1, .int x1), (2, .int x2)]) => ?_)
  refine lv_aload_n hx hb dX12_byFrames_48 rfl (lv_at hl 4 rfl) ?_
  refine mg_aw X hP dX12_byFrames_49 ?_
  refine lv_iload_n hx hb dX12_byFrames_52 rfl (lv_at hl 3 rfl) ?_
  obtain ⟨v5, hv5, h⟩ := ob h
  refine m_ald X hP hv5 dX12_byFrames_53 ?_
  refine lv_iconst (v := (1:Int32)) hx hb dX12_byFrames_54 (by decide) ?_
  refine lv_icmp_ne (tgt := 85) hx hb dX12_byFrames_55 rfl (fun hc => ?_) (fun hc => ?_)
  · have h := ine hc h
    exact N_byFrames_85 X hP (lv_sub hl [4, 5, 6, 3, 2, 0] rfl) h
  · have h := ip hc h
    refine lv_iload hx hb dX12_byFrames_58 (lv_at hl 1 rfl) ?_
    refine lv_aload_n hx hb dX12_byFrames_60 rfl (lv_at hl 4 rfl) ?_
    refine mg_al X hP dX12_byFrames_61 ?_
    refine lv_iload_n hx hb dX12_byFrames_64 rfl (lv_at hl 3 rfl) ?_
    obtain ⟨v6, hv6, h⟩ := ob h
    refine m_ald X hP hv6 dX12_byFrames_65 ?_
    obtain ⟨v7, hv7, h⟩ := ob h
    obtain ⟨hnv7, hev7⟩ := dv_spec hv7
    refine lv_idiv hx hb dX12_byFrames_66 hnv7 ?_
    rw [hev7]
    refine lv_iconst (v := (2:Int32)) hx hb dX12_byFrames_67 (by decide) ?_
    obtain ⟨v8, hv8, h⟩ := ob h
    obtain ⟨hnv8, hev8⟩ := rm_spec hv8
    refine lv_irem hx hb dX12_byFrames_68 hnv8 ?_
    rw [hev8]
    refine lv_iconst (v := (1:Int32)) hx hb dX12_byFrames_69 (by decide) ?_
    refine lv_icmp_ne (tgt := 85) hx hb dX12_byFrames_70 rfl (fun hc => ?_) (fun hc => ?_)
    · have h := ine hc h
      exact N_byFrames_85 X hP (lv_sub hl [4, 5, 6, 3, 2, 0] rfl) h
    · have h := ip hc h
      refine lv_aload_n hx hb dX12_byFrames_73 rfl (lv_at hl 4 rfl) ?_
      refine mg_al X hP dX12_byFrames_74 ?_
      refine lv_iload_n hx hb dX12_byFrames_77 rfl (lv_at hl 3 rfl) ?_
      obtain ⟨v9, hv9, h⟩ := ob h
      refine m_ald X hP hv9 dX12_byFrames_78 ?_
      refine lv_iload hx hb dX12_byFrames_79 (lv_at hl 0 rfl) ?_
      refine lv_isub hx hb dX12_byFrames_81 ?_
      refine lv_goto (tgt := 87) hx hb dX12_byFrames_82 rfl ?_
      exact N_byFrames_87 X hP (lv_sub hl [4, 5, 6, 3, 2] rfl) h
theorem cl_byFrames {p : Program} {l : Launch} {e : Env} {s : State} {m : MethodId} {args : Array Value} {below : List Frame} {meth : Method} {c : Code} {D : mD} {mb : Nat} {H : Heap} {locs : List Loc} {Q : State → Prop} {cc : ByteArray} {pc fR lR nL : Nat} {ls : Array Slot} {rest : List Value} {ret : Option FieldType} {σ : mS} (X : mX p s m args meth c cc nL ret D) (hP : mP D mb σ H) {x1 : Int32} {x2 : Int32} {r : Int32} (h : f_byFrames x1 x2 σ = some r) (hr : 0 + 1 ≤ fR ∧ 8 + (16 + 11) + 0 ≤ lR) (hl : ls.size = nL) (hW : (rest.map fun v => v.category).sum ≤ 8) (hdg : decode cc pc = .ok (.invokevirtual 425, 3)) (kk : W p l e (rM fR lR) s m args below meth c H locs 0 0 Q (F0 m (pc + 3) ls (.int r :: rest))) : W p l e (rM fR lR) s m args below meth c H locs 0 0 Q (F0 m pc ls (.int x2 :: .int x1 :: .ref mb :: rest)) := m_cr (m_run (n := 2) X (K_byFrames l D mb σ x1 x2 h) ⟨w_2171, w_2173, w_113, w_2174⟩ (hyX rfl (by decide +kernel)) rfl hr hP hl hW hdg rfl) kk
-- plays(II)Z
def f_plays_119  (y0 : Int32) (σ : mS) : Option (Int32) := rz y0
def f_plays_118   (σ : mS) : Option (Int32) := f_plays_119 ((0:Int32)) σ
def f_plays_73  (x1 : Int32) (x3 : Int32) (x4 : Int32) (σ : mS) : Option (Int32) := if x4 = (0:Int32) then (f_plays_118 σ) else ((rd σ 59 x1).bind (fun v1 => if v1 < (0:Int32) then (f_plays_118 σ) else ((rd σ 59 x1).bind (fun v2 => (rd σ 60 x3).bind (fun v3 => (rd σ 61 x3).bind (fun v4 => if (v3 * v4) ≤ ((σ.2 54) - v2) then (f_plays_118 σ) else (f_plays_119 ((1:Int32)) σ)))))))
def f_plays_64 (k19 : Int32 → Int32 → Int32 → Int32 → Int32 → Option (Int32)) (x1 : Int32) (x2 : Int32) (x3 : Int32) (x5 : Int32) (y0 : Int32) (y1 : Int32) (σ : mS) : Option (Int32) := k19 (x1) (x2) (x3) ((y0 ||| y1)) ((x5 + (1:Int32)))
def f_plays_19  : Nat → Int32 → Int32 → Int32 → Int32 → Int32 → mS → Option (Int32)
  | 0, _, _, _, _, _, _ => none
  | n + 1, x1, x2, x3, x4, x5, σ => if (11:Int32) ≤ x5 then (f_plays_73 (x1) (x3) (x4) σ) else ((f_in (x3) ((0:Int32)) ((3:Int32))).bind (fun v1 => if v1 = (0:Int32) then (f_plays_73 (x1) (x3) (x4) σ) else ((rd σ 63 ((((55:Int32) * x3) + ((11:Int32) * x2)) + x5)).bind (fun v2 => if v2 = (1:Int32) then (f_plays_64 (fun z0 z1 z2 z3 z4 => f_plays_19 n z0 z1 z2 z3 z4 σ) (x1) (x2) (x3) (x5) (x4) ((1:Int32)) σ) else (f_plays_64 (fun z0 z1 z2 z3 z4 => f_plays_19 n z0 z1 z2 z3 z4 σ) (x1) (x2) (x3) (x5) (x4) ((0:Int32)) σ)))))
def f_plays (x1 : Int32) (x2 : Int32) (σ : mS) : Option (Int32) := (rd σ 43 (((12:Int32) * x1) + (11:Int32))).bind (fun v1 => f_plays_19 4000 (x1) (x2) (v1) ((0:Int32)) ((0:Int32)) σ)
set_option maxRecDepth 20000 in
set_option maxHeartbeats 4000000 in
theorem N_plays_119 {p : Program} {l : Launch} {e : Env} {s : State} {m : MethodId} {args : Array Value} {below : List Frame} {meth : Method} {c : Code} {D : mD} {mb : Nat}   {y0 : Int32} {σ : mS} {ls : Array Slot} {r : Int32} (X : mX p s m args meth c cX12_plays 6 (some .boolean) D) (hP : mP D mb σ s.heap)  (hl : lv_has ls 6 [(0, .ref mb)]) (h : f_plays_119  y0 σ = some r) : mWr p l e 1 23 s m args below meth c (some (.int r)) (F0 m 119 ls [.int y0]) := by
  have hx := X.1
  have hb := X.2.1
  have hown := X.2.2.2.1
  have hts := X.2.2.2.2.1
  have h : (rz y0) = some r := h
  obtain ⟨hz, rfl⟩ := rz_spec h
  exact m_rz X hz dX12_plays_119
set_option maxRecDepth 20000 in
set_option maxHeartbeats 4000000 in
theorem N_plays_118 {p : Program} {l : Launch} {e : Env} {s : State} {m : MethodId} {args : Array Value} {below : List Frame} {meth : Method} {c : Code} {D : mD} {mb : Nat}    {σ : mS} {ls : Array Slot} {r : Int32} (X : mX p s m args meth c cX12_plays 6 (some .boolean) D) (hP : mP D mb σ s.heap)  (hl : lv_has ls 6 [(0, .ref mb)]) (h : f_plays_118   σ = some r) : mWr p l e 1 23 s m args below meth c (some (.int r)) (F0 m 118 ls []) := by
  have hx := X.1
  have hb := X.2.1
  have hown := X.2.2.2.1
  have hts := X.2.2.2.2.1
  have h : (f_plays_119 ((0:Int32)) σ) = some r := h
  refine lv_iconst (v := (0:Int32)) hx hb dX12_plays_118 (by decide) ?_
  exact N_plays_119 X hP (lv_sub hl [0] rfl) h
set_option maxRecDepth 20000 in
set_option maxHeartbeats 4000000 in
theorem N_plays_73 {p : Program} {l : Launch} {e : Env} {s : State} {m : MethodId} {args : Array Value} {below : List Frame} {meth : Method} {c : Code} {D : mD} {mb : Nat}   {x1 : Int32} {x3 : Int32} {x4 : Int32} {σ : mS} {ls : Array Slot} {r : Int32} (X : mX p s m args meth c cX12_plays 6 (some .boolean) D) (hP : mP D mb σ s.heap)  (hl : lv_has ls 6 [(0, .ref mb), (1, .int x1), (3, .int x3), (4, .int x4)]) (h : f_plays_73  x1 x3 x4 σ = some r) : mWr p l e 1 23 s m args below meth c (some (.int r)) (F0 m 73 ls []) := by
  have hx := X.1
  have hb := X.2.1
  have hown := X.2.2.2.1
  have hts := X.2.2.2.2.1
  have h : (if x4 = (0:Int32) then (f_plays_118 σ) else ((rd σ 59 x1).bind (fun v1 => if v1 < (0:Int32) then (f_plays_118 σ) else ((rd σ 59 x1).bind (fun v2 => (rd σ 60 x3).bind (fun v3 => (rd σ 61 x3).bind (fun v4 => if (v3 * v4) ≤ ((σ.2 54) - v2) then (f_plays_118 σ) else (f_plays_119 ((1:Int32)) σ)))))))) = some r := h
  refine lv_iload hx hb dX12_plays_73 (lv_at hl 3 rfl) ?_
  refine lv_if_eq (tgt := 118) hx hb dX12_plays_75 rfl (fun hc => ?_) (fun hc => ?_)
  · have h := ip hc h
    exact N_plays_118 X hP (lv_sub hl [0] rfl) h
  · have h := ine hc h
    refine lv_aload_n hx hb dX12_plays_78 rfl (lv_at hl 0 rfl) ?_
    refine mg_an X hP dX12_plays_79 ?_
    refine lv_iload_n hx hb dX12_plays_82 rfl (lv_at hl 1 rfl) ?_
    obtain ⟨v1, hv1, h⟩ := ob h
    refine m_ald X hP hv1 dX12_plays_83 ?_
    refine lv_if_lt (tgt := 118) hx hb dX12_plays_84 rfl (fun hc => ?_) (fun hc => ?_)
    · have h := ip hc h
      exact N_plays_118 X hP (lv_sub hl [0] rfl) h
    · have h := ine hc h
      refine lv_aload_n hx hb dX12_plays_87 rfl (lv_at hl 0 rfl) ?_
      refine mg_now X hP dX12_plays_88 ?_
      refine lv_aload_n hx hb dX12_plays_91 rfl (lv_at hl 0 rfl) ?_
      refine mg_an X hP dX12_plays_92 ?_
      refine lv_iload_n hx hb dX12_plays_95 rfl (lv_at hl 1 rfl) ?_
      obtain ⟨v2, hv2, h⟩ := ob h
      refine m_ald X hP hv2 dX12_plays_96 ?_
      refine lv_isub hx hb dX12_plays_97 ?_
      refine lv_aload_n hx hb dX12_plays_98 rfl (lv_at hl 0 rfl) ?_
      refine mg_al X hP dX12_plays_99 ?_
      refine lv_iload_n hx hb dX12_plays_102 rfl (lv_at hl 2 rfl) ?_
      obtain ⟨v3, hv3, h⟩ := ob h
      refine m_ald X hP hv3 dX12_plays_103 ?_
      refine lv_aload_n hx hb dX12_plays_104 rfl (lv_at hl 0 rfl) ?_
      refine mg_ar X hP dX12_plays_105 ?_
      refine lv_iload_n hx hb dX12_plays_108 rfl (lv_at hl 2 rfl) ?_
      obtain ⟨v4, hv4, h⟩ := ob h
      refine m_ald X hP hv4 dX12_plays_109 ?_
      refine lv_imul hx hb dX12_plays_110 ?_
      refine lv_icmp_ge (tgt := 118) hx hb dX12_plays_111 rfl (fun hc => ?_) (fun hc => ?_)
      · have h := ip hc h
        exact N_plays_118 X hP (lv_sub hl [0] rfl) h
      · have h := ine hc h
        refine lv_iconst (v := (1:Int32)) hx hb dX12_plays_114 (by decide) ?_
        refine lv_goto (tgt := 119) hx hb dX12_plays_115 rfl ?_
        exact N_plays_119 X hP (lv_sub hl [0] rfl) h
set_option maxRecDepth 20000 in
set_option maxHeartbeats 4000000 in
theorem N_plays_64 {p : Program} {l : Launch} {e : Env} {s : State} {m : MethodId} {args : Array Value} {below : List Frame} {meth : Method} {c : Code} {D : mD} {mb : Nat} {k19 : Int32 → Int32 → Int32 → Int32 → Int32 → Option (Int32)}  {x1 : Int32} {x2 : Int32} {x3 : Int32} {x5 : Int32} {y0 : Int32} {y1 : Int32} {σ : mS} {ls : Array Slot} {r : Int32} (X : mX p s m args meth c cX12_plays 6 (some .boolean) D) (hP : mP D mb σ s.heap) (hk19 : ∀ {x1 : Int32} {x2 : Int32} {x3 : Int32} {x4 : Int32} {x5 : Int32} {ls : Array Slot}, lv_has ls 6 [(0, .ref mb), (1, .int x1), (2, .int x2), (3, .int x3), (4, .int x4), (5, .int x5)] → k19 x1 x2 x3 x4 x5 = some r → mWr p l e 1 23 s m args below meth c (some (.int r)) (F0 m 19 ls [])) (hl : lv_has ls 6 [(0, .ref mb), (1, .int x1), (2, .int x2), (3, .int x3), (5, .int x5)]) (h : f_plays_64 k19 x1 x2 x3 x5 y0 y1 σ = some r) : mWr p l e 1 23 s m args below meth c (some (.int r)) (F0 m 64 ls [.int y1, .int y0]) := by
  have hx := X.1
  have hb := X.2.1
  have hown := X.2.2.2.1
  have hts := X.2.2.2.2.1
  have h : (k19 (x1) (x2) (x3) ((y0 ||| y1)) ((x5 + (1:Int32)))) = some r := h
  refine lv_ior hx hb dX12_plays_64 ?_
  refine lv_istore hx hb dX12_plays_65 hl (Nat.le_of_ble_eq_true rfl) rfl (fun ls (hl : lv_has ls 6 [(4, .int (y0 ||| y1)), (0, .ref mb), (1, .int x1), (2, .int x2), (3, .int x3), (5, .int x5)]) => ?_)
  refine lv_iinc (v := (x5 + (1:Int32))) hx hb dX12_plays_67 hl (k := 5) rfl rfl (Nat.le_of_ble_eq_true rfl) rfl (fun ls (hl : lv_has ls 6 [(5, .int (x5 + (1:Int32))), (4, .int (y0 ||| y1)), (0, .ref mb), (1, .int x1), (2, .int x2), (3, .int x3)]) => ?_)
  refine lv_goto (tgt := 19) hx hb dX12_plays_70 rfl ?_
  exact hk19 (lv_sub hl [2, 3, 4, 5, 1, 0] rfl) h
set_option maxRecDepth 20000 in
set_option maxHeartbeats 4000000 in
theorem N_plays_19 {p : Program} {l : Launch} {e : Env} {s : State} {m : MethodId} {args : Array Value} {below : List Frame} {meth : Method} {c : Code} {D : mD} {mb : Nat}  {n : Nat} {x1 : Int32} {x2 : Int32} {x3 : Int32} {x4 : Int32} {x5 : Int32} {σ : mS} {ls : Array Slot} {r : Int32} (X : mX p s m args meth c cX12_plays 6 (some .boolean) D) (hP : mP D mb σ s.heap)  (hl : lv_has ls 6 [(0, .ref mb), (1, .int x1), (2, .int x2), (3, .int x3), (4, .int x4), (5, .int x5)]) (h : f_plays_19  n x1 x2 x3 x4 x5 σ = some r) : mWr p l e 1 23 s m args below meth c (some (.int r)) (F0 m 19 ls []) := by
  have hx := X.1
  have hb := X.2.1
  have hown := X.2.2.2.1
  have hts := X.2.2.2.2.1
  induction n generalizing x1 x2 x3 x4 x5 ls with
  | zero => exact absurd (show none = some r from h) (by simp)
  | succ n ih =>
    have h : (if (11:Int32) ≤ x5 then (f_plays_73 (x1) (x3) (x4) σ) else ((f_in (x3) ((0:Int32)) ((3:Int32))).bind (fun v1 => if v1 = (0:Int32) then (f_plays_73 (x1) (x3) (x4) σ) else ((rd σ 63 ((((55:Int32) * x3) + ((11:Int32) * x2)) + x5)).bind (fun v2 => if v2 = (1:Int32) then (f_plays_64 (fun z0 z1 z2 z3 z4 => f_plays_19 n z0 z1 z2 z3 z4 σ) (x1) (x2) (x3) (x5) (x4) ((1:Int32)) σ) else (f_plays_64 (fun z0 z1 z2 z3 z4 => f_plays_19 n z0 z1 z2 z3 z4 σ) (x1) (x2) (x3) (x5) (x4) ((0:Int32)) σ)))))) = some r := h
    refine lv_iload hx hb dX12_plays_19 (lv_at hl 5 rfl) ?_
    refine lv_bipush (v := (11:Int32)) hx hb dX12_plays_21 (by decide) ?_
    refine lv_icmp_ge (tgt := 73) hx hb dX12_plays_23 rfl (fun hc => ?_) (fun hc => ?_)
    · have h := ip hc h
      exact N_plays_73 X hP (lv_sub hl [0, 1, 3, 4] rfl) h
    · have h := ine hc h
      refine lv_aload_n hx hb dX12_plays_26 rfl (lv_at hl 0 rfl) ?_
      refine lv_iload_n hx hb dX12_plays_27 rfl (lv_at hl 3 rfl) ?_
      refine lv_iconst (v := (0:Int32)) hx hb dX12_plays_28 (by decide) ?_
      refine lv_iconst (v := (3:Int32)) hx hb dX12_plays_29 (by decide) ?_
      obtain ⟨v1, hv1, h⟩ := ob h
      refine cl_in X hP hv1 ⟨Nat.le_of_ble_eq_true rfl, Nat.le_of_ble_eq_true rfl⟩ hl.1 (Nat.le_of_ble_eq_true rfl) dX12_plays_30 ?_
      refine lv_if_eq (tgt := 73) hx hb dX12_plays_33 rfl (fun hc => ?_) (fun hc => ?_)
      · have h := ip hc h
        exact N_plays_73 X hP (lv_sub hl [0, 1, 3, 4] rfl) h
      · have h := ine hc h
        refine lv_iload hx hb dX12_plays_36 (lv_at hl 4 rfl) ?_
        refine lv_aload_n hx hb dX12_plays_38 rfl (lv_at hl 0 rfl) ?_
        refine mg_fs X hP dX12_plays_39 ?_
        refine lv_bipush (v := (55:Int32)) hx hb dX12_plays_42 (by decide) ?_
        refine lv_iload_n hx hb dX12_plays_44 rfl (lv_at hl 3 rfl) ?_
        refine lv_imul hx hb dX12_plays_45 ?_
        refine lv_bipush (v := (11:Int32)) hx hb dX12_plays_46 (by decide) ?_
        refine lv_iload_n hx hb dX12_plays_48 rfl (lv_at hl 2 rfl) ?_
        refine lv_imul hx hb dX12_plays_49 ?_
        refine lv_iadd hx hb dX12_plays_50 ?_
        refine lv_iload hx hb dX12_plays_51 (lv_at hl 5 rfl) ?_
        refine lv_iadd hx hb dX12_plays_53 ?_
        obtain ⟨v2, hv2, h⟩ := ob h
        refine m_ald X hP hv2 dX12_plays_54 ?_
        refine lv_iconst (v := (1:Int32)) hx hb dX12_plays_55 (by decide) ?_
        refine lv_icmp_ne (tgt := 63) hx hb dX12_plays_56 rfl (fun hc => ?_) (fun hc => ?_)
        · have h := ine hc h
          refine lv_iconst (v := (0:Int32)) hx hb dX12_plays_63 (by decide) ?_
          exact N_plays_64 X hP ih (lv_sub hl [0, 1, 2, 3, 5] rfl) h
        · have h := ip hc h
          refine lv_iconst (v := (1:Int32)) hx hb dX12_plays_59 (by decide) ?_
          refine lv_goto (tgt := 64) hx hb dX12_plays_60 rfl ?_
          exact N_plays_64 X hP ih (lv_sub hl [0, 1, 2, 3, 5] rfl) h
set_option maxRecDepth 20000 in
set_option maxHeartbeats 4000000 in
theorem K_plays (l : Launch) (D : mD) (mb : Nat) (σ : mS) (x1 : Int32) (x2 : Int32) {r : Int32} (h : f_plays x1 x2 σ = some r) : Met l yX12_plays (Cond.code yX12_plays cX12_plays 6 (some .boolean) :: BG) (rM 1 23) (mPc D mb σ [.int x1, .int x2]) (mQr (some (.int r))) 0 0 (fun _ => False) := by
  refine Met.ofW (cc := cX12_plays) (maxL := 6) (ret := (some .boolean)) (by decide) rfl ?_
  intro p e s m args below meth c s₁ B hml hv
  obtain ⟨rfl, hP, hK⟩ := hv
  have X := mX_of B hml rfl hK
  have hx := X.1
  have hb := X.2.1
  have hown := X.2.2.2.1
  have hts := X.2.2.2.2.1
  have hl := lv_entry (.ref mb :: [.int x1, .int x2]) (n := 6) (Nat.le_of_ble_eq_true rfl)
  rw [lg_entry_eq]
  generalize (lg_sl (.ref mb :: [.int x1, .int x2]) ++ List.replicate (6 - (lg_sl (.ref mb :: [.int x1, .int x2])).length) Slot.unset).toArray = ls at hl ⊢
  have hl : lv_has ls 6 [(0, .ref mb), (1, .int x1), (2, .int x2)] := hl
  show mWr p l e 1 23 s m (Value.ref mb :: [.int x1, .int x2]).toArray below meth c (some (.int r)) (F0 m 0 ls [])
  have h : ((rd σ 43 (((12:Int32) * x1) + (11:Int32))).bind (fun v1 => f_plays_19 4000 (x1) (x2) (v1) ((0:Int32)) ((0:Int32)) σ)) = some r := h
  refine lv_aload_n hx hb dX12_plays_0 rfl (lv_at hl 0 rfl) ?_
  refine mg_val X hP dX12_plays_1 ?_
  refine lv_bipush (v := (12:Int32)) hx hb dX12_plays_4 (by decide) ?_
  refine lv_iload_n hx hb dX12_plays_6 rfl (lv_at hl 1 rfl) ?_
  refine lv_imul hx hb dX12_plays_7 ?_
  refine lv_bipush (v := (11:Int32)) hx hb dX12_plays_8 (by decide) ?_
  refine lv_iadd hx hb dX12_plays_10 ?_
  obtain ⟨v1, hv1, h⟩ := ob h
  refine m_ald X hP hv1 dX12_plays_11 ?_
  refine lv_istore_n hx hb dX12_plays_12 rfl hl (Nat.le_of_ble_eq_true rfl) rfl (fun ls (hl : lv_has ls 6 [(3, .int v1), (0, .ref mb), (1, .int x1), (2, .int x2)]) => ?_)
  refine lv_iconst (v := (0:Int32)) hx hb dX12_plays_13 (by decide) ?_
  refine lv_istore hx hb dX12_plays_14 hl (Nat.le_of_ble_eq_true rfl) rfl (fun ls (hl : lv_has ls 6 [(4, .int (0:Int32)), (3, .int v1), (0, .ref mb), (1, .int x1), (2, .int x2)]) => ?_)
  refine lv_iconst (v := (0:Int32)) hx hb dX12_plays_16 (by decide) ?_
  refine lv_istore hx hb dX12_plays_17 hl (Nat.le_of_ble_eq_true rfl) rfl (fun ls (hl : lv_has ls 6 [(5, .int (0:Int32)), (4, .int (0:Int32)), (3, .int v1), (0, .ref mb), (1, .int x1), (2, .int x2)]) => ?_)
  exact N_plays_19 X hP (lv_sub hl [3, 4, 5, 2, 1, 0] rfl) h
theorem cl_plays {p : Program} {l : Launch} {e : Env} {s : State} {m : MethodId} {args : Array Value} {below : List Frame} {meth : Method} {c : Code} {D : mD} {mb : Nat} {H : Heap} {locs : List Loc} {Q : State → Prop} {cc : ByteArray} {pc fR lR nL : Nat} {ls : Array Slot} {rest : List Value} {ret : Option FieldType} {σ : mS} (X : mX p s m args meth c cc nL ret D) (hP : mP D mb σ H) {x1 : Int32} {x2 : Int32} {r : Int32} (h : f_plays x1 x2 σ = some r) (hr : 1 + 1 ≤ fR ∧ 8 + (6 + 11) + 23 ≤ lR) (hl : ls.size = nL) (hW : (rest.map fun v => v.category).sum ≤ 8) (hdg : decode cc pc = .ok (.invokevirtual 422, 3)) (kk : W p l e (rM fR lR) s m args below meth c H locs 0 0 Q (F0 m (pc + 3) ls (.int r :: rest))) : W p l e (rM fR lR) s m args below meth c H locs 0 0 Q (F0 m pc ls (.int x2 :: .int x1 :: .ref mb :: rest)) := m_cr (m_run (n := 2) X (K_plays l D mb σ x1 x2 h) ⟨w_2167, w_2169, w_112, w_2170⟩ (hyX rfl (by decide +kernel)) rfl hr hP hl hW hdg rfl) kk
-- moves(II)Z
def f_moves_46  (y0 : Int32) (σ : mS) : Option (Int32) := rz y0
def f_moves_45   (σ : mS) : Option (Int32) := f_moves_46 ((0:Int32)) σ
def f_moves (x1 : Int32) (x2 : Int32) (σ : mS) : Option (Int32) := (rd σ 55 (((5:Int32) * x1) + x2)).bind (fun v1 => if v1 < (0:Int32) then (f_moves_45 σ) else ((rd σ 55 (((5:Int32) * x1) + x2)).bind (fun v2 => (rd σ 56 (((5:Int32) * x1) + x2)).bind (fun v3 => if v3 ≤ ((σ.2 54) - v2) then (f_moves_45 σ) else (f_moves_46 ((1:Int32)) σ)))))
set_option maxRecDepth 20000 in
set_option maxHeartbeats 4000000 in
theorem N_moves_46 {p : Program} {l : Launch} {e : Env} {s : State} {m : MethodId} {args : Array Value} {below : List Frame} {meth : Method} {c : Code} {D : mD} {mb : Nat}   {y0 : Int32} {σ : mS} {ls : Array Slot} {r : Int32} (X : mX p s m args meth c cX12_moves 3 (some .boolean) D) (hP : mP D mb σ s.heap)  (hl : lv_has ls 3 [(0, .ref mb)]) (h : f_moves_46  y0 σ = some r) : mWr p l e 0 0 s m args below meth c (some (.int r)) (F0 m 46 ls [.int y0]) := by
  have hx := X.1
  have hb := X.2.1
  have hown := X.2.2.2.1
  have hts := X.2.2.2.2.1
  have h : (rz y0) = some r := h
  obtain ⟨hz, rfl⟩ := rz_spec h
  exact m_rz X hz dX12_moves_46
set_option maxRecDepth 20000 in
set_option maxHeartbeats 4000000 in
theorem N_moves_45 {p : Program} {l : Launch} {e : Env} {s : State} {m : MethodId} {args : Array Value} {below : List Frame} {meth : Method} {c : Code} {D : mD} {mb : Nat}    {σ : mS} {ls : Array Slot} {r : Int32} (X : mX p s m args meth c cX12_moves 3 (some .boolean) D) (hP : mP D mb σ s.heap)  (hl : lv_has ls 3 [(0, .ref mb)]) (h : f_moves_45   σ = some r) : mWr p l e 0 0 s m args below meth c (some (.int r)) (F0 m 45 ls []) := by
  have hx := X.1
  have hb := X.2.1
  have hown := X.2.2.2.1
  have hts := X.2.2.2.2.1
  have h : (f_moves_46 ((0:Int32)) σ) = some r := h
  refine lv_iconst (v := (0:Int32)) hx hb dX12_moves_45 (by decide) ?_
  exact N_moves_46 X hP (lv_sub hl [0] rfl) h
set_option maxRecDepth 20000 in
set_option maxHeartbeats 4000000 in
theorem K_moves (l : Launch) (D : mD) (mb : Nat) (σ : mS) (x1 : Int32) (x2 : Int32) {r : Int32} (h : f_moves x1 x2 σ = some r) : Met l yX12_moves (Cond.code yX12_moves cX12_moves 3 (some .boolean) :: BG) (rM 0 0) (mPc D mb σ [.int x1, .int x2]) (mQr (some (.int r))) 0 0 (fun _ => False) := by
  refine Met.ofW (cc := cX12_moves) (maxL := 3) (ret := (some .boolean)) (by decide) rfl ?_
  intro p e s m args below meth c s₁ B hml hv
  obtain ⟨rfl, hP, hK⟩ := hv
  have X := mX_of B hml rfl hK
  have hx := X.1
  have hb := X.2.1
  have hown := X.2.2.2.1
  have hts := X.2.2.2.2.1
  have hl := lv_entry (.ref mb :: [.int x1, .int x2]) (n := 3) (Nat.le_of_ble_eq_true rfl)
  rw [lg_entry_eq]
  generalize (lg_sl (.ref mb :: [.int x1, .int x2]) ++ List.replicate (3 - (lg_sl (.ref mb :: [.int x1, .int x2])).length) Slot.unset).toArray = ls at hl ⊢
  have hl : lv_has ls 3 [(0, .ref mb), (1, .int x1), (2, .int x2)] := hl
  show mWr p l e 0 0 s m (Value.ref mb :: [.int x1, .int x2]).toArray below meth c (some (.int r)) (F0 m 0 ls [])
  have h : ((rd σ 55 (((5:Int32) * x1) + x2)).bind (fun v1 => if v1 < (0:Int32) then (f_moves_45 σ) else ((rd σ 55 (((5:Int32) * x1) + x2)).bind (fun v2 => (rd σ 56 (((5:Int32) * x1) + x2)).bind (fun v3 => if v3 ≤ ((σ.2 54) - v2) then (f_moves_45 σ) else (f_moves_46 ((1:Int32)) σ)))))) = some r := h
  refine lv_aload_n hx hb dX12_moves_0 rfl (lv_at hl 0 rfl) ?_
  refine mg_trs X hP dX12_moves_1 ?_
  refine lv_iconst (v := (5:Int32)) hx hb dX12_moves_4 (by decide) ?_
  refine lv_iload_n hx hb dX12_moves_5 rfl (lv_at hl 1 rfl) ?_
  refine lv_imul hx hb dX12_moves_6 ?_
  refine lv_iload_n hx hb dX12_moves_7 rfl (lv_at hl 2 rfl) ?_
  refine lv_iadd hx hb dX12_moves_8 ?_
  obtain ⟨v1, hv1, h⟩ := ob h
  refine m_ald X hP hv1 dX12_moves_9 ?_
  refine lv_if_lt (tgt := 45) hx hb dX12_moves_10 rfl (fun hc => ?_) (fun hc => ?_)
  · have h := ip hc h
    exact N_moves_45 X hP (lv_sub hl [0] rfl) h
  · have h := ine hc h
    refine lv_aload_n hx hb dX12_moves_13 rfl (lv_at hl 0 rfl) ?_
    refine mg_now X hP dX12_moves_14 ?_
    refine lv_aload_n hx hb dX12_moves_17 rfl (lv_at hl 0 rfl) ?_
    refine mg_trs X hP dX12_moves_18 ?_
    refine lv_iconst (v := (5:Int32)) hx hb dX12_moves_21 (by decide) ?_
    refine lv_iload_n hx hb dX12_moves_22 rfl (lv_at hl 1 rfl) ?_
    refine lv_imul hx hb dX12_moves_23 ?_
    refine lv_iload_n hx hb dX12_moves_24 rfl (lv_at hl 2 rfl) ?_
    refine lv_iadd hx hb dX12_moves_25 ?_
    obtain ⟨v2, hv2, h⟩ := ob h
    refine m_ald X hP hv2 dX12_moves_26 ?_
    refine lv_isub hx hb dX12_moves_27 ?_
    refine lv_aload_n hx hb dX12_moves_28 rfl (lv_at hl 0 rfl) ?_
    refine mg_trn X hP dX12_moves_29 ?_
    refine lv_iconst (v := (5:Int32)) hx hb dX12_moves_32 (by decide) ?_
    refine lv_iload_n hx hb dX12_moves_33 rfl (lv_at hl 1 rfl) ?_
    refine lv_imul hx hb dX12_moves_34 ?_
    refine lv_iload_n hx hb dX12_moves_35 rfl (lv_at hl 2 rfl) ?_
    refine lv_iadd hx hb dX12_moves_36 ?_
    obtain ⟨v3, hv3, h⟩ := ob h
    refine m_ald X hP hv3 dX12_moves_37 ?_
    refine lv_icmp_ge (tgt := 45) hx hb dX12_moves_38 rfl (fun hc => ?_) (fun hc => ?_)
    · have h := ip hc h
      exact N_moves_45 X hP (lv_sub hl [0] rfl) h
    · have h := ine hc h
      refine lv_iconst (v := (1:Int32)) hx hb dX12_moves_41 (by decide) ?_
      refine lv_goto (tgt := 46) hx hb dX12_moves_42 rfl ?_
      exact N_moves_46 X hP (lv_sub hl [0] rfl) h
theorem cl_moves {p : Program} {l : Launch} {e : Env} {s : State} {m : MethodId} {args : Array Value} {below : List Frame} {meth : Method} {c : Code} {D : mD} {mb : Nat} {H : Heap} {locs : List Loc} {Q : State → Prop} {cc : ByteArray} {pc fR lR nL : Nat} {ls : Array Slot} {rest : List Value} {ret : Option FieldType} {σ : mS} (X : mX p s m args meth c cc nL ret D) (hP : mP D mb σ H) {x1 : Int32} {x2 : Int32} {r : Int32} (h : f_moves x1 x2 σ = some r) (hr : 0 + 1 ≤ fR ∧ 8 + (3 + 11) + 0 ≤ lR) (hl : ls.size = nL) (hW : (rest.map fun v => v.category).sum ≤ 8) (hdg : decode cc pc = .ok (.invokevirtual 419, 3)) (kk : W p l e (rM fR lR) s m args below meth c H locs 0 0 Q (F0 m (pc + 3) ls (.int r :: rest))) : W p l e (rM fR lR) s m args below meth c H locs 0 0 Q (F0 m pc ls (.int x2 :: .int x1 :: .ref mb :: rest)) := m_cr (m_run (n := 2) X (K_moves l D mb σ x1 x2 h) ⟨w_2163, w_2165, w_111, w_2166⟩ (hyX rfl (by decide +kernel)) rfl hr hP hl hW hdg rfl) kk
-- seenOf(II)I
def f_seenOf_102  (y0 : Int32) (σ : mS) : Option (Int32) := some y0
def f_seenOf_91  (x1 : Int32) (x2 : Int32) (σ : mS) : Option (Int32) := (rd σ 43 (((12:Int32) * x1) + x2)).bind (fun v1 => f_seenOf_102 (v1) σ)
def f_seenOf (x1 : Int32) (x2 : Int32) (σ : mS) : Option (Int32) := (f_moves (x1) (x2) σ).bind (fun v1 => if v1 = (0:Int32) then ((f_plays (x1) (x2) σ).bind (fun v2 => if v2 = (0:Int32) then (f_seenOf_91 (x1) (x2) σ) else ((rd σ 47 (((5:Int32) * x1) + x2)).bind (fun v3 => if v3 = (0:Int32) then ((f_byFrames (x1) (x2) σ).bind (fun v4 => f_seenOf_102 (v4) σ)) else (f_seenOf_91 (x1) (x2) σ))))) else ((rd σ 58 (((5:Int32) * x1) + x2)).bind (fun v5 => (rd σ 57 (((5:Int32) * x1) + x2)).bind (fun v6 => (rd σ 57 (((5:Int32) * x1) + x2)).bind (fun v7 => (rd σ 55 (((5:Int32) * x1) + x2)).bind (fun v8 => (rd σ 56 (((5:Int32) * x1) + x2)).bind (fun v9 => (ldv (((v5 - v6).toInt64) * (((σ.2 54) - v8).toInt64)) (v9.toInt64)).bind (fun v10 => some (((v7.toInt64) + v10).toInt32)))))))))
set_option maxRecDepth 20000 in
set_option maxHeartbeats 4000000 in
theorem N_seenOf_102 {p : Program} {l : Launch} {e : Env} {s : State} {m : MethodId} {args : Array Value} {below : List Frame} {meth : Method} {c : Code} {D : mD} {mb : Nat}   {y0 : Int32} {σ : mS} {ls : Array Slot} {r : Int32} (X : mX p s m args meth c cX12_seenOf 6 (some .int) D) (hP : mP D mb σ s.heap)  (hl : lv_has ls 6 [(0, .ref mb)]) (h : f_seenOf_102  y0 σ = some r) : mWr p l e 2 48 s m args below meth c (some (.int r)) (F0 m 102 ls [.int y0]) := by
  have hx := X.1
  have hb := X.2.1
  have hown := X.2.2.2.1
  have hts := X.2.2.2.2.1
  have h : (some y0) = some r := h
  obtain rfl := sj h
  exact m_ri X dX12_seenOf_102
set_option maxRecDepth 20000 in
set_option maxHeartbeats 4000000 in
theorem N_seenOf_91 {p : Program} {l : Launch} {e : Env} {s : State} {m : MethodId} {args : Array Value} {below : List Frame} {meth : Method} {c : Code} {D : mD} {mb : Nat}   {x1 : Int32} {x2 : Int32} {σ : mS} {ls : Array Slot} {r : Int32} (X : mX p s m args meth c cX12_seenOf 6 (some .int) D) (hP : mP D mb σ s.heap)  (hl : lv_has ls 6 [(0, .ref mb), (1, .int x1), (2, .int x2)]) (h : f_seenOf_91  x1 x2 σ = some r) : mWr p l e 2 48 s m args below meth c (some (.int r)) (F0 m 91 ls []) := by
  have hx := X.1
  have hb := X.2.1
  have hown := X.2.2.2.1
  have hts := X.2.2.2.2.1
  have h : ((rd σ 43 (((12:Int32) * x1) + x2)).bind (fun v1 => f_seenOf_102 (v1) σ)) = some r := h
  refine lv_aload_n hx hb dX12_seenOf_91 rfl (lv_at hl 0 rfl) ?_
  refine mg_val X hP dX12_seenOf_92 ?_
  refine lv_bipush (v := (12:Int32)) hx hb dX12_seenOf_95 (by decide) ?_
  refine lv_iload_n hx hb dX12_seenOf_97 rfl (lv_at hl 1 rfl) ?_
  refine lv_imul hx hb dX12_seenOf_98 ?_
  refine lv_iload_n hx hb dX12_seenOf_99 rfl (lv_at hl 2 rfl) ?_
  refine lv_iadd hx hb dX12_seenOf_100 ?_
  obtain ⟨v1, hv1, h⟩ := ob h
  refine m_ald X hP hv1 dX12_seenOf_101 ?_
  exact N_seenOf_102 X hP (lv_sub hl [0] rfl) h
set_option maxRecDepth 20000 in
set_option maxHeartbeats 4000000 in
theorem K_seenOf (l : Launch) (D : mD) (mb : Nat) (σ : mS) (x1 : Int32) (x2 : Int32) {r : Int32} (h : f_seenOf x1 x2 σ = some r) : Met l yX12_seenOf (Cond.code yX12_seenOf cX12_seenOf 6 (some .int) :: BG) (rM 2 48) (mPc D mb σ [.int x1, .int x2]) (mQr (some (.int r))) 0 0 (fun _ => False) := by
  refine Met.ofW (cc := cX12_seenOf) (maxL := 6) (ret := (some .int)) (by decide) rfl ?_
  intro p e s m args below meth c s₁ B hml hv
  obtain ⟨rfl, hP, hK⟩ := hv
  have X := mX_of B hml rfl hK
  have hx := X.1
  have hb := X.2.1
  have hown := X.2.2.2.1
  have hts := X.2.2.2.2.1
  have hl := lv_entry (.ref mb :: [.int x1, .int x2]) (n := 6) (Nat.le_of_ble_eq_true rfl)
  rw [lg_entry_eq]
  generalize (lg_sl (.ref mb :: [.int x1, .int x2]) ++ List.replicate (6 - (lg_sl (.ref mb :: [.int x1, .int x2])).length) Slot.unset).toArray = ls at hl ⊢
  have hl : lv_has ls 6 [(0, .ref mb), (1, .int x1), (2, .int x2)] := hl
  show mWr p l e 2 48 s m (Value.ref mb :: [.int x1, .int x2]).toArray below meth c (some (.int r)) (F0 m 0 ls [])
  have h : ((f_moves (x1) (x2) σ).bind (fun v1 => if v1 = (0:Int32) then ((f_plays (x1) (x2) σ).bind (fun v2 => if v2 = (0:Int32) then (f_seenOf_91 (x1) (x2) σ) else ((rd σ 47 (((5:Int32) * x1) + x2)).bind (fun v3 => if v3 = (0:Int32) then ((f_byFrames (x1) (x2) σ).bind (fun v4 => f_seenOf_102 (v4) σ)) else (f_seenOf_91 (x1) (x2) σ))))) else ((rd σ 58 (((5:Int32) * x1) + x2)).bind (fun v5 => (rd σ 57 (((5:Int32) * x1) + x2)).bind (fun v6 => (rd σ 57 (((5:Int32) * x1) + x2)).bind (fun v7 => (rd σ 55 (((5:Int32) * x1) + x2)).bind (fun v8 => (rd σ 56 (((5:Int32) * x1) + x2)).bind (fun v9 => (ldv (((v5 - v6).toInt64) * (((σ.2 54) - v8).toInt64)) (v9.toInt64)).bind (fun v10 => some (((v7.toInt64) + v10).toInt32)))))))))) = some r := h
  refine lv_iconst (v := (5:Int32)) hx hb dX12_seenOf_0 (by decide) ?_
  refine lv_iload_n hx hb dX12_seenOf_1 rfl (lv_at hl 1 rfl) ?_
  refine lv_imul hx hb dX12_seenOf_2 ?_
  refine lv_iload_n hx hb dX12_seenOf_3 rfl (lv_at hl 2 rfl) ?_
  refine lv_iadd hx hb dX12_seenOf_4 ?_
  refine lv_istore_n hx hb dX12_seenOf_5 rfl hl (Nat.le_of_ble_eq_true rfl) rfl (fun ls (hl : lv_has ls 6 [(3, .int (((5:Int32) * x1) + x2)), (0, .ref mb), (1, .int x1), (2, .int x2)]) => ?_)
  refine lv_aload_n hx hb dX12_seenOf_6 rfl (lv_at hl 1 rfl) ?_
  refine lv_iload_n hx hb dX12_seenOf_7 rfl (lv_at hl 2 rfl) ?_
  refine lv_iload_n hx hb dX12_seenOf_8 rfl (lv_at hl 3 rfl) ?_
  obtain ⟨v1, hv1, h⟩ := ob h
  refine cl_moves X hP hv1 ⟨Nat.le_of_ble_eq_true rfl, Nat.le_of_ble_eq_true rfl⟩ hl.1 (Nat.le_of_ble_eq_true rfl) dX12_seenOf_9 ?_
  refine lv_if_eq (tgt := 64) hx hb dX12_seenOf_12 rfl (fun hc => ?_) (fun hc => ?_)
  · have h := ip hc h
    refine lv_aload_n hx hb dX12_seenOf_64 rfl (lv_at hl 1 rfl) ?_
    refine lv_iload_n hx hb dX12_seenOf_65 rfl (lv_at hl 2 rfl) ?_
    refine lv_iload_n hx hb dX12_seenOf_66 rfl (lv_at hl 3 rfl) ?_
    obtain ⟨v2, hv2, h⟩ := ob h
    refine cl_plays X hP hv2 ⟨Nat.le_of_ble_eq_true rfl, Nat.le_of_ble_eq_true rfl⟩ hl.1 (Nat.le_of_ble_eq_true rfl) dX12_seenOf_67 ?_
    refine lv_if_eq (tgt := 91) hx hb dX12_seenOf_70 rfl (fun hc => ?_) (fun hc => ?_)
    · have h := ip hc h
      exact N_seenOf_91 X hP (lv_sub hl [1, 2, 3] rfl) h
    · have h := ine hc h
      refine lv_aload_n hx hb dX12_seenOf_73 rfl (lv_at hl 1 rfl) ?_
      refine mg_imp X hP dX12_seenOf_74 ?_
      refine lv_iload_n hx hb dX12_seenOf_77 rfl (lv_at hl 0 rfl) ?_
      obtain ⟨v3, hv3, h⟩ := ob h
      refine m_ald X hP hv3 dX12_seenOf_78 ?_
      refine lv_if_ne (tgt := 91) hx hb dX12_seenOf_79 rfl (fun hc => ?_) (fun hc => ?_)
      · have h := ine hc h
        exact N_seenOf_91 X hP (lv_sub hl [1, 2, 3] rfl) h
      · have h := ip hc h
        refine lv_aload_n hx hb dX12_seenOf_82 rfl (lv_at hl 1 rfl) ?_
        refine lv_iload_n hx hb dX12_seenOf_83 rfl (lv_at hl 2 rfl) ?_
        refine lv_iload_n hx hb dX12_seenOf_84 rfl (lv_at hl 3 rfl) ?_
        obtain ⟨v4, hv4, h⟩ := ob h
        refine cl_byFrames X hP hv4 ⟨Nat.le_of_ble_eq_true rfl, Nat.le_of_ble_eq_true rfl⟩ hl.1 (Nat.le_of_ble_eq_true rfl) dX12_seenOf_85 ?_
        refine lv_goto (tgt := 102) hx hb dX12_seenOf_88 rfl ?_
        exact N_seenOf_102 X hP (lv_sub hl [1] rfl) h
  · have h := ine hc h
    refine lv_aload_n hx hb dX12_seenOf_15 rfl (lv_at hl 1 rfl) ?_
    refine mg_tre X hP dX12_seenOf_16 ?_
    refine lv_iload_n hx hb dX12_seenOf_19 rfl (lv_at hl 0 rfl) ?_
    obtain ⟨v5, hv5, h⟩ := ob h
    refine m_ald X hP hv5 dX12_seenOf_20 ?_
    refine lv_aload_n hx hb dX12_seenOf_21 rfl (lv_at hl 1 rfl) ?_
    refine mg_trb X hP dX12_seenOf_22 ?_
    refine lv_iload_n hx hb dX12_seenOf_25 rfl (lv_at hl 0 rfl) ?_
    obtain ⟨v6, hv6, h⟩ := ob h
    refine m_ald X hP hv6 dX12_seenOf_26 ?_
    refine lv_isub hx hb dX12_seenOf_27 ?_
    refine lv_i2l hx hb dX12_seenOf_28 rfl ?_
    refine lv_lstore hx hb dX12_seenOf_29 hl (Nat.le_of_ble_eq_true rfl) rfl (fun ls (hl : lv_has ls 6 [(4, .long ((v5 - v6).toInt64)), (3, .int (((5:Int32) * x1) + x2)), (0, .ref mb), (1, .int x1), (2, .int x2)]) => ?_)
    refine lv_aload_n hx hb dX12_seenOf_31 rfl (lv_at hl 2 rfl) ?_
    refine mg_trb X hP dX12_seenOf_32 ?_
    refine lv_iload_n hx hb dX12_seenOf_35 rfl (lv_at hl 1 rfl) ?_
    obtain ⟨v7, hv7, h⟩ := ob h
    refine m_ald X hP hv7 dX12_seenOf_36 ?_
    refine lv_i2l hx hb dX12_seenOf_37 rfl ?_
    refine lv_lload hx hb dX12_seenOf_38 (lv_at hl 0 rfl) ?_
    refine lv_aload_n hx hb dX12_seenOf_40 rfl (lv_at hl 2 rfl) ?_
    refine mg_now X hP dX12_seenOf_41 ?_
    refine lv_aload_n hx hb dX12_seenOf_44 rfl (lv_at hl 2 rfl) ?_
    refine mg_trs X hP dX12_seenOf_45 ?_
    refine lv_iload_n hx hb dX12_seenOf_48 rfl (lv_at hl 1 rfl) ?_
    obtain ⟨v8, hv8, h⟩ := ob h
    refine m_ald X hP hv8 dX12_seenOf_49 ?_
    refine lv_isub hx hb dX12_seenOf_50 ?_
    refine lv_i2l hx hb dX12_seenOf_51 rfl ?_
    refine lv_lmul hx hb dX12_seenOf_52 ?_
    refine lv_aload_n hx hb dX12_seenOf_53 rfl (lv_at hl 2 rfl) ?_
    refine mg_trn X hP dX12_seenOf_54 ?_
    refine lv_iload_n hx hb dX12_seenOf_57 rfl (lv_at hl 1 rfl) ?_
    obtain ⟨v9, hv9, h⟩ := ob h
    refine m_ald X hP hv9 dX12_seenOf_58 ?_
    refine lv_i2l hx hb dX12_seenOf_59 rfl ?_
    obtain ⟨v10, hv10, h⟩ := ob h
    obtain ⟨hnv10, hev10⟩ := ldv_spec hv10
    refine lv_ldiv hx hb dX12_seenOf_60 hnv10 ?_
    rw [hev10]
    refine lv_ladd hx hb dX12_seenOf_61 ?_
    refine lv_l2i hx hb dX12_seenOf_62 rfl ?_
    obtain rfl := sj h
    exact m_ri X dX12_seenOf_63
theorem cl_seenOf {p : Program} {l : Launch} {e : Env} {s : State} {m : MethodId} {args : Array Value} {below : List Frame} {meth : Method} {c : Code} {D : mD} {mb : Nat} {H : Heap} {locs : List Loc} {Q : State → Prop} {cc : ByteArray} {pc fR lR nL : Nat} {ls : Array Slot} {rest : List Value} {ret : Option FieldType} {σ : mS} (X : mX p s m args meth c cc nL ret D) (hP : mP D mb σ H) {x1 : Int32} {x2 : Int32} {r : Int32} (h : f_seenOf x1 x2 σ = some r) (hr : 2 + 1 ≤ fR ∧ 8 + (6 + 11) + 48 ≤ lR) (hl : ls.size = nL) (hW : (rest.map fun v => v.category).sum ≤ 8) (hdg : decode cc pc = .ok (.invokevirtual 457, 3)) (kk : W p l e (rM fR lR) s m args below meth c H locs 0 0 Q (F0 m (pc + 3) ls (.int r :: rest))) : W p l e (rM fR lR) s m args below meth c H locs 0 0 Q (F0 m pc ls (.int x2 :: .int x1 :: .ref mb :: rest)) := m_cr (m_run (n := 2) X (K_seenOf l D mb σ x1 x2 h) ⟨w_2159, w_2161, w_110, w_2162⟩ (hyX rfl (by decide +kernel)) rfl hr hP hl hW hdg rfl) kk
-- differs(II)Z
def f_differs_84  (y0 : Int32) (σ : mS) : Option (Int32) := rz y0
def f_differs_79   (σ : mS) : Option (Int32) := f_differs_84 ((1:Int32)) σ
def f_differs (x1 : Int32) (x2 : Int32) (σ : mS) : Option (Int32) := if (12:Int32) ≤ x2 then ((rd σ 44 ((((3:Int32) * x1) + x2) - (12:Int32))).bind (fun v1 => (rd σ 83 (x2 - (12:Int32))).bind (fun v2 => if v1 = v2 then ((rd σ 45 ((((3:Int32) * x1) + x2) - (12:Int32))).bind (fun v3 => (rd σ 84 (x2 - (12:Int32))).bind (fun v4 => if v3 = v4 then (f_differs_84 ((0:Int32)) σ) else (f_differs_79 σ)))) else (f_differs_79 σ)))) else ((rd σ 43 (((12:Int32) * x1) + x2)).bind (fun v5 => (rd σ 82 x2).bind (fun v6 => if v5 = v6 then (f_differs_84 ((0:Int32)) σ) else (f_differs_84 ((1:Int32)) σ))))
set_option maxRecDepth 20000 in
set_option maxHeartbeats 4000000 in
theorem N_differs_84 {p : Program} {l : Launch} {e : Env} {s : State} {m : MethodId} {args : Array Value} {below : List Frame} {meth : Method} {c : Code} {D : mD} {mb : Nat}   {y0 : Int32} {σ : mS} {ls : Array Slot} {r : Int32} (X : mX p s m args meth c cX12_differs 4 (some .boolean) D) (hP : mP D mb σ s.heap)  (hl : lv_has ls 4 [(0, .ref mb)]) (h : f_differs_84  y0 σ = some r) : mWr p l e 0 0 s m args below meth c (some (.int r)) (F0 m 84 ls [.int y0]) := by
  have hx := X.1
  have hb := X.2.1
  have hown := X.2.2.2.1
  have hts := X.2.2.2.2.1
  have h : (rz y0) = some r := h
  obtain ⟨hz, rfl⟩ := rz_spec h
  exact m_rz X hz dX12_differs_84
set_option maxRecDepth 20000 in
set_option maxHeartbeats 4000000 in
theorem N_differs_79 {p : Program} {l : Launch} {e : Env} {s : State} {m : MethodId} {args : Array Value} {below : List Frame} {meth : Method} {c : Code} {D : mD} {mb : Nat}    {σ : mS} {ls : Array Slot} {r : Int32} (X : mX p s m args meth c cX12_differs 4 (some .boolean) D) (hP : mP D mb σ s.heap)  (hl : lv_has ls 4 [(0, .ref mb)]) (h : f_differs_79   σ = some r) : mWr p l e 0 0 s m args below meth c (some (.int r)) (F0 m 79 ls []) := by
  have hx := X.1
  have hb := X.2.1
  have hown := X.2.2.2.1
  have hts := X.2.2.2.2.1
  have h : (f_differs_84 ((1:Int32)) σ) = some r := h
  refine lv_iconst (v := (1:Int32)) hx hb dX12_differs_79 (by decide) ?_
  refine lv_goto (tgt := 84) hx hb dX12_differs_80 rfl ?_
  exact N_differs_84 X hP (lv_sub hl [0] rfl) h
set_option maxRecDepth 20000 in
set_option maxHeartbeats 4000000 in
theorem K_differs (l : Launch) (D : mD) (mb : Nat) (σ : mS) (x1 : Int32) (x2 : Int32) {r : Int32} (h : f_differs x1 x2 σ = some r) : Met l yX12_differs (Cond.code yX12_differs cX12_differs 4 (some .boolean) :: BG) (rM 0 0) (mPc D mb σ [.int x1, .int x2]) (mQr (some (.int r))) 0 0 (fun _ => False) := by
  refine Met.ofW (cc := cX12_differs) (maxL := 4) (ret := (some .boolean)) (by decide) rfl ?_
  intro p e s m args below meth c s₁ B hml hv
  obtain ⟨rfl, hP, hK⟩ := hv
  have X := mX_of B hml rfl hK
  have hx := X.1
  have hb := X.2.1
  have hown := X.2.2.2.1
  have hts := X.2.2.2.2.1
  have hl := lv_entry (.ref mb :: [.int x1, .int x2]) (n := 4) (Nat.le_of_ble_eq_true rfl)
  rw [lg_entry_eq]
  generalize (lg_sl (.ref mb :: [.int x1, .int x2]) ++ List.replicate (4 - (lg_sl (.ref mb :: [.int x1, .int x2])).length) Slot.unset).toArray = ls at hl ⊢
  have hl : lv_has ls 4 [(0, .ref mb), (1, .int x1), (2, .int x2)] := hl
  show mWr p l e 0 0 s m (Value.ref mb :: [.int x1, .int x2]).toArray below meth c (some (.int r)) (F0 m 0 ls [])
  have h : (if (12:Int32) ≤ x2 then ((rd σ 44 ((((3:Int32) * x1) + x2) - (12:Int32))).bind (fun v1 => (rd σ 83 (x2 - (12:Int32))).bind (fun v2 => if v1 = v2 then ((rd σ 45 ((((3:Int32) * x1) + x2) - (12:Int32))).bind (fun v3 => (rd σ 84 (x2 - (12:Int32))).bind (fun v4 => if v3 = v4 then (f_differs_84 ((0:Int32)) σ) else (f_differs_79 σ)))) else (f_differs_79 σ)))) else ((rd σ 43 (((12:Int32) * x1) + x2)).bind (fun v5 => (rd σ 82 x2).bind (fun v6 => if v5 = v6 then (f_differs_84 ((0:Int32)) σ) else (f_differs_84 ((1:Int32)) σ))))) = some r := h
  refine lv_iconst (v := (3:Int32)) hx hb dX12_differs_0 (by decide) ?_
  refine lv_iload_n hx hb dX12_differs_1 rfl (lv_at hl 1 rfl) ?_
  refine lv_imul hx hb dX12_differs_2 ?_
  refine lv_iload_n hx hb dX12_differs_3 rfl (lv_at hl 2 rfl) ?_
  refine lv_iadd hx hb dX12_differs_4 ?_
  refine lv_bipush (v := (12:Int32)) hx hb dX12_differs_5 (by decide) ?_
  refine lv_isub hx hb dX12_differs_7 ?_
  refine lv_istore_n hx hb dX12_differs_8 rfl hl (Nat.le_of_ble_eq_true rfl) rfl (fun ls (hl : lv_has ls 4 [(3, .int ((((3:Int32) * x1) + x2) - (12:Int32))), (0, .ref mb), (1, .int x1), (2, .int x2)]) => ?_)
  refine lv_iload_n hx hb dX12_differs_9 rfl (lv_at hl 3 rfl) ?_
  refine lv_bipush (v := (12:Int32)) hx hb dX12_differs_10 (by decide) ?_
  refine lv_icmp_ge (tgt := 43) hx hb dX12_differs_12 rfl (fun hc => ?_) (fun hc => ?_)
  · have h := ip hc h
    refine lv_aload_n hx hb dX12_differs_43 rfl (lv_at hl 1 rfl) ?_
    refine mg_vu X hP dX12_differs_44 ?_
    refine lv_iload_n hx hb dX12_differs_47 rfl (lv_at hl 0 rfl) ?_
    obtain ⟨v1, hv1, h⟩ := ob h
    refine m_ald X hP hv1 dX12_differs_48 ?_
    refine lv_aload_n hx hb dX12_differs_49 rfl (lv_at hl 1 rfl) ?_
    refine mg_oldUnit X hP dX12_differs_50 ?_
    refine lv_iload_n hx hb dX12_differs_53 rfl (lv_at hl 3 rfl) ?_
    refine lv_bipush (v := (12:Int32)) hx hb dX12_differs_54 (by decide) ?_
    refine lv_isub hx hb dX12_differs_56 ?_
    obtain ⟨v2, hv2, h⟩ := ob h
    refine m_ald X hP hv2 dX12_differs_57 ?_
    refine lv_icmp_ne (tgt := 79) hx hb dX12_differs_58 rfl (fun hc => ?_) (fun hc => ?_)
    · have h := ine hc h
      exact N_differs_79 X hP (lv_sub hl [1] rfl) h
    · have h := ip hc h
      refine lv_aload_n hx hb dX12_differs_61 rfl (lv_at hl 1 rfl) ?_
      refine mg_vn X hP dX12_differs_62 ?_
      refine lv_iload_n hx hb dX12_differs_65 rfl (lv_at hl 0 rfl) ?_
      obtain ⟨v3, hv3, h⟩ := ob h
      refine m_ald X hP hv3 dX12_differs_66 ?_
      refine lv_aload_n hx hb dX12_differs_67 rfl (lv_at hl 1 rfl) ?_
      refine mg_oldNumber X hP dX12_differs_68 ?_
      refine lv_iload_n hx hb dX12_differs_71 rfl (lv_at hl 3 rfl) ?_
      refine lv_bipush (v := (12:Int32)) hx hb dX12_differs_72 (by decide) ?_
      refine lv_isub hx hb dX12_differs_74 ?_
      obtain ⟨v4, hv4, h⟩ := ob h
      refine m_ald X hP hv4 dX12_differs_75 ?_
      refine lv_icmp_eq (tgt := 83) hx hb dX12_differs_76 rfl (fun hc => ?_) (fun hc => ?_)
      · have h := ip hc h
        refine lv_iconst (v := (0:Int32)) hx hb dX12_differs_83 (by decide) ?_
        exact N_differs_84 X hP (lv_sub hl [1] rfl) h
      · have h := ine hc h
        exact N_differs_79 X hP (lv_sub hl [1] rfl) h
  · have h := ine hc h
    refine lv_aload_n hx hb dX12_differs_15 rfl (lv_at hl 1 rfl) ?_
    refine mg_val X hP dX12_differs_16 ?_
    refine lv_bipush (v := (12:Int32)) hx hb dX12_differs_19 (by decide) ?_
    refine lv_iload_n hx hb dX12_differs_21 rfl (lv_at hl 2 rfl) ?_
    refine lv_imul hx hb dX12_differs_22 ?_
    refine lv_iload_n hx hb dX12_differs_23 rfl (lv_at hl 3 rfl) ?_
    refine lv_iadd hx hb dX12_differs_24 ?_
    obtain ⟨v5, hv5, h⟩ := ob h
    refine m_ald X hP hv5 dX12_differs_25 ?_
    refine lv_aload_n hx hb dX12_differs_26 rfl (lv_at hl 1 rfl) ?_
    refine mg_oldVal X hP dX12_differs_27 ?_
    refine lv_iload_n hx hb dX12_differs_30 rfl (lv_at hl 3 rfl) ?_
    obtain ⟨v6, hv6, h⟩ := ob h
    refine m_ald X hP hv6 dX12_differs_31 ?_
    refine lv_icmp_eq (tgt := 39) hx hb dX12_differs_32 rfl (fun hc => ?_) (fun hc => ?_)
    · have h := ip hc h
      refine lv_iconst (v := (0:Int32)) hx hb dX12_differs_39 (by decide) ?_
      refine lv_goto (tgt := 84) hx hb dX12_differs_40 rfl ?_
      exact N_differs_84 X hP (lv_sub hl [1] rfl) h
    · have h := ine hc h
      refine lv_iconst (v := (1:Int32)) hx hb dX12_differs_35 (by decide) ?_
      refine lv_goto (tgt := 84) hx hb dX12_differs_36 rfl ?_
      exact N_differs_84 X hP (lv_sub hl [1] rfl) h
theorem cl_differs {p : Program} {l : Launch} {e : Env} {s : State} {m : MethodId} {args : Array Value} {below : List Frame} {meth : Method} {c : Code} {D : mD} {mb : Nat} {H : Heap} {locs : List Loc} {Q : State → Prop} {cc : ByteArray} {pc fR lR nL : Nat} {ls : Array Slot} {rest : List Value} {ret : Option FieldType} {σ : mS} (X : mX p s m args meth c cc nL ret D) (hP : mP D mb σ H) {x1 : Int32} {x2 : Int32} {r : Int32} (h : f_differs x1 x2 σ = some r) (hr : 0 + 1 ≤ fR ∧ 8 + (4 + 11) + 0 ≤ lR) (hl : ls.size = nL) (hW : (rest.map fun v => v.category).sum ≤ 8) (hdg : decode cc pc = .ok (.invokevirtual 428, 3)) (kk : W p l e (rM fR lR) s m args below meth c H locs 0 0 Q (F0 m (pc + 3) ls (.int r :: rest))) : W p l e (rM fR lR) s m args below meth c H locs 0 0 Q (F0 m pc ls (.int x2 :: .int x1 :: .ref mb :: rest)) := m_cr (m_run (n := 2) X (K_differs l D mb σ x1 x2 h) ⟨w_2273, w_2275, w_137, w_2276⟩ (hyX rfl (by decide +kernel)) rfl hr hP hl hW hdg rfl) kk
-- transit(IIZ)V
def f_transit_187  (x4 : Int32) (x5 : Int32) (x8 : Int32) (y1 : Int32) (y2 : Int32) (σ : mS) : Option (mS) := (wr σ 55 y1 y2).bind (fun s1 => (wr s1 56 x4 x8).bind (fun s2 => (rd s2 85 x4).bind (fun v3 => (wr s2 57 x4 v3).bind (fun s4 => (wr s4 58 x4 x5).bind (fun s5 => some s5)))))
def f_transit_168  (x4 : Int32) (x5 : Int32) (x7 : Int32) (x8 : Int32) (σ : mS) : Option (mS) := if x7 = (0:Int32) then (f_transit_187 (x4) (x5) (x8) (x4) (((-1):Int32)) σ) else (f_transit_187 (x4) (x5) (x8) (x4) ((σ.2 54)) σ)
def f_transit_166  (x4 : Int32) (x5 : Int32) (x7 : Int32) (y0 : Int32) (σ : mS) : Option (mS) := f_transit_168 (x4) (x5) (x7) (y0) σ
def f_transit_78  (x1 : Int32) (x2 : Int32) (x4 : Int32) (x5 : Int32) (x6 : Int32) (y0 : Int32) (σ : mS) : Option (mS) := if y0 = (0:Int32) then (f_transit_168 (x4) (x5) (y0) (x6) σ) else ((f_moves (x1) (x2) σ).bind (fun v1 => if v1 = (0:Int32) then (f_transit_168 (x4) (x5) (y0) (x6) σ) else ((rd σ 57 x4).bind (fun v2 => if x5 = v2 then ((rd σ 55 x4).bind (fun v3 => (rd σ 56 x4).bind (fun v4 => (rd σ 56 x4).bind (fun v5 => (ldv ((((x6.toInt64) * (((σ.2 54) - v3).toInt64)) + (v4.toInt64)) - (1:Int64)) (v5.toInt64)).bind (fun v6 => if (1:Int32) ≤ (v6.toInt32) then (f_transit_166 (x4) (x5) (y0) ((v6.toInt32)) σ) else (f_transit_166 (x4) (x5) (y0) ((1:Int32)) σ)))))) else (f_transit_168 (x4) (x5) (y0) (x6) σ)))))
def f_transit_77  (x1 : Int32) (x2 : Int32) (x4 : Int32) (x5 : Int32) (x6 : Int32) (σ : mS) : Option (mS) := f_transit_78 (x1) (x2) (x4) (x5) (x6) ((0:Int32)) σ
def f_transit (x1 : Int32) (x2 : Int32) (x3 : Int32) (σ : mS) : Option (mS) := (rd σ 43 (((12:Int32) * x1) + x2)).bind (fun v1 => (f_differs (x1) (x2) σ).bind (fun v2 => if v2 = (0:Int32) then (some σ) else ((rd σ 43 (((12:Int32) * x1) + (10:Int32))).bind (fun v3 => if x3 = (0:Int32) then (f_transit_77 (x1) (x2) ((((5:Int32) * x1) + x2)) (v1) (v3) σ) else (if v1 = ((-1000000):Int32) then (f_transit_77 (x1) (x2) ((((5:Int32) * x1) + x2)) (v1) (v3) σ) else ((rd σ 82 x2).bind (fun v4 => if v4 = ((-1000000):Int32) then (f_transit_77 (x1) (x2) ((((5:Int32) * x1) + x2)) (v1) (v3) σ) else (if v3 ≤ (0:Int32) then (f_transit_77 (x1) (x2) ((((5:Int32) * x1) + x2)) (v1) (v3) σ) else (f_transit_78 (x1) (x2) ((((5:Int32) * x1) + x2)) (v1) (v3) ((1:Int32)) σ)))))))))
set_option maxRecDepth 20000 in
set_option maxHeartbeats 4000000 in
theorem N_transit_187 {p : Program} {l : Launch} {e : Env} {s : State} {m : MethodId} {args : Array Value} {below : List Frame} {meth : Method} {c : Code} {D : mD} {mb : Nat}   {x4 : Int32} {x5 : Int32} {x8 : Int32} {y1 : Int32} {y2 : Int32} {σ : mS} {H : Heap} {locs : List Loc} {ls : Array Slot} {q : mS} (X : mX p s m args meth c cX12_transit 11 none D) (hP : mP D mb σ H) (hF : mF mb s.heap H locs)  (hl : lv_has ls 11 [(0, .ref mb), (4, .int x4), (5, .int x5), (8, .int x8)]) (h : f_transit_187  x4 x5 x8 y1 y2 σ = some q) : mWw p l e 1 23 s m args below meth c D mb q none H locs (F0 m 187 ls [.int y2, .int y1, .ref (mA mb 55)]) := by
  have hx := X.1
  have hb := X.2.1
  have hown := X.2.2.2.1
  have hts := X.2.2.2.2.1
  have h : ((wr σ 55 y1 y2).bind (fun s1 => (wr s1 56 x4 x8).bind (fun s2 => (rd s2 85 x4).bind (fun v3 => (wr s2 57 x4 v3).bind (fun s4 => (wr s4 58 x4 x5).bind (fun s5 => some s5)))))) = some q := h
  obtain ⟨s1, hs1, h⟩ := ob h
  refine m_ast X hP hF hs1 dX12_transit_187 (fun H locs hP hF => ?_)
  refine lv_aload_n hx hb dX12_transit_188 rfl (lv_at hl 0 rfl) ?_
  refine mg_trn X hP dX12_transit_189 ?_
  refine lv_iload hx hb dX12_transit_192 (lv_at hl 1 rfl) ?_
  refine lv_iload hx hb dX12_transit_194 (lv_at hl 3 rfl) ?_
  obtain ⟨s2, hs2, h⟩ := ob h
  refine m_ast X hP hF hs2 dX12_transit_196 (fun H locs hP hF => ?_)
  refine lv_aload_n hx hb dX12_transit_197 rfl (lv_at hl 0 rfl) ?_
  refine mg_trb X hP dX12_transit_198 ?_
  refine lv_iload hx hb dX12_transit_201 (lv_at hl 1 rfl) ?_
  refine lv_aload_n hx hb dX12_transit_203 rfl (lv_at hl 0 rfl) ?_
  refine mg_was X hP dX12_transit_204 ?_
  refine lv_iload hx hb dX12_transit_207 (lv_at hl 1 rfl) ?_
  obtain ⟨v3, hv3, h⟩ := ob h
  refine m_ald X hP hv3 dX12_transit_209 ?_
  obtain ⟨s4, hs4, h⟩ := ob h
  refine m_ast X hP hF hs4 dX12_transit_210 (fun H locs hP hF => ?_)
  refine lv_aload_n hx hb dX12_transit_211 rfl (lv_at hl 0 rfl) ?_
  refine mg_tre X hP dX12_transit_212 ?_
  refine lv_iload hx hb dX12_transit_215 (lv_at hl 1 rfl) ?_
  refine lv_iload hx hb dX12_transit_217 (lv_at hl 2 rfl) ?_
  obtain ⟨s5, hs5, h⟩ := ob h
  refine m_ast X hP hF hs5 dX12_transit_219 (fun H locs hP hF => ?_)
  obtain rfl := sj h
  exact m_wv X hP hF dX12_transit_220
set_option maxRecDepth 20000 in
set_option maxHeartbeats 4000000 in
theorem N_transit_168 {p : Program} {l : Launch} {e : Env} {s : State} {m : MethodId} {args : Array Value} {below : List Frame} {meth : Method} {c : Code} {D : mD} {mb : Nat}   {x4 : Int32} {x5 : Int32} {x7 : Int32} {x8 : Int32} {σ : mS} {H : Heap} {locs : List Loc} {ls : Array Slot} {q : mS} (X : mX p s m args meth c cX12_transit 11 none D) (hP : mP D mb σ H) (hF : mF mb s.heap H locs)  (hl : lv_has ls 11 [(0, .ref mb), (4, .int x4), (5, .int x5), (7, .int x7), (8, .int x8)]) (h : f_transit_168  x4 x5 x7 x8 σ = some q) : mWw p l e 1 23 s m args below meth c D mb q none H locs (F0 m 168 ls []) := by
  have hx := X.1
  have hb := X.2.1
  have hown := X.2.2.2.1
  have hts := X.2.2.2.2.1
  have h : (if x7 = (0:Int32) then (f_transit_187 (x4) (x5) (x8) (x4) (((-1):Int32)) σ) else (f_transit_187 (x4) (x5) (x8) (x4) ((σ.2 54)) σ)) = some q := h
  refine lv_aload_n hx hb dX12_transit_168 rfl (lv_at hl 0 rfl) ?_
  refine mg_trs X hP dX12_transit_169 ?_
  refine lv_iload hx hb dX12_transit_172 (lv_at hl 1 rfl) ?_
  refine lv_iload hx hb dX12_transit_174 (lv_at hl 3 rfl) ?_
  refine lv_if_eq (tgt := 186) hx hb dX12_transit_176 rfl (fun hc => ?_) (fun hc => ?_)
  · have h := ip hc h
    refine lv_iconst (v := ((-1):Int32)) hx hb dX12_transit_186 (by decide) ?_
    exact N_transit_187 X hP hF (lv_sub hl [0, 1, 2, 4] rfl) h
  · have h := ine hc h
    refine lv_aload_n hx hb dX12_transit_179 rfl (lv_at hl 0 rfl) ?_
    refine mg_now X hP dX12_transit_180 ?_
    refine lv_goto (tgt := 187) hx hb dX12_transit_183 rfl ?_
    exact N_transit_187 X hP hF (lv_sub hl [0, 1, 2, 4] rfl) h
set_option maxRecDepth 20000 in
set_option maxHeartbeats 4000000 in
theorem N_transit_166 {p : Program} {l : Launch} {e : Env} {s : State} {m : MethodId} {args : Array Value} {below : List Frame} {meth : Method} {c : Code} {D : mD} {mb : Nat}   {x4 : Int32} {x5 : Int32} {x7 : Int32} {y0 : Int32} {σ : mS} {H : Heap} {locs : List Loc} {ls : Array Slot} {q : mS} (X : mX p s m args meth c cX12_transit 11 none D) (hP : mP D mb σ H) (hF : mF mb s.heap H locs)  (hl : lv_has ls 11 [(0, .ref mb), (4, .int x4), (5, .int x5), (7, .int x7)]) (h : f_transit_166  x4 x5 x7 y0 σ = some q) : mWw p l e 1 23 s m args below meth c D mb q none H locs (F0 m 166 ls [.int y0]) := by
  have hx := X.1
  have hb := X.2.1
  have hown := X.2.2.2.1
  have hts := X.2.2.2.2.1
  have h : (f_transit_168 (x4) (x5) (x7) (y0) σ) = some q := h
  refine lv_istore hx hb dX12_transit_166 hl (Nat.le_of_ble_eq_true rfl) rfl (fun ls (hl : lv_has ls 11 [(8, .int y0), (0, .ref mb), (4, .int x4), (5, .int x5), (7, .int x7)]) => ?_)
  exact N_transit_168 X hP hF (lv_sub hl [1, 2, 3, 4, 0] rfl) h
set_option maxRecDepth 20000 in
set_option maxHeartbeats 4000000 in
theorem N_transit_78 {p : Program} {l : Launch} {e : Env} {s : State} {m : MethodId} {args : Array Value} {below : List Frame} {meth : Method} {c : Code} {D : mD} {mb : Nat}   {x1 : Int32} {x2 : Int32} {x4 : Int32} {x5 : Int32} {x6 : Int32} {y0 : Int32} {σ : mS} {H : Heap} {locs : List Loc} {ls : Array Slot} {q : mS} (X : mX p s m args meth c cX12_transit 11 none D) (hP : mP D mb σ H) (hF : mF mb s.heap H locs)  (hl : lv_has ls 11 [(0, .ref mb), (1, .int x1), (2, .int x2), (4, .int x4), (5, .int x5), (6, .int x6)]) (h : f_transit_78  x1 x2 x4 x5 x6 y0 σ = some q) : mWw p l e 1 23 s m args below meth c D mb q none H locs (F0 m 78 ls [.int y0]) := by
  have hx := X.1
  have hb := X.2.1
  have hown := X.2.2.2.1
  have hts := X.2.2.2.2.1
  have h : (if y0 = (0:Int32) then (f_transit_168 (x4) (x5) (y0) (x6) σ) else ((f_moves (x1) (x2) σ).bind (fun v1 => if v1 = (0:Int32) then (f_transit_168 (x4) (x5) (y0) (x6) σ) else ((rd σ 57 x4).bind (fun v2 => if x5 = v2 then ((rd σ 55 x4).bind (fun v3 => (rd σ 56 x4).bind (fun v4 => (rd σ 56 x4).bind (fun v5 => (ldv ((((x6.toInt64) * (((σ.2 54) - v3).toInt64)) + (v4.toInt64)) - (1:Int64)) (v5.toInt64)).bind (fun v6 => if (1:Int32) ≤ (v6.toInt32) then (f_transit_166 (x4) (x5) (y0) ((v6.toInt32)) σ) else (f_transit_166 (x4) (x5) (y0) ((1:Int32)) σ)))))) else (f_transit_168 (x4) (x5) (y0) (x6) σ)))))) = some q := h
  refine lv_istore hx hb dX12_transit_78 hl (Nat.le_of_ble_eq_true rfl) rfl (fun ls (hl : lv_has ls 11 [(7, .int y0), (0, .ref mb), (1, .int x1), (2, .int x2), (4, .int x4), (5, .int x5), (6, .int x6)]) => ?_)
  refine lv_iload hx hb dX12_transit_80 (lv_at hl 6 rfl) ?_
  refine lv_istore hx hb dX12_transit_82 hl (Nat.le_of_ble_eq_true rfl) rfl (fun ls (hl : lv_has ls 11 [(8, .int x6), (7, .int y0), (0, .ref mb), (1, .int x1), (2, .int x2), (4, .int x4), (5, .int x5), (6, .int x6)]) => ?_)
  refine lv_iload hx hb dX12_transit_84 (lv_at hl 1 rfl) ?_
  refine lv_if_eq (tgt := 168) hx hb dX12_transit_86 rfl (fun hc => ?_) (fun hc => ?_)
  · have h := ip hc h
    exact N_transit_168 X hP hF (lv_sub hl [2, 5, 6, 1, 0] rfl) h
  · have h := ine hc h
    refine lv_aload_n hx hb dX12_transit_89 rfl (lv_at hl 2 rfl) ?_
    refine lv_iload_n hx hb dX12_transit_90 rfl (lv_at hl 3 rfl) ?_
    refine lv_iload_n hx hb dX12_transit_91 rfl (lv_at hl 4 rfl) ?_
    obtain ⟨v1, hv1, h⟩ := ob h
    refine cl_moves X hP hv1 ⟨Nat.le_of_ble_eq_true rfl, Nat.le_of_ble_eq_true rfl⟩ hl.1 (Nat.le_of_ble_eq_true rfl) dX12_transit_92 ?_
    refine lv_if_eq (tgt := 168) hx hb dX12_transit_95 rfl (fun hc => ?_) (fun hc => ?_)
    · have h := ip hc h
      exact N_transit_168 X hP hF (lv_sub hl [2, 5, 6, 1, 0] rfl) h
    · have h := ine hc h
      refine lv_iload hx hb dX12_transit_98 (lv_at hl 6 rfl) ?_
      refine lv_aload_n hx hb dX12_transit_100 rfl (lv_at hl 2 rfl) ?_
      refine mg_trb X hP dX12_transit_101 ?_
      refine lv_iload hx hb dX12_transit_104 (lv_at hl 5 rfl) ?_
      obtain ⟨v2, hv2, h⟩ := ob h
      refine m_ald X hP hv2 dX12_transit_106 ?_
      refine lv_icmp_ne (tgt := 168) hx hb dX12_transit_107 rfl (fun hc => ?_) (fun hc => ?_)
      · have h := ine hc h
        exact N_transit_168 X hP hF (lv_sub hl [2, 5, 6, 1, 0] rfl) h
      · have h := ip hc h
        refine lv_aload_n hx hb dX12_transit_110 rfl (lv_at hl 2 rfl) ?_
        refine mg_now X hP dX12_transit_111 ?_
        refine lv_aload_n hx hb dX12_transit_114 rfl (lv_at hl 2 rfl) ?_
        refine mg_trs X hP dX12_transit_115 ?_
        refine lv_iload hx hb dX12_transit_118 (lv_at hl 5 rfl) ?_
        obtain ⟨v3, hv3, h⟩ := ob h
        refine m_ald X hP hv3 dX12_transit_120 ?_
        refine lv_isub hx hb dX12_transit_121 ?_
        refine lv_i2l hx hb dX12_transit_122 rfl ?_
        refine lv_lstore hx hb dX12_transit_123 hl (Nat.le_of_ble_eq_true rfl) rfl (fun ls (hl : lv_has ls 11 [(9, .long (((σ.2 54) - v3).toInt64)), (8, .int x6), (7, .int y0), (0, .ref mb), (1, .int x1), (2, .int x2), (4, .int x4), (5, .int x5), (6, .int x6)]) => ?_)
        refine lv_iload hx hb dX12_transit_125 (lv_at hl 8 rfl) ?_
        refine lv_i2l hx hb dX12_transit_127 rfl ?_
        refine lv_lload hx hb dX12_transit_128 (lv_at hl 0 rfl) ?_
        refine lv_lmul hx hb dX12_transit_130 ?_
        refine lv_aload_n hx hb dX12_transit_131 rfl (lv_at hl 3 rfl) ?_
        refine mg_trn X hP dX12_transit_132 ?_
        refine lv_iload hx hb dX12_transit_135 (lv_at hl 6 rfl) ?_
        obtain ⟨v4, hv4, h⟩ := ob h
        refine m_ald X hP hv4 dX12_transit_137 ?_
        refine lv_i2l hx hb dX12_transit_138 rfl ?_
        refine lv_ladd hx hb dX12_transit_139 ?_
        refine lv_lconst (v := (1:Int64)) hx hb dX12_transit_140 (by decide) ?_
        refine lv_lsub hx hb dX12_transit_141 ?_
        refine lv_aload_n hx hb dX12_transit_142 rfl (lv_at hl 3 rfl) ?_
        refine mg_trn X hP dX12_transit_143 ?_
        refine lv_iload hx hb dX12_transit_146 (lv_at hl 6 rfl) ?_
        obtain ⟨v5, hv5, h⟩ := ob h
        refine m_ald X hP hv5 dX12_transit_148 ?_
        refine lv_i2l hx hb dX12_transit_149 rfl ?_
        obtain ⟨v6, hv6, h⟩ := ob h
        obtain ⟨hnv6, hev6⟩ := ldv_spec hv6
        refine lv_ldiv hx hb dX12_transit_150 hnv6 ?_
        rw [hev6]
        refine lv_l2i hx hb dX12_transit_151 rfl ?_
        refine lv_istore hx hb dX12_transit_152 hl (Nat.le_of_ble_eq_true rfl) rfl (fun ls (hl : lv_has ls 11 [(8, .int (v6.toInt32)), (9, .long (((σ.2 54) - v3).toInt64)), (7, .int y0), (0, .ref mb), (1, .int x1), (2, .int x2), (4, .int x4), (5, .int x5), (6, .int x6)]) => ?_)
        refine lv_iload hx hb dX12_transit_154 (lv_at hl 0 rfl) ?_
        refine lv_iconst (v := (1:Int32)) hx hb dX12_transit_156 (by decide) ?_
        refine lv_icmp_ge (tgt := 164) hx hb dX12_transit_157 rfl (fun hc => ?_) (fun hc => ?_)
        · have h := ip hc h
          refine lv_iload hx hb dX12_transit_164 (lv_at hl 0 rfl) ?_
          exact N_transit_166 X hP hF (lv_sub hl [3, 6, 7, 2] rfl) h
        · have h := ine hc h
          refine lv_iconst (v := (1:Int32)) hx hb dX12_transit_160 (by decide) ?_
          refine lv_goto (tgt := 166) hx hb dX12_transit_161 rfl ?_
          exact N_transit_166 X hP hF (lv_sub hl [3, 6, 7, 2] rfl) h
set_option maxRecDepth 20000 in
set_option maxHeartbeats 4000000 in
theorem N_transit_77 {p : Program} {l : Launch} {e : Env} {s : State} {m : MethodId} {args : Array Value} {below : List Frame} {meth : Method} {c : Code} {D : mD} {mb : Nat}   {x1 : Int32} {x2 : Int32} {x4 : Int32} {x5 : Int32} {x6 : Int32} {σ : mS} {H : Heap} {locs : List Loc} {ls : Array Slot} {q : mS} (X : mX p s m args meth c cX12_transit 11 none D) (hP : mP D mb σ H) (hF : mF mb s.heap H locs)  (hl : lv_has ls 11 [(0, .ref mb), (1, .int x1), (2, .int x2), (4, .int x4), (5, .int x5), (6, .int x6)]) (h : f_transit_77  x1 x2 x4 x5 x6 σ = some q) : mWw p l e 1 23 s m args below meth c D mb q none H locs (F0 m 77 ls []) := by
  have hx := X.1
  have hb := X.2.1
  have hown := X.2.2.2.1
  have hts := X.2.2.2.2.1
  have h : (f_transit_78 (x1) (x2) (x4) (x5) (x6) ((0:Int32)) σ) = some q := h
  refine lv_iconst (v := (0:Int32)) hx hb dX12_transit_77 (by decide) ?_
  exact N_transit_78 X hP hF (lv_sub hl [0, 1, 2, 3, 4, 5] rfl) h
set_option maxRecDepth 20000 in
set_option maxHeartbeats 4000000 in
theorem K_transit (l : Launch) (D : mD) (mb : Nat) (σ : mS) (x1 : Int32) (x2 : Int32) (x3 : Int32) {q : mS} (h : f_transit x1 x2 x3 σ = some q) : Met l yX12_transit (Cond.code yX12_transit cX12_transit 11 none :: BG) (rM 1 23) (mPc D mb σ [.int x1, .int x2, .int x3]) (mQw D mb q none) 0 0 (mReg mb) := by
  refine Met.ofW (cc := cX12_transit) (maxL := 11) (ret := none) (by decide) rfl ?_
  intro p e s m args below meth c s₁ B hml hv
  obtain ⟨rfl, hP, hK⟩ := hv
  have X := mX_of B hml rfl hK
  have hx := X.1
  have hb := X.2.1
  have hown := X.2.2.2.1
  have hts := X.2.2.2.2.1
  have hl := lv_entry (.ref mb :: [.int x1, .int x2, .int x3]) (n := 11) (Nat.le_of_ble_eq_true rfl)
  rw [lg_entry_eq]
  generalize (lg_sl (.ref mb :: [.int x1, .int x2, .int x3]) ++ List.replicate (11 - (lg_sl (.ref mb :: [.int x1, .int x2, .int x3])).length) Slot.unset).toArray = ls at hl ⊢
  have hl : lv_has ls 11 [(0, .ref mb), (1, .int x1), (2, .int x2), (3, .int x3)] := hl
  have hF : mF mb s.heap s.heap [] := mF.rf
  show mWw p l e 1 23 s m (Value.ref mb :: [.int x1, .int x2, .int x3]).toArray below meth c D mb q none s.heap [] (F0 m 0 ls [])
  have h : ((rd σ 43 (((12:Int32) * x1) + x2)).bind (fun v1 => (f_differs (x1) (x2) σ).bind (fun v2 => if v2 = (0:Int32) then (some σ) else ((rd σ 43 (((12:Int32) * x1) + (10:Int32))).bind (fun v3 => if x3 = (0:Int32) then (f_transit_77 (x1) (x2) ((((5:Int32) * x1) + x2)) (v1) (v3) σ) else (if v1 = ((-1000000):Int32) then (f_transit_77 (x1) (x2) ((((5:Int32) * x1) + x2)) (v1) (v3) σ) else ((rd σ 82 x2).bind (fun v4 => if v4 = ((-1000000):Int32) then (f_transit_77 (x1) (x2) ((((5:Int32) * x1) + x2)) (v1) (v3) σ) else (if v3 ≤ (0:Int32) then (f_transit_77 (x1) (x2) ((((5:Int32) * x1) + x2)) (v1) (v3) σ) else (f_transit_78 (x1) (x2) ((((5:Int32) * x1) + x2)) (v1) (v3) ((1:Int32)) σ)))))))))) = some q := h
  refine lv_iconst (v := (5:Int32)) hx hb dX12_transit_0 (by decide) ?_
  refine lv_iload_n hx hb dX12_transit_1 rfl (lv_at hl 1 rfl) ?_
  refine lv_imul hx hb dX12_transit_2 ?_
  refine lv_iload_n hx hb dX12_transit_3 rfl (lv_at hl 2 rfl) ?_
  refine lv_iadd hx hb dX12_transit_4 ?_
  refine lv_istore hx hb dX12_transit_5 hl (Nat.le_of_ble_eq_true rfl) rfl (fun ls (hl : lv_has ls 11 [(4, .int (((5:Int32) * x1) + x2)), (0, .ref mb), (1, .int x1), (2, .int x2), (3, .int x3)]) => ?_)
  refine lv_aload_n hx hb dX12_transit_7 rfl (lv_at hl 1 rfl) ?_
  refine mg_val X hP dX12_transit_8 ?_
  refine lv_bipush (v := (12:Int32)) hx hb dX12_transit_11 (by decide) ?_
  refine lv_iload_n hx hb dX12_transit_13 rfl (lv_at hl 2 rfl) ?_
  refine lv_imul hx hb dX12_transit_14 ?_
  refine lv_iload_n hx hb dX12_transit_15 rfl (lv_at hl 3 rfl) ?_
  refine lv_iadd hx hb dX12_transit_16 ?_
  obtain ⟨v1, hv1, h⟩ := ob h
  refine m_ald X hP hv1 dX12_transit_17 ?_
  refine lv_istore hx hb dX12_transit_18 hl (Nat.le_of_ble_eq_true rfl) rfl (fun ls (hl : lv_has ls 11 [(5, .int v1), (4, .int (((5:Int32) * x1) + x2)), (0, .ref mb), (1, .int x1), (2, .int x2), (3, .int x3)]) => ?_)
  refine lv_aload_n hx hb dX12_transit_20 rfl (lv_at hl 2 rfl) ?_
  refine lv_iload_n hx hb dX12_transit_21 rfl (lv_at hl 3 rfl) ?_
  refine lv_iload_n hx hb dX12_transit_22 rfl (lv_at hl 4 rfl) ?_
  obtain ⟨v2, hv2, h⟩ := ob h
  refine cl_differs X hP hv2 ⟨Nat.le_of_ble_eq_true rfl, Nat.le_of_ble_eq_true rfl⟩ hl.1 (Nat.le_of_ble_eq_true rfl) dX12_transit_23 ?_
  refine lv_if_ne (tgt := 30) hx hb dX12_transit_26 rfl (fun hc => ?_) (fun hc => ?_)
  · have h := ine hc h
    refine lv_aload_n hx hb dX12_transit_30 rfl (lv_at hl 2 rfl) ?_
    refine mg_val X hP dX12_transit_31 ?_
    refine lv_bipush (v := (12:Int32)) hx hb dX12_transit_34 (by decide) ?_
    refine lv_iload_n hx hb dX12_transit_36 rfl (lv_at hl 3 rfl) ?_
    refine lv_imul hx hb dX12_transit_37 ?_
    refine lv_bipush (v := (10:Int32)) hx hb dX12_transit_38 (by decide) ?_
    refine lv_iadd hx hb dX12_transit_40 ?_
    obtain ⟨v3, hv3, h⟩ := ob h
    refine m_ald X hP hv3 dX12_transit_41 ?_
    refine lv_istore hx hb dX12_transit_42 hl (Nat.le_of_ble_eq_true rfl) rfl (fun ls (hl : lv_has ls 11 [(6, .int v3), (5, .int v1), (4, .int (((5:Int32) * x1) + x2)), (0, .ref mb), (1, .int x1), (2, .int x2), (3, .int x3)]) => ?_)
    refine lv_iload_n hx hb dX12_transit_44 rfl (lv_at hl 6 rfl) ?_
    refine lv_if_eq (tgt := 77) hx hb dX12_transit_45 rfl (fun hc => ?_) (fun hc => ?_)
    · have h := ip hc h
      exact N_transit_77 X hP hF (lv_sub hl [3, 4, 5, 2, 1, 0] rfl) h
    · have h := ine hc h
      refine lv_iload hx hb dX12_transit_48 (lv_at hl 1 rfl) ?_
      refine lv_ldcw hx hb hown (hts _ w_2175) dX12_transit_50 ?_
      refine lv_icmp_eq (tgt := 77) hx hb dX12_transit_53 rfl (fun hc => ?_) (fun hc => ?_)
      · have h := ip hc h
        exact N_transit_77 X hP hF (lv_sub hl [3, 4, 5, 2, 1, 0] rfl) h
      · have h := ine hc h
        refine lv_aload_n hx hb dX12_transit_56 rfl (lv_at hl 3 rfl) ?_
        refine mg_oldVal X hP dX12_transit_57 ?_
        refine lv_iload_n hx hb dX12_transit_60 rfl (lv_at hl 5 rfl) ?_
        obtain ⟨v4, hv4, h⟩ := ob h
        refine m_ald X hP hv4 dX12_transit_61 ?_
        refine lv_ldcw hx hb hown (hts _ w_2175) dX12_transit_62 ?_
        refine lv_icmp_eq (tgt := 77) hx hb dX12_transit_65 rfl (fun hc => ?_) (fun hc => ?_)
        · have h := ip hc h
          exact N_transit_77 X hP hF (lv_sub hl [3, 4, 5, 2, 1, 0] rfl) h
        · have h := ine hc h
          refine lv_iload hx hb dX12_transit_68 (lv_at hl 0 rfl) ?_
          refine lv_if_le (tgt := 77) hx hb dX12_transit_70 rfl (fun hc => ?_) (fun hc => ?_)
          · have h := ip hc h
            exact N_transit_77 X hP hF (lv_sub hl [3, 4, 5, 2, 1, 0] rfl) h
          · have h := ine hc h
            refine lv_iconst (v := (1:Int32)) hx hb dX12_transit_73 (by decide) ?_
            refine lv_goto (tgt := 78) hx hb dX12_transit_74 rfl ?_
            exact N_transit_78 X hP hF (lv_sub hl [3, 4, 5, 2, 1, 0] rfl) h
  · have h := ip hc h
    obtain rfl := sj h
    exact m_wv X hP hF dX12_transit_29
theorem cl_transit {p : Program} {l : Launch} {e : Env} {s : State} {m : MethodId} {args : Array Value} {below : List Frame} {meth : Method} {c : Code} {D : mD} {mb : Nat} {H : Heap} {locs : List Loc} {Q : State → Prop} {cc : ByteArray} {pc fR lR nL : Nat} {ls : Array Slot} {rest : List Value} {ret : Option FieldType} {σ : mS} (X : mX p s m args meth c cc nL ret D) (hP : mP D mb σ H) (hF : mF mb s.heap H locs) {x1 : Int32} {x2 : Int32} {x3 : Int32} {q : mS} (h : f_transit x1 x2 x3 σ = some q) (hr : 1 + 1 ≤ fR ∧ 8 + (11 + 11) + 23 ≤ lR) (hl : ls.size = nL) (hW : (rest.map fun v => v.category).sum ≤ 8) (hdg : decode cc pc = .ok (.invokevirtual 437, 3)) (kk : ∀ (H1 : Heap) (locs1 : List Loc), mP D mb q H1 → mF mb s.heap H1 locs1 → W p l e (rM fR lR) s m args below meth c H1 locs1 0 0 Q (F0 m (pc + 3) ls rest)) : W p l e (rM fR lR) s m args below meth c H locs 0 0 Q (F0 m pc ls (.int x3 :: .int x2 :: .int x1 :: .ref mb :: rest)) := m_cv (m_run (n := 3) X (K_transit l D mb σ x1 x2 x3 h) ⟨w_2277, w_2279, w_138, w_2280⟩ (hyX rfl (by decide +kernel)) rfl hr hP hl hW hdg rfl) hF kk
-- restyle(I)Z
def f_restyle_316 (k260 : Int32 → Int32 → Int32 → Int32 → mS → Option (Int32 × mS)) (x1 : Int32) (x2 : Int32) (x4 : Int32) (x6 : Int32) (y1 : Int32) (y2 : Int32) (σ : mS) : Option (Int32 × mS) := (wr σ 69 y1 y2).bind (fun s1 => k260 (x1) (x2) (x4) ((x6 + (1:Int32))) s1)
def f_restyle_309 (k260 : Int32 → Int32 → Int32 → Int32 → mS → Option (Int32 × mS)) (x1 : Int32) (x2 : Int32) (x4 : Int32) (x6 : Int32) (y1 : Int32) (σ : mS) : Option (Int32 × mS) := (rd σ 69 x6).bind (fun v1 => f_restyle_316 k260 (x1) (x2) (x4) (x6) (y1) (v1) σ)
def f_restyle_260  : Nat → Int32 → Int32 → Int32 → Int32 → mS → Option (Int32 × mS)
  | 0, _, _, _, _, _ => none
  | n + 1, x1, x2, x4, x6, σ => if (σ.2 70) ≤ x6 then (rzw x4 σ) else ((rd σ 65 x6).bind (fun v1 => if v1 = x1 then (if x2 = (0:Int32) then (f_restyle_309 (f_restyle_260 n) (x1) (x2) (x4) (x6) (x6) σ) else ((rd σ 66 x6).bind (fun v2 => (f_differs (x1) (v2) σ).bind (fun v3 => if v3 = (0:Int32) then (f_restyle_309 (f_restyle_260 n) (x1) (x2) (x4) (x6) (x6) σ) else (f_restyle_316 (f_restyle_260 n) (x1) (x2) (x4) (x6) (x6) ((1:Int32)) σ))))) else (f_restyle_309 (f_restyle_260 n) (x1) (x2) (x4) (x6) (x6) σ)))
def f_restyle_256  (x1 : Int32) (x2 : Int32) (x4 : Int32) (y1 : Int32) (y2 : Int32) (σ : mS) : Option (Int32 × mS) := (wr σ 59 y1 y2).bind (fun s1 => f_restyle_260 4000 (x1) (x2) (x4) ((0:Int32)) s1)
def f_restyle_234  (x1 : Int32) (x2 : Int32) (x4 : Int32) (x5 : Int32) (y1 : Int32) (σ : mS) : Option (Int32 × mS) := if x5 = (0:Int32) then (f_restyle_256 (x1) (x2) (x4) (y1) (((-1):Int32)) σ) else (f_restyle_256 (x1) (x2) (x4) (y1) ((σ.2 54)) σ)
def f_restyle_175  : Nat → Int32 → Int32 → Int32 → Int32 → mS → Option (Int32 × mS)
  | 0, _, _, _, _, _ => none
  | n + 1, x1, x2, x4, x5, σ => if (5:Int32) ≤ x5 then ((rd σ 43 (((12:Int32) * x1) + (11:Int32))).bind (fun v1 => (f_in (v1) ((0:Int32)) ((3:Int32))).bind (fun v2 => if x2 = (0:Int32) then (f_restyle_234 (x1) (x2) (x4) (v2) (x1) σ) else ((f_differs (x1) ((11:Int32)) σ).bind (fun v3 => if v3 = (0:Int32) then ((rd σ 59 x1).bind (fun v4 => f_restyle_256 (x1) (x2) (x4) (x1) (v4) σ)) else (f_restyle_234 (x1) (x2) (x4) (v2) (x1) σ)))))) else ((f_transit (x1) (x5) (x2) σ).bind (fun v5 => f_restyle_175 n (x1) (x2) (x4) ((x5 + (1:Int32))) v5))
def f_restyle_147  : Nat → Int32 → Int32 → Int32 → Int32 → mS → Option (Int32 × mS)
  | 0, _, _, _, _, _ => none
  | n + 1, x1, x2, x4, x5, σ => if (15:Int32) ≤ x5 then (f_restyle_175 4000 (x1) (x2) (x4) ((0:Int32)) σ) else ((f_differs (x1) (x5) σ).bind (fun v1 => f_restyle_147 n (x1) (x2) ((x4 ||| v1)) ((x5 + (1:Int32))) σ))
def f_restyle_142  (x1 : Int32) (x2 : Int32) (y0 : Int32) (σ : mS) : Option (Int32 × mS) := f_restyle_147 4000 (x1) (x2) (y0) ((0:Int32)) σ
def f_restyle_137  (x1 : Int32) (x2 : Int32) (σ : mS) : Option (Int32 × mS) := f_restyle_142 (x1) (x2) ((1:Int32)) σ
def f_restyle_55  : Nat → Int32 → Int32 → Int32 → Int32 → mS → Option (Int32 × mS)
  | 0, _, _, _, _, _ => none
  | n + 1, x1, x2, x3, x4, σ => if (3:Int32) ≤ x4 then ((f_style (x1) ((0:Int32)) ((0:Int32)) ((0:Int32)) σ).bind (fun v1 => (f_sized (x1) ((0:Int32)) v1).bind (fun v2 => (wr v2.2 46 x1 v2.1).bind (fun s3 => if x2 = (0:Int32) then (f_restyle_137 (x1) (x2) s3) else ((rd s3 46 x1).bind (fun v4 => if v4 = x3 then (f_restyle_142 (x1) (x2) ((0:Int32)) s3) else (f_restyle_137 (x1) (x2) s3))))))) else ((rd σ 44 (((3:Int32) * x1) + x4)).bind (fun v5 => (wr σ 83 x4 v5).bind (fun s6 => (rd s6 45 (((3:Int32) * x1) + x4)).bind (fun v7 => (wr s6 84 x4 v7).bind (fun s8 => f_restyle_55 n (x1) (x2) (x3) ((x4 + (1:Int32))) s8)))))
def f_restyle_20  : Nat → Int32 → Int32 → Int32 → Int32 → mS → Option (Int32 × mS)
  | 0, _, _, _, _, _ => none
  | n + 1, x1, x2, x3, x4, σ => if (12:Int32) ≤ x4 then (f_restyle_55 4000 (x1) (x2) (x3) ((0:Int32)) σ) else ((rd σ 43 (((12:Int32) * x1) + x4)).bind (fun v1 => (wr σ 82 x4 v1).bind (fun s2 => f_restyle_20 n (x1) (x2) (x3) ((x4 + (1:Int32))) s2)))
def f_restyle (x1 : Int32) (σ : mS) : Option (Int32 × mS) := (f_bit ((σ.2 48)) (x1)).bind (fun v1 => (rd σ 46 x1).bind (fun v2 => f_restyle_20 4000 (x1) (v1) (v2) ((0:Int32)) σ))
set_option maxRecDepth 20000 in
set_option maxHeartbeats 4000000 in
theorem N_restyle_316 {p : Program} {l : Launch} {e : Env} {s : State} {m : MethodId} {args : Array Value} {below : List Frame} {meth : Method} {c : Code} {D : mD} {mb : Nat} {k260 : Int32 → Int32 → Int32 → Int32 → mS → Option (Int32 × mS)}  {x1 : Int32} {x2 : Int32} {x4 : Int32} {x6 : Int32} {y1 : Int32} {y2 : Int32} {σ : mS} {H : Heap} {locs : List Loc} {ls : Array Slot} {q : Int32 × mS} (X : mX p s m args meth c cX12_restyle 7 (some .boolean) D) (hP : mP D mb σ H) (hF : mF mb s.heap H locs) (hk260 : ∀ {x1 : Int32} {x2 : Int32} {x4 : Int32} {x6 : Int32} {σ : mS} {H : Heap} {locs : List Loc} {ls : Array Slot}, mP D mb σ H → mF mb s.heap H locs → lv_has ls 7 [(0, .ref mb), (1, .int x1), (2, .int x2), (4, .int x4), (6, .int x6)] → k260 x1 x2 x4 x6 σ = some q → mWw p l e 13 333 s m args below meth c D mb q.2 (some (.int q.1)) H locs (F0 m 260 ls [])) (hl : lv_has ls 7 [(0, .ref mb), (1, .int x1), (2, .int x2), (4, .int x4), (6, .int x6)]) (h : f_restyle_316 k260 x1 x2 x4 x6 y1 y2 σ = some q) : mWw p l e 13 333 s m args below meth c D mb q.2 (some (.int q.1)) H locs (F0 m 316 ls [.int y2, .int y1, .ref (mA mb 69)]) := by
  have hx := X.1
  have hb := X.2.1
  have hown := X.2.2.2.1
  have hts := X.2.2.2.2.1
  have h : ((wr σ 69 y1 y2).bind (fun s1 => k260 (x1) (x2) (x4) ((x6 + (1:Int32))) s1)) = some q := h
  obtain ⟨s1, hs1, h⟩ := ob h
  refine m_ast X hP hF hs1 dX12_restyle_316 (fun H locs hP hF => ?_)
  refine lv_iinc (v := (x6 + (1:Int32))) hx hb dX12_restyle_317 hl (k := 4) rfl rfl (Nat.le_of_ble_eq_true rfl) rfl (fun ls (hl : lv_has ls 7 [(6, .int (x6 + (1:Int32))), (0, .ref mb), (1, .int x1), (2, .int x2), (4, .int x4)]) => ?_)
  refine lv_goto (tgt := 260) hx hb dX12_restyle_320 rfl ?_
  exact hk260 hP hF (lv_sub hl [1, 2, 3, 4, 0] rfl) h
set_option maxRecDepth 20000 in
set_option maxHeartbeats 4000000 in
theorem N_restyle_309 {p : Program} {l : Launch} {e : Env} {s : State} {m : MethodId} {args : Array Value} {below : List Frame} {meth : Method} {c : Code} {D : mD} {mb : Nat} {k260 : Int32 → Int32 → Int32 → Int32 → mS → Option (Int32 × mS)}  {x1 : Int32} {x2 : Int32} {x4 : Int32} {x6 : Int32} {y1 : Int32} {σ : mS} {H : Heap} {locs : List Loc} {ls : Array Slot} {q : Int32 × mS} (X : mX p s m args meth c cX12_restyle 7 (some .boolean) D) (hP : mP D mb σ H) (hF : mF mb s.heap H locs) (hk260 : ∀ {x1 : Int32} {x2 : Int32} {x4 : Int32} {x6 : Int32} {σ : mS} {H : Heap} {locs : List Loc} {ls : Array Slot}, mP D mb σ H → mF mb s.heap H locs → lv_has ls 7 [(0, .ref mb), (1, .int x1), (2, .int x2), (4, .int x4), (6, .int x6)] → k260 x1 x2 x4 x6 σ = some q → mWw p l e 13 333 s m args below meth c D mb q.2 (some (.int q.1)) H locs (F0 m 260 ls [])) (hl : lv_has ls 7 [(0, .ref mb), (1, .int x1), (2, .int x2), (4, .int x4), (6, .int x6)]) (h : f_restyle_309 k260 x1 x2 x4 x6 y1 σ = some q) : mWw p l e 13 333 s m args below meth c D mb q.2 (some (.int q.1)) H locs (F0 m 309 ls [.int y1, .ref (mA mb 69)]) := by
  have hx := X.1
  have hb := X.2.1
  have hown := X.2.2.2.1
  have hts := X.2.2.2.2.1
  have h : ((rd σ 69 x6).bind (fun v1 => f_restyle_316 k260 (x1) (x2) (x4) (x6) (y1) (v1) σ)) = some q := h
  refine lv_aload_n hx hb dX12_restyle_309 rfl (lv_at hl 0 rfl) ?_
  refine mg_lx X hP dX12_restyle_310 ?_
  refine lv_iload hx hb dX12_restyle_313 (lv_at hl 4 rfl) ?_
  obtain ⟨v1, hv1, h⟩ := ob h
  refine m_ald X hP hv1 dX12_restyle_315 ?_
  exact N_restyle_316 X hP hF hk260 (lv_sub hl [0, 1, 2, 3, 4] rfl) h
set_option maxRecDepth 20000 in
set_option maxHeartbeats 4000000 in
theorem N_restyle_260 {p : Program} {l : Launch} {e : Env} {s : State} {m : MethodId} {args : Array Value} {below : List Frame} {meth : Method} {c : Code} {D : mD} {mb : Nat}  {n : Nat} {x1 : Int32} {x2 : Int32} {x4 : Int32} {x6 : Int32} {σ : mS} {H : Heap} {locs : List Loc} {ls : Array Slot} {q : Int32 × mS} (X : mX p s m args meth c cX12_restyle 7 (some .boolean) D) (hP : mP D mb σ H) (hF : mF mb s.heap H locs)  (hl : lv_has ls 7 [(0, .ref mb), (1, .int x1), (2, .int x2), (4, .int x4), (6, .int x6)]) (h : f_restyle_260  n x1 x2 x4 x6 σ = some q) : mWw p l e 13 333 s m args below meth c D mb q.2 (some (.int q.1)) H locs (F0 m 260 ls []) := by
  have hx := X.1
  have hb := X.2.1
  have hown := X.2.2.2.1
  have hts := X.2.2.2.2.1
  induction n generalizing x1 x2 x4 x6 σ H locs ls with
  | zero => exact absurd (show none = some q from h) (by simp)
  | succ n ih =>
    have h : (if (σ.2 70) ≤ x6 then (rzw x4 σ) else ((rd σ 65 x6).bind (fun v1 => if v1 = x1 then (if x2 = (0:Int32) then (f_restyle_309 (f_restyle_260 n) (x1) (x2) (x4) (x6) (x6) σ) else ((rd σ 66 x6).bind (fun v2 => (f_differs (x1) (v2) σ).bind (fun v3 => if v3 = (0:Int32) then (f_restyle_309 (f_restyle_260 n) (x1) (x2) (x4) (x6) (x6) σ) else (f_restyle_316 (f_restyle_260 n) (x1) (x2) (x4) (x6) (x6) ((1:Int32)) σ))))) else (f_restyle_309 (f_restyle_260 n) (x1) (x2) (x4) (x6) (x6) σ)))) = some q := h
    refine lv_iload hx hb dX12_restyle_260 (lv_at hl 4 rfl) ?_
    refine lv_aload_n hx hb dX12_restyle_262 rfl (lv_at hl 0 rfl) ?_
    refine mg_listeners X hP dX12_restyle_263 ?_
    refine lv_icmp_ge (tgt := 323) hx hb dX12_restyle_266 rfl (fun hc => ?_) (fun hc => ?_)
    · have h := ip hc h
      refine lv_iload hx hb dX12_restyle_323 (lv_at hl 3 rfl) ?_
      obtain ⟨hz, rfl⟩ := rzw_spec h
      exact m_wz X hz hP hF dX12_restyle_325
    · have h := ine hc h
      refine lv_aload_n hx hb dX12_restyle_269 rfl (lv_at hl 0 rfl) ?_
      refine mg_lx X hP dX12_restyle_270 ?_
      refine lv_iload hx hb dX12_restyle_273 (lv_at hl 4 rfl) ?_
      refine lv_aload_n hx hb dX12_restyle_275 rfl (lv_at hl 0 rfl) ?_
      refine mg_le X hP dX12_restyle_276 ?_
      refine lv_iload hx hb dX12_restyle_279 (lv_at hl 4 rfl) ?_
      obtain ⟨v1, hv1, h⟩ := ob h
      refine m_ald X hP hv1 dX12_restyle_281 ?_
      refine lv_iload_n hx hb dX12_restyle_282 rfl (lv_at hl 1 rfl) ?_
      refine lv_icmp_ne (tgt := 309) hx hb dX12_restyle_283 rfl (fun hc => ?_) (fun hc => ?_)
      · have h := ine hc h
        exact N_restyle_309 X hP hF ih (lv_sub hl [0, 1, 2, 3, 4] rfl) h
      · have h := ip hc h
        refine lv_iload_n hx hb dX12_restyle_286 rfl (lv_at hl 2 rfl) ?_
        refine lv_if_eq (tgt := 309) hx hb dX12_restyle_287 rfl (fun hc => ?_) (fun hc => ?_)
        · have h := ip hc h
          exact N_restyle_309 X hP hF ih (lv_sub hl [0, 1, 2, 3, 4] rfl) h
        · have h := ine hc h
          refine lv_aload_n hx hb dX12_restyle_290 rfl (lv_at hl 0 rfl) ?_
          refine lv_iload_n hx hb dX12_restyle_291 rfl (lv_at hl 1 rfl) ?_
          refine lv_aload_n hx hb dX12_restyle_292 rfl (lv_at hl 0 rfl) ?_
          refine mg_lp X hP dX12_restyle_293 ?_
          refine lv_iload hx hb dX12_restyle_296 (lv_at hl 4 rfl) ?_
          obtain ⟨v2, hv2, h⟩ := ob h
          refine m_ald X hP hv2 dX12_restyle_298 ?_
          obtain ⟨v3, hv3, h⟩ := ob h
          refine cl_differs X hP hv3 ⟨Nat.le_of_ble_eq_true rfl, Nat.le_of_ble_eq_true rfl⟩ hl.1 (Nat.le_of_ble_eq_true rfl) dX12_restyle_299 ?_
          refine lv_if_eq (tgt := 309) hx hb dX12_restyle_302 rfl (fun hc => ?_) (fun hc => ?_)
          · have h := ip hc h
            exact N_restyle_309 X hP hF ih (lv_sub hl [0, 1, 2, 3, 4] rfl) h
          · have h := ine hc h
            refine lv_iconst (v := (1:Int32)) hx hb dX12_restyle_305 (by decide) ?_
            refine lv_goto (tgt := 316) hx hb dX12_restyle_306 rfl ?_
            exact N_restyle_316 X hP hF ih (lv_sub hl [0, 1, 2, 3, 4] rfl) h
set_option maxRecDepth 20000 in
set_option maxHeartbeats 4000000 in
theorem N_restyle_256 {p : Program} {l : Launch} {e : Env} {s : State} {m : MethodId} {args : Array Value} {below : List Frame} {meth : Method} {c : Code} {D : mD} {mb : Nat}   {x1 : Int32} {x2 : Int32} {x4 : Int32} {y1 : Int32} {y2 : Int32} {σ : mS} {H : Heap} {locs : List Loc} {ls : Array Slot} {q : Int32 × mS} (X : mX p s m args meth c cX12_restyle 7 (some .boolean) D) (hP : mP D mb σ H) (hF : mF mb s.heap H locs)  (hl : lv_has ls 7 [(0, .ref mb), (1, .int x1), (2, .int x2), (4, .int x4)]) (h : f_restyle_256  x1 x2 x4 y1 y2 σ = some q) : mWw p l e 13 333 s m args below meth c D mb q.2 (some (.int q.1)) H locs (F0 m 256 ls [.int y2, .int y1, .ref (mA mb 59)]) := by
  have hx := X.1
  have hb := X.2.1
  have hown := X.2.2.2.1
  have hts := X.2.2.2.2.1
  have h : ((wr σ 59 y1 y2).bind (fun s1 => f_restyle_260 4000 (x1) (x2) (x4) ((0:Int32)) s1)) = some q := h
  obtain ⟨s1, hs1, h⟩ := ob h
  refine m_ast X hP hF hs1 dX12_restyle_256 (fun H locs hP hF => ?_)
  refine lv_iconst (v := (0:Int32)) hx hb dX12_restyle_257 (by decide) ?_
  refine lv_istore hx hb dX12_restyle_258 hl (Nat.le_of_ble_eq_true rfl) rfl (fun ls (hl : lv_has ls 7 [(6, .int (0:Int32)), (0, .ref mb), (1, .int x1), (2, .int x2), (4, .int x4)]) => ?_)
  exact N_restyle_260 X hP hF (lv_sub hl [1, 2, 3, 4, 0] rfl) h
set_option maxRecDepth 20000 in
set_option maxHeartbeats 4000000 in
theorem N_restyle_234 {p : Program} {l : Launch} {e : Env} {s : State} {m : MethodId} {args : Array Value} {below : List Frame} {meth : Method} {c : Code} {D : mD} {mb : Nat}   {x1 : Int32} {x2 : Int32} {x4 : Int32} {x5 : Int32} {y1 : Int32} {σ : mS} {H : Heap} {locs : List Loc} {ls : Array Slot} {q : Int32 × mS} (X : mX p s m args meth c cX12_restyle 7 (some .boolean) D) (hP : mP D mb σ H) (hF : mF mb s.heap H locs)  (hl : lv_has ls 7 [(0, .ref mb), (1, .int x1), (2, .int x2), (4, .int x4), (5, .int x5)]) (h : f_restyle_234  x1 x2 x4 x5 y1 σ = some q) : mWw p l e 13 333 s m args below meth c D mb q.2 (some (.int q.1)) H locs (F0 m 234 ls [.int y1, .ref (mA mb 59)]) := by
  have hx := X.1
  have hb := X.2.1
  have hown := X.2.2.2.1
  have hts := X.2.2.2.2.1
  have h : (if x5 = (0:Int32) then (f_restyle_256 (x1) (x2) (x4) (y1) (((-1):Int32)) σ) else (f_restyle_256 (x1) (x2) (x4) (y1) ((σ.2 54)) σ)) = some q := h
  refine lv_iload hx hb dX12_restyle_234 (lv_at hl 4 rfl) ?_
  refine lv_if_eq (tgt := 246) hx hb dX12_restyle_236 rfl (fun hc => ?_) (fun hc => ?_)
  · have h := ip hc h
    refine lv_iconst (v := ((-1):Int32)) hx hb dX12_restyle_246 (by decide) ?_
    refine lv_goto (tgt := 256) hx hb dX12_restyle_247 rfl ?_
    exact N_restyle_256 X hP hF (lv_sub hl [0, 1, 2, 3] rfl) h
  · have h := ine hc h
    refine lv_aload_n hx hb dX12_restyle_239 rfl (lv_at hl 0 rfl) ?_
    refine mg_now X hP dX12_restyle_240 ?_
    refine lv_goto (tgt := 256) hx hb dX12_restyle_243 rfl ?_
    exact N_restyle_256 X hP hF (lv_sub hl [0, 1, 2, 3] rfl) h
set_option maxRecDepth 20000 in
set_option maxHeartbeats 4000000 in
theorem N_restyle_175 {p : Program} {l : Launch} {e : Env} {s : State} {m : MethodId} {args : Array Value} {below : List Frame} {meth : Method} {c : Code} {D : mD} {mb : Nat}  {n : Nat} {x1 : Int32} {x2 : Int32} {x4 : Int32} {x5 : Int32} {σ : mS} {H : Heap} {locs : List Loc} {ls : Array Slot} {q : Int32 × mS} (X : mX p s m args meth c cX12_restyle 7 (some .boolean) D) (hP : mP D mb σ H) (hF : mF mb s.heap H locs)  (hl : lv_has ls 7 [(0, .ref mb), (1, .int x1), (2, .int x2), (4, .int x4), (5, .int x5)]) (h : f_restyle_175  n x1 x2 x4 x5 σ = some q) : mWw p l e 13 333 s m args below meth c D mb q.2 (some (.int q.1)) H locs (F0 m 175 ls []) := by
  have hx := X.1
  have hb := X.2.1
  have hown := X.2.2.2.1
  have hts := X.2.2.2.2.1
  induction n generalizing x1 x2 x4 x5 σ H locs ls with
  | zero => exact absurd (show none = some q from h) (by simp)
  | succ n ih =>
    have h : (if (5:Int32) ≤ x5 then ((rd σ 43 (((12:Int32) * x1) + (11:Int32))).bind (fun v1 => (f_in (v1) ((0:Int32)) ((3:Int32))).bind (fun v2 => if x2 = (0:Int32) then (f_restyle_234 (x1) (x2) (x4) (v2) (x1) σ) else ((f_differs (x1) ((11:Int32)) σ).bind (fun v3 => if v3 = (0:Int32) then ((rd σ 59 x1).bind (fun v4 => f_restyle_256 (x1) (x2) (x4) (x1) (v4) σ)) else (f_restyle_234 (x1) (x2) (x4) (v2) (x1) σ)))))) else ((f_transit (x1) (x5) (x2) σ).bind (fun v5 => f_restyle_175 n (x1) (x2) (x4) ((x5 + (1:Int32))) v5))) = some q := h
    refine lv_iload hx hb dX12_restyle_175 (lv_at hl 4 rfl) ?_
    refine lv_iconst (v := (5:Int32)) hx hb dX12_restyle_177 (by decide) ?_
    refine lv_icmp_ge (tgt := 195) hx hb dX12_restyle_178 rfl (fun hc => ?_) (fun hc => ?_)
    · have h := ip hc h
      refine lv_aload_n hx hb dX12_restyle_195 rfl (lv_at hl 0 rfl) ?_
      refine lv_aload_n hx hb dX12_restyle_196 rfl (lv_at hl 0 rfl) ?_
      refine mg_val X hP dX12_restyle_197 ?_
      refine lv_bipush (v := (12:Int32)) hx hb dX12_restyle_200 (by decide) ?_
      refine lv_iload_n hx hb dX12_restyle_202 rfl (lv_at hl 1 rfl) ?_
      refine lv_imul hx hb dX12_restyle_203 ?_
      refine lv_bipush (v := (11:Int32)) hx hb dX12_restyle_204 (by decide) ?_
      refine lv_iadd hx hb dX12_restyle_206 ?_
      obtain ⟨v1, hv1, h⟩ := ob h
      refine m_ald X hP hv1 dX12_restyle_207 ?_
      refine lv_iconst (v := (0:Int32)) hx hb dX12_restyle_208 (by decide) ?_
      refine lv_iconst (v := (3:Int32)) hx hb dX12_restyle_209 (by decide) ?_
      obtain ⟨v2, hv2, h⟩ := ob h
      refine cl_in X hP hv2 ⟨Nat.le_of_ble_eq_true rfl, Nat.le_of_ble_eq_true rfl⟩ hl.1 (Nat.le_of_ble_eq_true rfl) dX12_restyle_210 ?_
      refine lv_istore hx hb dX12_restyle_213 hl (Nat.le_of_ble_eq_true rfl) rfl (fun ls (hl : lv_has ls 7 [(5, .int v2), (0, .ref mb), (1, .int x1), (2, .int x2), (4, .int x4)]) => ?_)
      refine lv_aload_n hx hb dX12_restyle_215 rfl (lv_at hl 1 rfl) ?_
      refine mg_an X hP dX12_restyle_216 ?_
      refine lv_iload_n hx hb dX12_restyle_219 rfl (lv_at hl 2 rfl) ?_
      refine lv_iload_n hx hb dX12_restyle_220 rfl (lv_at hl 3 rfl) ?_
      refine lv_if_eq (tgt := 234) hx hb dX12_restyle_221 rfl (fun hc => ?_) (fun hc => ?_)
      · have h := ip hc h
        exact N_restyle_234 X hP hF (lv_sub hl [1, 2, 3, 4, 0] rfl) h
      · have h := ine hc h
        refine lv_aload_n hx hb dX12_restyle_224 rfl (lv_at hl 1 rfl) ?_
        refine lv_iload_n hx hb dX12_restyle_225 rfl (lv_at hl 2 rfl) ?_
        refine lv_bipush (v := (11:Int32)) hx hb dX12_restyle_226 (by decide) ?_
        obtain ⟨v3, hv3, h⟩ := ob h
        refine cl_differs X hP hv3 ⟨Nat.le_of_ble_eq_true rfl, Nat.le_of_ble_eq_true rfl⟩ hl.1 (Nat.le_of_ble_eq_true rfl) dX12_restyle_228 ?_
        refine lv_if_eq (tgt := 250) hx hb dX12_restyle_231 rfl (fun hc => ?_) (fun hc => ?_)
        · have h := ip hc h
          refine lv_aload_n hx hb dX12_restyle_250 rfl (lv_at hl 1 rfl) ?_
          refine mg_an X hP dX12_restyle_251 ?_
          refine lv_iload_n hx hb dX12_restyle_254 rfl (lv_at hl 2 rfl) ?_
          obtain ⟨v4, hv4, h⟩ := ob h
          refine m_ald X hP hv4 dX12_restyle_255 ?_
          exact N_restyle_256 X hP hF (lv_sub hl [1, 2, 3, 4] rfl) h
        · have h := ine hc h
          exact N_restyle_234 X hP hF (lv_sub hl [1, 2, 3, 4, 0] rfl) h
    · have h := ine hc h
      refine lv_aload_n hx hb dX12_restyle_181 rfl (lv_at hl 0 rfl) ?_
      refine lv_iload_n hx hb dX12_restyle_182 rfl (lv_at hl 1 rfl) ?_
      refine lv_iload hx hb dX12_restyle_183 (lv_at hl 4 rfl) ?_
      refine lv_iload_n hx hb dX12_restyle_185 rfl (lv_at hl 2 rfl) ?_
      obtain ⟨v5, hv5, h⟩ := ob h
      refine cl_transit X hP hF hv5 ⟨Nat.le_of_ble_eq_true rfl, Nat.le_of_ble_eq_true rfl⟩ hl.1 (Nat.le_of_ble_eq_true rfl) dX12_restyle_186 (fun H locs hP hF => ?_)
      refine lv_iinc (v := (x5 + (1:Int32))) hx hb dX12_restyle_189 hl (k := 4) rfl rfl (Nat.le_of_ble_eq_true rfl) rfl (fun ls (hl : lv_has ls 7 [(5, .int (x5 + (1:Int32))), (0, .ref mb), (1, .int x1), (2, .int x2), (4, .int x4)]) => ?_)
      refine lv_goto (tgt := 175) hx hb dX12_restyle_192 rfl ?_
      exact ih hP hF (lv_sub hl [1, 2, 3, 4, 0] rfl) h
set_option maxRecDepth 20000 in
set_option maxHeartbeats 4000000 in
theorem N_restyle_147 {p : Program} {l : Launch} {e : Env} {s : State} {m : MethodId} {args : Array Value} {below : List Frame} {meth : Method} {c : Code} {D : mD} {mb : Nat}  {n : Nat} {x1 : Int32} {x2 : Int32} {x4 : Int32} {x5 : Int32} {σ : mS} {H : Heap} {locs : List Loc} {ls : Array Slot} {q : Int32 × mS} (X : mX p s m args meth c cX12_restyle 7 (some .boolean) D) (hP : mP D mb σ H) (hF : mF mb s.heap H locs)  (hl : lv_has ls 7 [(0, .ref mb), (1, .int x1), (2, .int x2), (4, .int x4), (5, .int x5)]) (h : f_restyle_147  n x1 x2 x4 x5 σ = some q) : mWw p l e 13 333 s m args below meth c D mb q.2 (some (.int q.1)) H locs (F0 m 147 ls []) := by
  have hx := X.1
  have hb := X.2.1
  have hown := X.2.2.2.1
  have hts := X.2.2.2.2.1
  induction n generalizing x1 x2 x4 x5 σ H locs ls with
  | zero => exact absurd (show none = some q from h) (by simp)
  | succ n ih =>
    have h : (if (15:Int32) ≤ x5 then (f_restyle_175 4000 (x1) (x2) (x4) ((0:Int32)) σ) else ((f_differs (x1) (x5) σ).bind (fun v1 => f_restyle_147 n (x1) (x2) ((x4 ||| v1)) ((x5 + (1:Int32))) σ))) = some q := h
    refine lv_iload hx hb dX12_restyle_147 (lv_at hl 4 rfl) ?_
    refine lv_bipush (v := (15:Int32)) hx hb dX12_restyle_149 (by decide) ?_
    refine lv_icmp_ge (tgt := 172) hx hb dX12_restyle_151 rfl (fun hc => ?_) (fun hc => ?_)
    · have h := ip hc h
      refine lv_iconst (v := (0:Int32)) hx hb dX12_restyle_172 (by decide) ?_
      refine lv_istore hx hb dX12_restyle_173 hl (Nat.le_of_ble_eq_true rfl) rfl (fun ls (hl : lv_has ls 7 [(5, .int (0:Int32)), (0, .ref mb), (1, .int x1), (2, .int x2), (4, .int x4)]) => ?_)
      exact N_restyle_175 X hP hF (lv_sub hl [1, 2, 3, 4, 0] rfl) h
    · have h := ine hc h
      refine lv_iload hx hb dX12_restyle_154 (lv_at hl 3 rfl) ?_
      refine lv_aload_n hx hb dX12_restyle_156 rfl (lv_at hl 0 rfl) ?_
      refine lv_iload_n hx hb dX12_restyle_157 rfl (lv_at hl 1 rfl) ?_
      refine lv_iload hx hb dX12_restyle_158 (lv_at hl 4 rfl) ?_
      obtain ⟨v1, hv1, h⟩ := ob h
      refine cl_differs X hP hv1 ⟨Nat.le_of_ble_eq_true rfl, Nat.le_of_ble_eq_true rfl⟩ hl.1 (Nat.le_of_ble_eq_true rfl) dX12_restyle_160 ?_
      refine lv_ior hx hb dX12_restyle_163 ?_
      refine lv_istore hx hb dX12_restyle_164 hl (Nat.le_of_ble_eq_true rfl) rfl (fun ls (hl : lv_has ls 7 [(4, .int (x4 ||| v1)), (0, .ref mb), (1, .int x1), (2, .int x2), (5, .int x5)]) => ?_)
      refine lv_iinc (v := (x5 + (1:Int32))) hx hb dX12_restyle_166 hl (k := 4) rfl rfl (Nat.le_of_ble_eq_true rfl) rfl (fun ls (hl : lv_has ls 7 [(5, .int (x5 + (1:Int32))), (4, .int (x4 ||| v1)), (0, .ref mb), (1, .int x1), (2, .int x2)]) => ?_)
      refine lv_goto (tgt := 147) hx hb dX12_restyle_169 rfl ?_
      exact ih hP hF (lv_sub hl [2, 3, 4, 1, 0] rfl) h
set_option maxRecDepth 20000 in
set_option maxHeartbeats 4000000 in
theorem N_restyle_142 {p : Program} {l : Launch} {e : Env} {s : State} {m : MethodId} {args : Array Value} {below : List Frame} {meth : Method} {c : Code} {D : mD} {mb : Nat}   {x1 : Int32} {x2 : Int32} {y0 : Int32} {σ : mS} {H : Heap} {locs : List Loc} {ls : Array Slot} {q : Int32 × mS} (X : mX p s m args meth c cX12_restyle 7 (some .boolean) D) (hP : mP D mb σ H) (hF : mF mb s.heap H locs)  (hl : lv_has ls 7 [(0, .ref mb), (1, .int x1), (2, .int x2)]) (h : f_restyle_142  x1 x2 y0 σ = some q) : mWw p l e 13 333 s m args below meth c D mb q.2 (some (.int q.1)) H locs (F0 m 142 ls [.int y0]) := by
  have hx := X.1
  have hb := X.2.1
  have hown := X.2.2.2.1
  have hts := X.2.2.2.2.1
  have h : (f_restyle_147 4000 (x1) (x2) (y0) ((0:Int32)) σ) = some q := h
  refine lv_istore hx hb dX12_restyle_142 hl (Nat.le_of_ble_eq_true rfl) rfl (fun ls (hl : lv_has ls 7 [(4, .int y0), (0, .ref mb), (1, .int x1), (2, .int x2)]) => ?_)
  refine lv_iconst (v := (0:Int32)) hx hb dX12_restyle_144 (by decide) ?_
  refine lv_istore hx hb dX12_restyle_145 hl (Nat.le_of_ble_eq_true rfl) rfl (fun ls (hl : lv_has ls 7 [(5, .int (0:Int32)), (4, .int y0), (0, .ref mb), (1, .int x1), (2, .int x2)]) => ?_)
  exact N_restyle_147 X hP hF (lv_sub hl [2, 3, 4, 1, 0] rfl) h
set_option maxRecDepth 20000 in
set_option maxHeartbeats 4000000 in
theorem N_restyle_137 {p : Program} {l : Launch} {e : Env} {s : State} {m : MethodId} {args : Array Value} {below : List Frame} {meth : Method} {c : Code} {D : mD} {mb : Nat}   {x1 : Int32} {x2 : Int32} {σ : mS} {H : Heap} {locs : List Loc} {ls : Array Slot} {q : Int32 × mS} (X : mX p s m args meth c cX12_restyle 7 (some .boolean) D) (hP : mP D mb σ H) (hF : mF mb s.heap H locs)  (hl : lv_has ls 7 [(0, .ref mb), (1, .int x1), (2, .int x2)]) (h : f_restyle_137  x1 x2 σ = some q) : mWw p l e 13 333 s m args below meth c D mb q.2 (some (.int q.1)) H locs (F0 m 137 ls []) := by
  have hx := X.1
  have hb := X.2.1
  have hown := X.2.2.2.1
  have hts := X.2.2.2.2.1
  have h : (f_restyle_142 (x1) (x2) ((1:Int32)) σ) = some q := h
  refine lv_iconst (v := (1:Int32)) hx hb dX12_restyle_137 (by decide) ?_
  refine lv_goto (tgt := 142) hx hb dX12_restyle_138 rfl ?_
  exact N_restyle_142 X hP hF (lv_sub hl [0, 1, 2] rfl) h
set_option maxRecDepth 20000 in
set_option maxHeartbeats 4000000 in
theorem N_restyle_55 {p : Program} {l : Launch} {e : Env} {s : State} {m : MethodId} {args : Array Value} {below : List Frame} {meth : Method} {c : Code} {D : mD} {mb : Nat}  {n : Nat} {x1 : Int32} {x2 : Int32} {x3 : Int32} {x4 : Int32} {σ : mS} {H : Heap} {locs : List Loc} {ls : Array Slot} {q : Int32 × mS} (X : mX p s m args meth c cX12_restyle 7 (some .boolean) D) (hP : mP D mb σ H) (hF : mF mb s.heap H locs)  (hl : lv_has ls 7 [(0, .ref mb), (1, .int x1), (2, .int x2), (3, .int x3), (4, .int x4)]) (h : f_restyle_55  n x1 x2 x3 x4 σ = some q) : mWw p l e 13 333 s m args below meth c D mb q.2 (some (.int q.1)) H locs (F0 m 55 ls []) := by
  have hx := X.1
  have hb := X.2.1
  have hown := X.2.2.2.1
  have hts := X.2.2.2.2.1
  induction n generalizing x1 x2 x3 x4 σ H locs ls with
  | zero => exact absurd (show none = some q from h) (by simp)
  | succ n ih =>
    have h : (if (3:Int32) ≤ x4 then ((f_style (x1) ((0:Int32)) ((0:Int32)) ((0:Int32)) σ).bind (fun v1 => (f_sized (x1) ((0:Int32)) v1).bind (fun v2 => (wr v2.2 46 x1 v2.1).bind (fun s3 => if x2 = (0:Int32) then (f_restyle_137 (x1) (x2) s3) else ((rd s3 46 x1).bind (fun v4 => if v4 = x3 then (f_restyle_142 (x1) (x2) ((0:Int32)) s3) else (f_restyle_137 (x1) (x2) s3))))))) else ((rd σ 44 (((3:Int32) * x1) + x4)).bind (fun v5 => (wr σ 83 x4 v5).bind (fun s6 => (rd s6 45 (((3:Int32) * x1) + x4)).bind (fun v7 => (wr s6 84 x4 v7).bind (fun s8 => f_restyle_55 n (x1) (x2) (x3) ((x4 + (1:Int32))) s8)))))) = some q := h
    refine lv_iload hx hb dX12_restyle_55 (lv_at hl 4 rfl) ?_
    refine lv_iconst (v := (3:Int32)) hx hb dX12_restyle_57 (by decide) ?_
    refine lv_icmp_ge (tgt := 103) hx hb dX12_restyle_58 rfl (fun hc => ?_) (fun hc => ?_)
    · have h := ip hc h
      refine lv_aload_n hx hb dX12_restyle_103 rfl (lv_at hl 0 rfl) ?_
      refine lv_iload_n hx hb dX12_restyle_104 rfl (lv_at hl 1 rfl) ?_
      refine lv_iconst (v := (0:Int32)) hx hb dX12_restyle_105 (by decide) ?_
      refine lv_iconst (v := (0:Int32)) hx hb dX12_restyle_106 (by decide) ?_
      refine lv_iconst (v := (0:Int32)) hx hb dX12_restyle_107 (by decide) ?_
      obtain ⟨v1, hv1, h⟩ := ob h
      refine cl_style X hP hF hv1 ⟨Nat.le_of_ble_eq_true rfl, Nat.le_of_ble_eq_true rfl⟩ hl.1 (Nat.le_of_ble_eq_true rfl) dX12_restyle_108 (fun H locs hP hF => ?_)
      refine lv_aload_n hx hb dX12_restyle_111 rfl (lv_at hl 0 rfl) ?_
      refine mg_sz X hP dX12_restyle_112 ?_
      refine lv_iload_n hx hb dX12_restyle_115 rfl (lv_at hl 1 rfl) ?_
      refine lv_aload_n hx hb dX12_restyle_116 rfl (lv_at hl 0 rfl) ?_
      refine lv_iload_n hx hb dX12_restyle_117 rfl (lv_at hl 1 rfl) ?_
      refine lv_iconst (v := (0:Int32)) hx hb dX12_restyle_118 (by decide) ?_
      obtain ⟨v2, hv2, h⟩ := ob h
      refine cl_sized X hP hF hv2 ⟨Nat.le_of_ble_eq_true rfl, Nat.le_of_ble_eq_true rfl⟩ hl.1 (Nat.le_of_ble_eq_true rfl) dX12_restyle_119 (fun H locs hP hF => ?_)
      obtain ⟨s3, hs3, h⟩ := ob h
      refine m_ast X hP hF hs3 dX12_restyle_122 (fun H locs hP hF => ?_)
      refine lv_iload_n hx hb dX12_restyle_123 rfl (lv_at hl 2 rfl) ?_
      refine lv_if_eq (tgt := 137) hx hb dX12_restyle_124 rfl (fun hc => ?_) (fun hc => ?_)
      · have h := ip hc h
        exact N_restyle_137 X hP hF (lv_sub hl [0, 1, 2] rfl) h
      · have h := ine hc h
        refine lv_aload_n hx hb dX12_restyle_127 rfl (lv_at hl 0 rfl) ?_
        refine mg_sz X hP dX12_restyle_128 ?_
        refine lv_iload_n hx hb dX12_restyle_131 rfl (lv_at hl 1 rfl) ?_
        obtain ⟨v4, hv4, h⟩ := ob h
        refine m_ald X hP hv4 dX12_restyle_132 ?_
        refine lv_iload_n hx hb dX12_restyle_133 rfl (lv_at hl 3 rfl) ?_
        refine lv_icmp_eq (tgt := 141) hx hb dX12_restyle_134 rfl (fun hc => ?_) (fun hc => ?_)
        · have h := ip hc h
          refine lv_iconst (v := (0:Int32)) hx hb dX12_restyle_141 (by decide) ?_
          exact N_restyle_142 X hP hF (lv_sub hl [0, 1, 2] rfl) h
        · have h := ine hc h
          exact N_restyle_137 X hP hF (lv_sub hl [0, 1, 2] rfl) h
    · have h := ine hc h
      refine lv_aload_n hx hb dX12_restyle_61 rfl (lv_at hl 0 rfl) ?_
      refine mg_oldUnit X hP dX12_restyle_62 ?_
      refine lv_iload hx hb dX12_restyle_65 (lv_at hl 4 rfl) ?_
      refine lv_aload_n hx hb dX12_restyle_67 rfl (lv_at hl 0 rfl) ?_
      refine mg_vu X hP dX12_restyle_68 ?_
      refine lv_iconst (v := (3:Int32)) hx hb dX12_restyle_71 (by decide) ?_
      refine lv_iload_n hx hb dX12_restyle_72 rfl (lv_at hl 1 rfl) ?_
      refine lv_imul hx hb dX12_restyle_73 ?_
      refine lv_iload hx hb dX12_restyle_74 (lv_at hl 4 rfl) ?_
      refine lv_iadd hx hb dX12_restyle_76 ?_
      obtain ⟨v5, hv5, h⟩ := ob h
      refine m_ald X hP hv5 dX12_restyle_77 ?_
      obtain ⟨s6, hs6, h⟩ := ob h
      refine m_ast X hP hF hs6 dX12_restyle_78 (fun H locs hP hF => ?_)
      refine lv_aload_n hx hb dX12_restyle_79 rfl (lv_at hl 0 rfl) ?_
      refine mg_oldNumber X hP dX12_restyle_80 ?_
      refine lv_iload hx hb dX12_restyle_83 (lv_at hl 4 rfl) ?_
      refine lv_aload_n hx hb dX12_restyle_85 rfl (lv_at hl 0 rfl) ?_
      refine mg_vn X hP dX12_restyle_86 ?_
      refine lv_iconst (v := (3:Int32)) hx hb dX12_restyle_89 (by decide) ?_
      refine lv_iload_n hx hb dX12_restyle_90 rfl (lv_at hl 1 rfl) ?_
      refine lv_imul hx hb dX12_restyle_91 ?_
      refine lv_iload hx hb dX12_restyle_92 (lv_at hl 4 rfl) ?_
      refine lv_iadd hx hb dX12_restyle_94 ?_
      obtain ⟨v7, hv7, h⟩ := ob h
      refine m_ald X hP hv7 dX12_restyle_95 ?_
      obtain ⟨s8, hs8, h⟩ := ob h
      refine m_ast X hP hF hs8 dX12_restyle_96 (fun H locs hP hF => ?_)
      refine lv_iinc (v := (x4 + (1:Int32))) hx hb dX12_restyle_97 hl (k := 4) rfl rfl (Nat.le_of_ble_eq_true rfl) rfl (fun ls (hl : lv_has ls 7 [(4, .int (x4 + (1:Int32))), (0, .ref mb), (1, .int x1), (2, .int x2), (3, .int x3)]) => ?_)
      refine lv_goto (tgt := 55) hx hb dX12_restyle_100 rfl ?_
      exact ih hP hF (lv_sub hl [1, 2, 3, 4, 0] rfl) h
set_option maxRecDepth 20000 in
set_option maxHeartbeats 4000000 in
theorem N_restyle_20 {p : Program} {l : Launch} {e : Env} {s : State} {m : MethodId} {args : Array Value} {below : List Frame} {meth : Method} {c : Code} {D : mD} {mb : Nat}  {n : Nat} {x1 : Int32} {x2 : Int32} {x3 : Int32} {x4 : Int32} {σ : mS} {H : Heap} {locs : List Loc} {ls : Array Slot} {q : Int32 × mS} (X : mX p s m args meth c cX12_restyle 7 (some .boolean) D) (hP : mP D mb σ H) (hF : mF mb s.heap H locs)  (hl : lv_has ls 7 [(0, .ref mb), (1, .int x1), (2, .int x2), (3, .int x3), (4, .int x4)]) (h : f_restyle_20  n x1 x2 x3 x4 σ = some q) : mWw p l e 13 333 s m args below meth c D mb q.2 (some (.int q.1)) H locs (F0 m 20 ls []) := by
  have hx := X.1
  have hb := X.2.1
  have hown := X.2.2.2.1
  have hts := X.2.2.2.2.1
  induction n generalizing x1 x2 x3 x4 σ H locs ls with
  | zero => exact absurd (show none = some q from h) (by simp)
  | succ n ih =>
    have h : (if (12:Int32) ≤ x4 then (f_restyle_55 4000 (x1) (x2) (x3) ((0:Int32)) σ) else ((rd σ 43 (((12:Int32) * x1) + x4)).bind (fun v1 => (wr σ 82 x4 v1).bind (fun s2 => f_restyle_20 n (x1) (x2) (x3) ((x4 + (1:Int32))) s2)))) = some q := h
    refine lv_iload hx hb dX12_restyle_20 (lv_at hl 4 rfl) ?_
    refine lv_bipush (v := (12:Int32)) hx hb dX12_restyle_22 (by decide) ?_
    refine lv_icmp_ge (tgt := 52) hx hb dX12_restyle_24 rfl (fun hc => ?_) (fun hc => ?_)
    · have h := ip hc h
      refine lv_iconst (v := (0:Int32)) hx hb dX12_restyle_52 (by decide) ?_
      refine lv_istore hx hb dX12_restyle_53 hl (Nat.le_of_ble_eq_true rfl) rfl (fun ls (hl : lv_has ls 7 [(4, .int (0:Int32)), (0, .ref mb), (1, .int x1), (2, .int x2), (3, .int x3)]) => ?_)
      exact N_restyle_55 X hP hF (lv_sub hl [1, 2, 3, 4, 0] rfl) h
    · have h := ine hc h
      refine lv_aload_n hx hb dX12_restyle_27 rfl (lv_at hl 0 rfl) ?_
      refine mg_oldVal X hP dX12_restyle_28 ?_
      refine lv_iload hx hb dX12_restyle_31 (lv_at hl 4 rfl) ?_
      refine lv_aload_n hx hb dX12_restyle_33 rfl (lv_at hl 0 rfl) ?_
      refine mg_val X hP dX12_restyle_34 ?_
      refine lv_bipush (v := (12:Int32)) hx hb dX12_restyle_37 (by decide) ?_
      refine lv_iload_n hx hb dX12_restyle_39 rfl (lv_at hl 1 rfl) ?_
      refine lv_imul hx hb dX12_restyle_40 ?_
      refine lv_iload hx hb dX12_restyle_41 (lv_at hl 4 rfl) ?_
      refine lv_iadd hx hb dX12_restyle_43 ?_
      obtain ⟨v1, hv1, h⟩ := ob h
      refine m_ald X hP hv1 dX12_restyle_44 ?_
      obtain ⟨s2, hs2, h⟩ := ob h
      refine m_ast X hP hF hs2 dX12_restyle_45 (fun H locs hP hF => ?_)
      refine lv_iinc (v := (x4 + (1:Int32))) hx hb dX12_restyle_46 hl (k := 4) rfl rfl (Nat.le_of_ble_eq_true rfl) rfl (fun ls (hl : lv_has ls 7 [(4, .int (x4 + (1:Int32))), (0, .ref mb), (1, .int x1), (2, .int x2), (3, .int x3)]) => ?_)
      refine lv_goto (tgt := 20) hx hb dX12_restyle_49 rfl ?_
      exact ih hP hF (lv_sub hl [1, 2, 3, 4, 0] rfl) h
set_option maxRecDepth 20000 in
set_option maxHeartbeats 4000000 in
theorem K_restyle (l : Launch) (D : mD) (mb : Nat) (σ : mS) (x1 : Int32) {q : Int32 × mS} (h : f_restyle x1 σ = some q) : Met l yX12_restyle (Cond.code yX12_restyle cX12_restyle 7 (some .boolean) :: BG) (rM 13 333) (mPc D mb σ [.int x1]) (mQw D mb q.2 (some (.int q.1))) 0 0 (mReg mb) := by
  refine Met.ofW (cc := cX12_restyle) (maxL := 7) (ret := (some .boolean)) (by decide) rfl ?_
  intro p e s m args below meth c s₁ B hml hv
  obtain ⟨rfl, hP, hK⟩ := hv
  have X := mX_of B hml rfl hK
  have hx := X.1
  have hb := X.2.1
  have hown := X.2.2.2.1
  have hts := X.2.2.2.2.1
  have hl := lv_entry (.ref mb :: [.int x1]) (n := 7) (Nat.le_of_ble_eq_true rfl)
  rw [lg_entry_eq]
  generalize (lg_sl (.ref mb :: [.int x1]) ++ List.replicate (7 - (lg_sl (.ref mb :: [.int x1])).length) Slot.unset).toArray = ls at hl ⊢
  have hl : lv_has ls 7 [(0, .ref mb), (1, .int x1)] := hl
  have hF : mF mb s.heap s.heap [] := mF.rf
  show mWw p l e 13 333 s m (Value.ref mb :: [.int x1]).toArray below meth c D mb q.2 (some (.int q.1)) s.heap [] (F0 m 0 ls [])
  have h : ((f_bit ((σ.2 48)) (x1)).bind (fun v1 => (rd σ 46 x1).bind (fun v2 => f_restyle_20 4000 (x1) (v1) (v2) ((0:Int32)) σ))) = some q := h
  refine lv_aload_n hx hb dX12_restyle_0 rfl (lv_at hl 0 rfl) ?_
  refine lv_aload_n hx hb dX12_restyle_1 rfl (lv_at hl 0 rfl) ?_
  refine mg_has X hP dX12_restyle_2 ?_
  refine lv_iload_n hx hb dX12_restyle_5 rfl (lv_at hl 1 rfl) ?_
  obtain ⟨v1, hv1, h⟩ := ob h
  refine cl_bit X hP hv1 ⟨Nat.le_of_ble_eq_true rfl, Nat.le_of_ble_eq_true rfl⟩ hl.1 (Nat.le_of_ble_eq_true rfl) dX12_restyle_6 ?_
  refine lv_istore_n hx hb dX12_restyle_9 rfl hl (Nat.le_of_ble_eq_true rfl) rfl (fun ls (hl : lv_has ls 7 [(2, .int v1), (0, .ref mb), (1, .int x1)]) => ?_)
  refine lv_aload_n hx hb dX12_restyle_10 rfl (lv_at hl 1 rfl) ?_
  refine mg_sz X hP dX12_restyle_11 ?_
  refine lv_iload_n hx hb dX12_restyle_14 rfl (lv_at hl 2 rfl) ?_
  obtain ⟨v2, hv2, h⟩ := ob h
  refine m_ald X hP hv2 dX12_restyle_15 ?_
  refine lv_istore_n hx hb dX12_restyle_16 rfl hl (Nat.le_of_ble_eq_true rfl) rfl (fun ls (hl : lv_has ls 7 [(3, .int v2), (2, .int v1), (0, .ref mb), (1, .int x1)]) => ?_)
  refine lv_iconst (v := (0:Int32)) hx hb dX12_restyle_17 (by decide) ?_
  refine lv_istore hx hb dX12_restyle_18 hl (Nat.le_of_ble_eq_true rfl) rfl (fun ls (hl : lv_has ls 7 [(4, .int (0:Int32)), (3, .int v2), (2, .int v1), (0, .ref mb), (1, .int x1)]) => ?_)
  exact N_restyle_20 X hP hF (lv_sub hl [3, 4, 2, 1, 0] rfl) h
theorem cl_restyle {p : Program} {l : Launch} {e : Env} {s : State} {m : MethodId} {args : Array Value} {below : List Frame} {meth : Method} {c : Code} {D : mD} {mb : Nat} {H : Heap} {locs : List Loc} {Q : State → Prop} {cc : ByteArray} {pc fR lR nL : Nat} {ls : Array Slot} {rest : List Value} {ret : Option FieldType} {σ : mS} (X : mX p s m args meth c cc nL ret D) (hP : mP D mb σ H) (hF : mF mb s.heap H locs) {x1 : Int32} {q : Int32 × mS} (h : f_restyle x1 σ = some q) (hr : 13 + 1 ≤ fR ∧ 8 + (7 + 11) + 333 ≤ lR) (hl : ls.size = nL) (hW : (rest.map fun v => v.category).sum ≤ 8) (hdg : decode cc pc = .ok (.invokevirtual 463, 3)) (kk : ∀ (H1 : Heap) (locs1 : List Loc), mP D mb q.2 H1 → mF mb s.heap H1 locs1 → W p l e (rM fR lR) s m args below meth c H1 locs1 0 0 Q (F0 m (pc + 3) ls (.int q.1 :: rest))) : W p l e (rM fR lR) s m args below meth c H locs 0 0 Q (F0 m pc ls (.int x1 :: .ref mb :: rest)) := m_cw (m_run (n := 1) X (K_restyle l D mb σ x1 h) ⟨w_2176, w_2178, w_114, w_2179⟩ (hyX rfl (by decide +kernel)) rfl hr hP hl hW hdg rfl) hF kk
-- flags()I
def f_flags_4  : Nat → Int32 → Int32 → mS → Option (Int32)
  | 0, _, _, _ => none
  | n + 1, x1, x2, σ => if (σ.2 36) ≤ x2 then (some (x1 >>> ((14:Int32) &&& 31))) else ((rd σ 33 x2).bind (fun v1 => (rd σ 25 v1).bind (fun v2 => f_flags_4 n ((x1 ||| v2)) ((x2 + (1:Int32))) σ)))
def f_flags  (σ : mS) : Option (Int32) := f_flags_4 4000 ((0:Int32)) ((0:Int32)) σ
set_option maxRecDepth 20000 in
set_option maxHeartbeats 4000000 in
theorem N_flags_4 {p : Program} {l : Launch} {e : Env} {s : State} {m : MethodId} {args : Array Value} {below : List Frame} {meth : Method} {c : Code} {D : mD} {mb : Nat}  {n : Nat} {x1 : Int32} {x2 : Int32} {σ : mS} {ls : Array Slot} {r : Int32} (X : mX p s m args meth c cX12_flags 3 (some .int) D) (hP : mP D mb σ s.heap)  (hl : lv_has ls 3 [(0, .ref mb), (1, .int x1), (2, .int x2)]) (h : f_flags_4  n x1 x2 σ = some r) : mWr p l e 0 0 s m args below meth c (some (.int r)) (F0 m 4 ls []) := by
  have hx := X.1
  have hb := X.2.1
  have hown := X.2.2.2.1
  have hts := X.2.2.2.2.1
  induction n generalizing x1 x2 ls with
  | zero => exact absurd (show none = some r from h) (by simp)
  | succ n ih =>
    have h : (if (σ.2 36) ≤ x2 then (some (x1 >>> ((14:Int32) &&& 31))) else ((rd σ 33 x2).bind (fun v1 => (rd σ 25 v1).bind (fun v2 => f_flags_4 n ((x1 ||| v2)) ((x2 + (1:Int32))) σ)))) = some r := h
    refine lv_iload_n hx hb dX12_flags_4 rfl (lv_at hl 2 rfl) ?_
    refine lv_aload_n hx hb dX12_flags_5 rfl (lv_at hl 0 rfl) ?_
    refine mg_rules X hP dX12_flags_6 ?_
    refine lv_icmp_ge (tgt := 32) hx hb dX12_flags_9 rfl (fun hc => ?_) (fun hc => ?_)
    · have h := ip hc h
      refine lv_iload_n hx hb dX12_flags_32 rfl (lv_at hl 1 rfl) ?_
      refine lv_bipush (v := (14:Int32)) hx hb dX12_flags_33 (by decide) ?_
      refine lv_ishr hx hb dX12_flags_35 ?_
      obtain rfl := sj h
      exact m_ri X dX12_flags_36
    · have h := ine hc h
      refine lv_iload_n hx hb dX12_flags_12 rfl (lv_at hl 1 rfl) ?_
      refine lv_aload_n hx hb dX12_flags_13 rfl (lv_at hl 0 rfl) ?_
      refine mg_all X hP dX12_flags_14 ?_
      refine lv_aload_n hx hb dX12_flags_17 rfl (lv_at hl 0 rfl) ?_
      refine mg_rsel X hP dX12_flags_18 ?_
      refine lv_iload_n hx hb dX12_flags_21 rfl (lv_at hl 2 rfl) ?_
      obtain ⟨v1, hv1, h⟩ := ob h
      refine m_ald X hP hv1 dX12_flags_22 ?_
      obtain ⟨v2, hv2, h⟩ := ob h
      refine m_ald X hP hv2 dX12_flags_23 ?_
      refine lv_ior hx hb dX12_flags_24 ?_
      refine lv_istore_n hx hb dX12_flags_25 rfl hl (Nat.le_of_ble_eq_true rfl) rfl (fun ls (hl : lv_has ls 3 [(1, .int (x1 ||| v2)), (0, .ref mb), (2, .int x2)]) => ?_)
      refine lv_iinc (v := (x2 + (1:Int32))) hx hb dX12_flags_26 hl (k := 2) rfl rfl (Nat.le_of_ble_eq_true rfl) rfl (fun ls (hl : lv_has ls 3 [(2, .int (x2 + (1:Int32))), (1, .int (x1 ||| v2)), (0, .ref mb)]) => ?_)
      refine lv_goto (tgt := 4) hx hb dX12_flags_29 rfl ?_
      exact ih (lv_sub hl [2, 1, 0] rfl) h
set_option maxRecDepth 20000 in
set_option maxHeartbeats 4000000 in
theorem K_flags (l : Launch) (D : mD) (mb : Nat) (σ : mS)  {r : Int32} (h : f_flags  σ = some r) : Met l yX12_flags (Cond.code yX12_flags cX12_flags 3 (some .int) :: BG) (rM 0 0) (mPc D mb σ []) (mQr (some (.int r))) 0 0 (fun _ => False) := by
  refine Met.ofW (cc := cX12_flags) (maxL := 3) (ret := (some .int)) (by decide) rfl ?_
  intro p e s m args below meth c s₁ B hml hv
  obtain ⟨rfl, hP, hK⟩ := hv
  have X := mX_of B hml rfl hK
  have hx := X.1
  have hb := X.2.1
  have hown := X.2.2.2.1
  have hts := X.2.2.2.2.1
  have hl := lv_entry (.ref mb :: []) (n := 3) (Nat.le_of_ble_eq_true rfl)
  rw [lg_entry_eq]
  generalize (lg_sl (.ref mb :: []) ++ List.replicate (3 - (lg_sl (.ref mb :: [])).length) Slot.unset).toArray = ls at hl ⊢
  have hl : lv_has ls 3 [(0, .ref mb)] := hl
  show mWr p l e 0 0 s m (Value.ref mb :: []).toArray below meth c (some (.int r)) (F0 m 0 ls [])
  have h : (f_flags_4 4000 ((0:Int32)) ((0:Int32)) σ) = some r := h
  refine lv_iconst (v := (0:Int32)) hx hb dX12_flags_0 (by decide) ?_
  refine lv_istore_n hx hb dX12_flags_1 rfl hl (Nat.le_of_ble_eq_true rfl) rfl (fun ls (hl : lv_has ls 3 [(1, .int (0:Int32)), (0, .ref mb)]) => ?_)
  refine lv_iconst (v := (0:Int32)) hx hb dX12_flags_2 (by decide) ?_
  refine lv_istore_n hx hb dX12_flags_3 rfl hl (Nat.le_of_ble_eq_true rfl) rfl (fun ls (hl : lv_has ls 3 [(2, .int (0:Int32)), (1, .int (0:Int32)), (0, .ref mb)]) => ?_)
  exact N_flags_4 X hP (lv_sub hl [2, 1, 0] rfl) h
theorem cl_flags {p : Program} {l : Launch} {e : Env} {s : State} {m : MethodId} {args : Array Value} {below : List Frame} {meth : Method} {c : Code} {D : mD} {mb : Nat} {H : Heap} {locs : List Loc} {Q : State → Prop} {cc : ByteArray} {pc fR lR nL : Nat} {ls : Array Slot} {rest : List Value} {ret : Option FieldType} {σ : mS} (X : mX p s m args meth c cc nL ret D) (hP : mP D mb σ H)  {r : Int32} (h : f_flags  σ = some r) (hr : 0 + 1 ≤ fR ∧ 8 + (3 + 11) + 0 ≤ lR) (hl : ls.size = nL) (hW : (rest.map fun v => v.category).sum ≤ 8) (hdg : decode cc pc = .ok (.invokevirtual 469, 3)) (kk : W p l e (rM fR lR) s m args below meth c H locs 0 0 Q (F0 m (pc + 3) ls (.int r :: rest))) : W p l e (rM fR lR) s m args below meth c H locs 0 0 Q (F0 m pc ls (.ref mb :: rest)) := m_cr (m_run (n := 0) X (K_flags l D mb σ  h) ⟨w_1938, w_1940, w_78, w_1941⟩ (hyX rfl (by decide +kernel)) rfl hr hP hl hW hdg rfl) kk
-- plain(I)Z
def f_plain_46 (k17 : Int32 → Int32 → Int32 → Option (Int32)) (x1 : Int32) (x3 : Int32) (y0 : Int32) (y1 : Int32) (σ : mS) : Option (Int32) := k17 (x1) ((y0 &&& y1)) ((x3 + (1:Int32)))
def f_plain_17  : Nat → Int32 → Int32 → Int32 → mS → Option (Int32)
  | 0, _, _, _, _ => none
  | n + 1, x1, x2, x3, σ => if (15:Int32) ≤ x3 then (rz x2) else ((rd σ 37 (((16:Int32) * ((40:Int32) + x1)) + x3)).bind (fun v1 => if (0:Int32) ≤ v1 then (f_plain_46 (fun z0 z1 z2 => f_plain_17 n z0 z1 z2 σ) (x1) (x3) (x2) ((0:Int32)) σ) else (f_plain_46 (fun z0 z1 z2 => f_plain_17 n z0 z1 z2 σ) (x1) (x3) (x2) ((1:Int32)) σ)))
def f_plain_14  (x1 : Int32) (y0 : Int32) (σ : mS) : Option (Int32) := f_plain_17 4000 (x1) (y0) ((0:Int32)) σ
def f_plain (x1 : Int32) (σ : mS) : Option (Int32) := (rd σ 8 x1).bind (fun v1 => if v1 = (0:Int32) then (f_plain_14 (x1) ((1:Int32)) σ) else (f_plain_14 (x1) ((0:Int32)) σ))
set_option maxRecDepth 20000 in
set_option maxHeartbeats 4000000 in
theorem N_plain_46 {p : Program} {l : Launch} {e : Env} {s : State} {m : MethodId} {args : Array Value} {below : List Frame} {meth : Method} {c : Code} {D : mD} {mb : Nat} {k17 : Int32 → Int32 → Int32 → Option (Int32)}  {x1 : Int32} {x3 : Int32} {y0 : Int32} {y1 : Int32} {σ : mS} {ls : Array Slot} {r : Int32} (X : mX p s m args meth c cX12_plain 4 (some .boolean) D) (hP : mP D mb σ s.heap) (hk17 : ∀ {x1 : Int32} {x2 : Int32} {x3 : Int32} {ls : Array Slot}, lv_has ls 4 [(0, .ref mb), (1, .int x1), (2, .int x2), (3, .int x3)] → k17 x1 x2 x3 = some r → mWr p l e 0 0 s m args below meth c (some (.int r)) (F0 m 17 ls [])) (hl : lv_has ls 4 [(0, .ref mb), (1, .int x1), (3, .int x3)]) (h : f_plain_46 k17 x1 x3 y0 y1 σ = some r) : mWr p l e 0 0 s m args below meth c (some (.int r)) (F0 m 46 ls [.int y1, .int y0]) := by
  have hx := X.1
  have hb := X.2.1
  have hown := X.2.2.2.1
  have hts := X.2.2.2.2.1
  have h : (k17 (x1) ((y0 &&& y1)) ((x3 + (1:Int32)))) = some r := h
  refine lv_iand hx hb dX12_plain_46 ?_
  refine lv_istore_n hx hb dX12_plain_47 rfl hl (Nat.le_of_ble_eq_true rfl) rfl (fun ls (hl : lv_has ls 4 [(2, .int (y0 &&& y1)), (0, .ref mb), (1, .int x1), (3, .int x3)]) => ?_)
  refine lv_iinc (v := (x3 + (1:Int32))) hx hb dX12_plain_48 hl (k := 3) rfl rfl (Nat.le_of_ble_eq_true rfl) rfl (fun ls (hl : lv_has ls 4 [(3, .int (x3 + (1:Int32))), (2, .int (y0 &&& y1)), (0, .ref mb), (1, .int x1)]) => ?_)
  refine lv_goto (tgt := 17) hx hb dX12_plain_51 rfl ?_
  exact hk17 (lv_sub hl [2, 3, 1, 0] rfl) h
set_option maxRecDepth 20000 in
set_option maxHeartbeats 4000000 in
theorem N_plain_17 {p : Program} {l : Launch} {e : Env} {s : State} {m : MethodId} {args : Array Value} {below : List Frame} {meth : Method} {c : Code} {D : mD} {mb : Nat}  {n : Nat} {x1 : Int32} {x2 : Int32} {x3 : Int32} {σ : mS} {ls : Array Slot} {r : Int32} (X : mX p s m args meth c cX12_plain 4 (some .boolean) D) (hP : mP D mb σ s.heap)  (hl : lv_has ls 4 [(0, .ref mb), (1, .int x1), (2, .int x2), (3, .int x3)]) (h : f_plain_17  n x1 x2 x3 σ = some r) : mWr p l e 0 0 s m args below meth c (some (.int r)) (F0 m 17 ls []) := by
  have hx := X.1
  have hb := X.2.1
  have hown := X.2.2.2.1
  have hts := X.2.2.2.2.1
  induction n generalizing x1 x2 x3 ls with
  | zero => exact absurd (show none = some r from h) (by simp)
  | succ n ih =>
    have h : (if (15:Int32) ≤ x3 then (rz x2) else ((rd σ 37 (((16:Int32) * ((40:Int32) + x1)) + x3)).bind (fun v1 => if (0:Int32) ≤ v1 then (f_plain_46 (fun z0 z1 z2 => f_plain_17 n z0 z1 z2 σ) (x1) (x3) (x2) ((0:Int32)) σ) else (f_plain_46 (fun z0 z1 z2 => f_plain_17 n z0 z1 z2 σ) (x1) (x3) (x2) ((1:Int32)) σ)))) = some r := h
    refine lv_iload_n hx hb dX12_plain_17 rfl (lv_at hl 3 rfl) ?_
    refine lv_bipush (v := (15:Int32)) hx hb dX12_plain_18 (by decide) ?_
    refine lv_icmp_ge (tgt := 54) hx hb dX12_plain_20 rfl (fun hc => ?_) (fun hc => ?_)
    · have h := ip hc h
      refine lv_iload_n hx hb dX12_plain_54 rfl (lv_at hl 2 rfl) ?_
      obtain ⟨hz, rfl⟩ := rz_spec h
      exact m_rz X hz dX12_plain_55
    · have h := ine hc h
      refine lv_iload_n hx hb dX12_plain_23 rfl (lv_at hl 2 rfl) ?_
      refine lv_aload_n hx hb dX12_plain_24 rfl (lv_at hl 0 rfl) ?_
      refine mg_du X hP dX12_plain_25 ?_
      refine lv_bipush (v := (16:Int32)) hx hb dX12_plain_28 (by decide) ?_
      refine lv_bipush (v := (40:Int32)) hx hb dX12_plain_30 (by decide) ?_
      refine lv_iload_n hx hb dX12_plain_32 rfl (lv_at hl 1 rfl) ?_
      refine lv_iadd hx hb dX12_plain_33 ?_
      refine lv_imul hx hb dX12_plain_34 ?_
      refine lv_iload_n hx hb dX12_plain_35 rfl (lv_at hl 3 rfl) ?_
      refine lv_iadd hx hb dX12_plain_36 ?_
      obtain ⟨v1, hv1, h⟩ := ob h
      refine m_ald X hP hv1 dX12_plain_37 ?_
      refine lv_if_ge (tgt := 45) hx hb dX12_plain_38 rfl (fun hc => ?_) (fun hc => ?_)
      · have h := ip hc h
        refine lv_iconst (v := (0:Int32)) hx hb dX12_plain_45 (by decide) ?_
        exact N_plain_46 X hP ih (lv_sub hl [0, 1, 3] rfl) h
      · have h := ine hc h
        refine lv_iconst (v := (1:Int32)) hx hb dX12_plain_41 (by decide) ?_
        refine lv_goto (tgt := 46) hx hb dX12_plain_42 rfl ?_
        exact N_plain_46 X hP ih (lv_sub hl [0, 1, 3] rfl) h
set_option maxRecDepth 20000 in
set_option maxHeartbeats 4000000 in
theorem N_plain_14 {p : Program} {l : Launch} {e : Env} {s : State} {m : MethodId} {args : Array Value} {below : List Frame} {meth : Method} {c : Code} {D : mD} {mb : Nat}   {x1 : Int32} {y0 : Int32} {σ : mS} {ls : Array Slot} {r : Int32} (X : mX p s m args meth c cX12_plain 4 (some .boolean) D) (hP : mP D mb σ s.heap)  (hl : lv_has ls 4 [(0, .ref mb), (1, .int x1)]) (h : f_plain_14  x1 y0 σ = some r) : mWr p l e 0 0 s m args below meth c (some (.int r)) (F0 m 14 ls [.int y0]) := by
  have hx := X.1
  have hb := X.2.1
  have hown := X.2.2.2.1
  have hts := X.2.2.2.2.1
  have h : (f_plain_17 4000 (x1) (y0) ((0:Int32)) σ) = some r := h
  refine lv_istore_n hx hb dX12_plain_14 rfl hl (Nat.le_of_ble_eq_true rfl) rfl (fun ls (hl : lv_has ls 4 [(2, .int y0), (0, .ref mb), (1, .int x1)]) => ?_)
  refine lv_iconst (v := (0:Int32)) hx hb dX12_plain_15 (by decide) ?_
  refine lv_istore_n hx hb dX12_plain_16 rfl hl (Nat.le_of_ble_eq_true rfl) rfl (fun ls (hl : lv_has ls 4 [(3, .int (0:Int32)), (2, .int y0), (0, .ref mb), (1, .int x1)]) => ?_)
  exact N_plain_17 X hP (lv_sub hl [2, 3, 1, 0] rfl) h
set_option maxRecDepth 20000 in
set_option maxHeartbeats 4000000 in
theorem K_plain (l : Launch) (D : mD) (mb : Nat) (σ : mS) (x1 : Int32) {r : Int32} (h : f_plain x1 σ = some r) : Met l yX12_plain (Cond.code yX12_plain cX12_plain 4 (some .boolean) :: BG) (rM 0 0) (mPc D mb σ [.int x1]) (mQr (some (.int r))) 0 0 (fun _ => False) := by
  refine Met.ofW (cc := cX12_plain) (maxL := 4) (ret := (some .boolean)) (by decide) rfl ?_
  intro p e s m args below meth c s₁ B hml hv
  obtain ⟨rfl, hP, hK⟩ := hv
  have X := mX_of B hml rfl hK
  have hx := X.1
  have hb := X.2.1
  have hown := X.2.2.2.1
  have hts := X.2.2.2.2.1
  have hl := lv_entry (.ref mb :: [.int x1]) (n := 4) (Nat.le_of_ble_eq_true rfl)
  rw [lg_entry_eq]
  generalize (lg_sl (.ref mb :: [.int x1]) ++ List.replicate (4 - (lg_sl (.ref mb :: [.int x1])).length) Slot.unset).toArray = ls at hl ⊢
  have hl : lv_has ls 4 [(0, .ref mb), (1, .int x1)] := hl
  show mWr p l e 0 0 s m (Value.ref mb :: [.int x1]).toArray below meth c (some (.int r)) (F0 m 0 ls [])
  have h : ((rd σ 8 x1).bind (fun v1 => if v1 = (0:Int32) then (f_plain_14 (x1) ((1:Int32)) σ) else (f_plain_14 (x1) ((0:Int32)) σ))) = some r := h
  refine lv_aload_n hx hb dX12_plain_0 rfl (lv_at hl 0 rfl) ?_
  refine mg_shadow X hP dX12_plain_1 ?_
  refine lv_iload_n hx hb dX12_plain_4 rfl (lv_at hl 1 rfl) ?_
  obtain ⟨v1, hv1, h⟩ := ob h
  refine m_ald X hP hv1 dX12_plain_5 ?_
  refine lv_if_ne (tgt := 13) hx hb dX12_plain_6 rfl (fun hc => ?_) (fun hc => ?_)
  · have h := ine hc h
    refine lv_iconst (v := (0:Int32)) hx hb dX12_plain_13 (by decide) ?_
    exact N_plain_14 X hP (lv_sub hl [0, 1] rfl) h
  · have h := ip hc h
    refine lv_iconst (v := (1:Int32)) hx hb dX12_plain_9 (by decide) ?_
    refine lv_goto (tgt := 14) hx hb dX12_plain_10 rfl ?_
    exact N_plain_14 X hP (lv_sub hl [0, 1] rfl) h
theorem cl_plain {p : Program} {l : Launch} {e : Env} {s : State} {m : MethodId} {args : Array Value} {below : List Frame} {meth : Method} {c : Code} {D : mD} {mb : Nat} {H : Heap} {locs : List Loc} {Q : State → Prop} {cc : ByteArray} {pc fR lR nL : Nat} {ls : Array Slot} {rest : List Value} {ret : Option FieldType} {σ : mS} (X : mX p s m args meth c cc nL ret D) (hP : mP D mb σ H) {x1 : Int32} {r : Int32} (h : f_plain x1 σ = some r) (hr : 0 + 1 ≤ fR ∧ 8 + (4 + 11) + 0 ≤ lR) (hl : ls.size = nL) (hW : (rest.map fun v => v.category).sum ≤ 8) (hdg : decode cc pc = .ok (.invokevirtual 444, 3)) (kk : W p l e (rM fR lR) s m args below meth c H locs 0 0 Q (F0 m (pc + 3) ls (.int r :: rest))) : W p l e (rM fR lR) s m args below meth c H locs 0 0 Q (F0 m pc ls (.int x1 :: .ref mb :: rest)) := m_cr (m_run (n := 1) X (K_plain l D mb σ x1 h) ⟨w_2289, w_2291, w_141, w_2292⟩ (hyX rfl (by decide +kernel)) rfl hr hP hl hW hdg rfl) kk
-- twins(II)Z
def f_twins_136  (y0 : Int32) (σ : mS) : Option (Int32) := rz y0
def f_twins_135   (σ : mS) : Option (Int32) := f_twins_136 ((0:Int32)) σ
def f_twins_95  (x1 : Int32) (x2 : Int32) (y0 : Int32) (σ : mS) : Option (Int32) := if y0 = (0:Int32) then (f_twins_135 σ) else ((rd σ 77 x1).bind (fun v1 => (rd σ 77 x2).bind (fun v2 => if v1 = v2 then ((f_plain (x1) σ).bind (fun v3 => if v3 = (0:Int32) then (f_twins_135 σ) else ((f_plain (x2) σ).bind (fun v4 => if v4 = (0:Int32) then (f_twins_135 σ) else (f_twins_136 ((1:Int32)) σ))))) else (f_twins_135 σ))))
def f_twins_94  (x1 : Int32) (x2 : Int32) (σ : mS) : Option (Int32) := f_twins_95 (x1) (x2) ((0:Int32)) σ
def f_twins (x1 : Int32) (x2 : Int32) (σ : mS) : Option (Int32) := (rd σ 0 x1).bind (fun v1 => (rd σ 0 x2).bind (fun v2 => if v1 = v2 then ((rd σ 1 x1).bind (fun v3 => (rd σ 1 x2).bind (fun v4 => if v3 = v4 then ((rd σ 2 x1).bind (fun v5 => (rd σ 2 x2).bind (fun v6 => if v5 = v6 then ((rd σ 3 x1).bind (fun v7 => (rd σ 3 x2).bind (fun v8 => if v7 = v8 then ((rd σ 4 x1).bind (fun v9 => (rd σ 4 x2).bind (fun v10 => if v9 = v10 then ((rd σ 5 x1).bind (fun v11 => (rd σ 5 x2).bind (fun v12 => if v11 = v12 then (f_twins_95 (x1) (x2) ((1:Int32)) σ) else (f_twins_94 (x1) (x2) σ)))) else (f_twins_94 (x1) (x2) σ)))) else (f_twins_94 (x1) (x2) σ)))) else (f_twins_94 (x1) (x2) σ)))) else (f_twins_94 (x1) (x2) σ)))) else (f_twins_94 (x1) (x2) σ)))
set_option maxRecDepth 20000 in
set_option maxHeartbeats 4000000 in
theorem N_twins_136 {p : Program} {l : Launch} {e : Env} {s : State} {m : MethodId} {args : Array Value} {below : List Frame} {meth : Method} {c : Code} {D : mD} {mb : Nat}   {y0 : Int32} {σ : mS} {ls : Array Slot} {r : Int32} (X : mX p s m args meth c cX12_twins 4 (some .boolean) D) (hP : mP D mb σ s.heap)  (hl : lv_has ls 4 [(0, .ref mb)]) (h : f_twins_136  y0 σ = some r) : mWr p l e 1 23 s m args below meth c (some (.int r)) (F0 m 136 ls [.int y0]) := by
  have hx := X.1
  have hb := X.2.1
  have hown := X.2.2.2.1
  have hts := X.2.2.2.2.1
  have h : (rz y0) = some r := h
  obtain ⟨hz, rfl⟩ := rz_spec h
  exact m_rz X hz dX12_twins_136
set_option maxRecDepth 20000 in
set_option maxHeartbeats 4000000 in
theorem N_twins_135 {p : Program} {l : Launch} {e : Env} {s : State} {m : MethodId} {args : Array Value} {below : List Frame} {meth : Method} {c : Code} {D : mD} {mb : Nat}    {σ : mS} {ls : Array Slot} {r : Int32} (X : mX p s m args meth c cX12_twins 4 (some .boolean) D) (hP : mP D mb σ s.heap)  (hl : lv_has ls 4 [(0, .ref mb)]) (h : f_twins_135   σ = some r) : mWr p l e 1 23 s m args below meth c (some (.int r)) (F0 m 135 ls []) := by
  have hx := X.1
  have hb := X.2.1
  have hown := X.2.2.2.1
  have hts := X.2.2.2.2.1
  have h : (f_twins_136 ((0:Int32)) σ) = some r := h
  refine lv_iconst (v := (0:Int32)) hx hb dX12_twins_135 (by decide) ?_
  exact N_twins_136 X hP (lv_sub hl [0] rfl) h
set_option maxRecDepth 20000 in
set_option maxHeartbeats 4000000 in
theorem N_twins_95 {p : Program} {l : Launch} {e : Env} {s : State} {m : MethodId} {args : Array Value} {below : List Frame} {meth : Method} {c : Code} {D : mD} {mb : Nat}   {x1 : Int32} {x2 : Int32} {y0 : Int32} {σ : mS} {ls : Array Slot} {r : Int32} (X : mX p s m args meth c cX12_twins 4 (some .boolean) D) (hP : mP D mb σ s.heap)  (hl : lv_has ls 4 [(0, .ref mb), (1, .int x1), (2, .int x2)]) (h : f_twins_95  x1 x2 y0 σ = some r) : mWr p l e 1 23 s m args below meth c (some (.int r)) (F0 m 95 ls [.int y0]) := by
  have hx := X.1
  have hb := X.2.1
  have hown := X.2.2.2.1
  have hts := X.2.2.2.2.1
  have h : (if y0 = (0:Int32) then (f_twins_135 σ) else ((rd σ 77 x1).bind (fun v1 => (rd σ 77 x2).bind (fun v2 => if v1 = v2 then ((f_plain (x1) σ).bind (fun v3 => if v3 = (0:Int32) then (f_twins_135 σ) else ((f_plain (x2) σ).bind (fun v4 => if v4 = (0:Int32) then (f_twins_135 σ) else (f_twins_136 ((1:Int32)) σ))))) else (f_twins_135 σ))))) = some r := h
  refine lv_istore_n hx hb dX12_twins_95 rfl hl (Nat.le_of_ble_eq_true rfl) rfl (fun ls (hl : lv_has ls 4 [(3, .int y0), (0, .ref mb), (1, .int x1), (2, .int x2)]) => ?_)
  refine lv_iload_n hx hb dX12_twins_96 rfl (lv_at hl 0 rfl) ?_
  refine lv_if_eq (tgt := 135) hx hb dX12_twins_97 rfl (fun hc => ?_) (fun hc => ?_)
  · have h := ip hc h
    exact N_twins_135 X hP (lv_sub hl [1] rfl) h
  · have h := ine hc h
    refine lv_aload_n hx hb dX12_twins_100 rfl (lv_at hl 1 rfl) ?_
    refine mg_shp X hP dX12_twins_101 ?_
    refine lv_iload_n hx hb dX12_twins_104 rfl (lv_at hl 2 rfl) ?_
    obtain ⟨v1, hv1, h⟩ := ob h
    refine m_ald X hP hv1 dX12_twins_105 ?_
    refine lv_aload_n hx hb dX12_twins_106 rfl (lv_at hl 1 rfl) ?_
    refine mg_shp X hP dX12_twins_107 ?_
    refine lv_iload_n hx hb dX12_twins_110 rfl (lv_at hl 3 rfl) ?_
    obtain ⟨v2, hv2, h⟩ := ob h
    refine m_ald X hP hv2 dX12_twins_111 ?_
    refine lv_icmp_ne (tgt := 135) hx hb dX12_twins_112 rfl (fun hc => ?_) (fun hc => ?_)
    · have h := ine hc h
      exact N_twins_135 X hP (lv_sub hl [1] rfl) h
    · have h := ip hc h
      refine lv_aload_n hx hb dX12_twins_115 rfl (lv_at hl 1 rfl) ?_
      refine lv_iload_n hx hb dX12_twins_116 rfl (lv_at hl 2 rfl) ?_
      obtain ⟨v3, hv3, h⟩ := ob h
      refine cl_plain X hP hv3 ⟨Nat.le_of_ble_eq_true rfl, Nat.le_of_ble_eq_true rfl⟩ hl.1 (Nat.le_of_ble_eq_true rfl) dX12_twins_117 ?_
      refine lv_if_eq (tgt := 135) hx hb dX12_twins_120 rfl (fun hc => ?_) (fun hc => ?_)
      · have h := ip hc h
        exact N_twins_135 X hP (lv_sub hl [1] rfl) h
      · have h := ine hc h
        refine lv_aload_n hx hb dX12_twins_123 rfl (lv_at hl 1 rfl) ?_
        refine lv_iload_n hx hb dX12_twins_124 rfl (lv_at hl 3 rfl) ?_
        obtain ⟨v4, hv4, h⟩ := ob h
        refine cl_plain X hP hv4 ⟨Nat.le_of_ble_eq_true rfl, Nat.le_of_ble_eq_true rfl⟩ hl.1 (Nat.le_of_ble_eq_true rfl) dX12_twins_125 ?_
        refine lv_if_eq (tgt := 135) hx hb dX12_twins_128 rfl (fun hc => ?_) (fun hc => ?_)
        · have h := ip hc h
          exact N_twins_135 X hP (lv_sub hl [1] rfl) h
        · have h := ine hc h
          refine lv_iconst (v := (1:Int32)) hx hb dX12_twins_131 (by decide) ?_
          refine lv_goto (tgt := 136) hx hb dX12_twins_132 rfl ?_
          exact N_twins_136 X hP (lv_sub hl [1] rfl) h
set_option maxRecDepth 20000 in
set_option maxHeartbeats 4000000 in
theorem N_twins_94 {p : Program} {l : Launch} {e : Env} {s : State} {m : MethodId} {args : Array Value} {below : List Frame} {meth : Method} {c : Code} {D : mD} {mb : Nat}   {x1 : Int32} {x2 : Int32} {σ : mS} {ls : Array Slot} {r : Int32} (X : mX p s m args meth c cX12_twins 4 (some .boolean) D) (hP : mP D mb σ s.heap)  (hl : lv_has ls 4 [(0, .ref mb), (1, .int x1), (2, .int x2)]) (h : f_twins_94  x1 x2 σ = some r) : mWr p l e 1 23 s m args below meth c (some (.int r)) (F0 m 94 ls []) := by
  have hx := X.1
  have hb := X.2.1
  have hown := X.2.2.2.1
  have hts := X.2.2.2.2.1
  have h : (f_twins_95 (x1) (x2) ((0:Int32)) σ) = some r := h
  refine lv_iconst (v := (0:Int32)) hx hb dX12_twins_94 (by decide) ?_
  exact N_twins_95 X hP (lv_sub hl [0, 1, 2] rfl) h
set_option maxRecDepth 20000 in
set_option maxHeartbeats 4000000 in
theorem K_twins (l : Launch) (D : mD) (mb : Nat) (σ : mS) (x1 : Int32) (x2 : Int32) {r : Int32} (h : f_twins x1 x2 σ = some r) : Met l yX12_twins (Cond.code yX12_twins cX12_twins 4 (some .boolean) :: BG) (rM 1 23) (mPc D mb σ [.int x1, .int x2]) (mQr (some (.int r))) 0 0 (fun _ => False) := by
  refine Met.ofW (cc := cX12_twins) (maxL := 4) (ret := (some .boolean)) (by decide) rfl ?_
  intro p e s m args below meth c s₁ B hml hv
  obtain ⟨rfl, hP, hK⟩ := hv
  have X := mX_of B hml rfl hK
  have hx := X.1
  have hb := X.2.1
  have hown := X.2.2.2.1
  have hts := X.2.2.2.2.1
  have hl := lv_entry (.ref mb :: [.int x1, .int x2]) (n := 4) (Nat.le_of_ble_eq_true rfl)
  rw [lg_entry_eq]
  generalize (lg_sl (.ref mb :: [.int x1, .int x2]) ++ List.replicate (4 - (lg_sl (.ref mb :: [.int x1, .int x2])).length) Slot.unset).toArray = ls at hl ⊢
  have hl : lv_has ls 4 [(0, .ref mb), (1, .int x1), (2, .int x2)] := hl
  show mWr p l e 1 23 s m (Value.ref mb :: [.int x1, .int x2]).toArray below meth c (some (.int r)) (F0 m 0 ls [])
  have h : ((rd σ 0 x1).bind (fun v1 => (rd σ 0 x2).bind (fun v2 => if v1 = v2 then ((rd σ 1 x1).bind (fun v3 => (rd σ 1 x2).bind (fun v4 => if v3 = v4 then ((rd σ 2 x1).bind (fun v5 => (rd σ 2 x2).bind (fun v6 => if v5 = v6 then ((rd σ 3 x1).bind (fun v7 => (rd σ 3 x2).bind (fun v8 => if v7 = v8 then ((rd σ 4 x1).bind (fun v9 => (rd σ 4 x2).bind (fun v10 => if v9 = v10 then ((rd σ 5 x1).bind (fun v11 => (rd σ 5 x2).bind (fun v12 => if v11 = v12 then (f_twins_95 (x1) (x2) ((1:Int32)) σ) else (f_twins_94 (x1) (x2) σ)))) else (f_twins_94 (x1) (x2) σ)))) else (f_twins_94 (x1) (x2) σ)))) else (f_twins_94 (x1) (x2) σ)))) else (f_twins_94 (x1) (x2) σ)))) else (f_twins_94 (x1) (x2) σ)))) = some r := h
  refine lv_aload_n hx hb dX12_twins_0 rfl (lv_at hl 0 rfl) ?_
  refine mg_kind X hP dX12_twins_1 ?_
  refine lv_iload_n hx hb dX12_twins_4 rfl (lv_at hl 1 rfl) ?_
  obtain ⟨v1, hv1, h⟩ := ob h
  refine m_ald X hP hv1 dX12_twins_5 ?_
  refine lv_aload_n hx hb dX12_twins_6 rfl (lv_at hl 0 rfl) ?_
  refine mg_kind X hP dX12_twins_7 ?_
  refine lv_iload_n hx hb dX12_twins_10 rfl (lv_at hl 2 rfl) ?_
  obtain ⟨v2, hv2, h⟩ := ob h
  refine m_ald X hP hv2 dX12_twins_11 ?_
  refine lv_icmp_ne (tgt := 94) hx hb dX12_twins_12 rfl (fun hc => ?_) (fun hc => ?_)
  · have h := ine hc h
    exact N_twins_94 X hP (lv_sub hl [0, 1, 2] rfl) h
  · have h := ip hc h
    refine lv_aload_n hx hb dX12_twins_15 rfl (lv_at hl 0 rfl) ?_
    refine mg_cls X hP dX12_twins_16 ?_
    refine lv_iload_n hx hb dX12_twins_19 rfl (lv_at hl 1 rfl) ?_
    obtain ⟨v3, hv3, h⟩ := ob h
    refine m_ald X hP hv3 dX12_twins_20 ?_
    refine lv_aload_n hx hb dX12_twins_21 rfl (lv_at hl 0 rfl) ?_
    refine mg_cls X hP dX12_twins_22 ?_
    refine lv_iload_n hx hb dX12_twins_25 rfl (lv_at hl 2 rfl) ?_
    obtain ⟨v4, hv4, h⟩ := ob h
    refine m_ald X hP hv4 dX12_twins_26 ?_
    refine lv_icmp_ne (tgt := 94) hx hb dX12_twins_27 rfl (fun hc => ?_) (fun hc => ?_)
    · have h := ine hc h
      exact N_twins_94 X hP (lv_sub hl [0, 1, 2] rfl) h
    · have h := ip hc h
      refine lv_aload_n hx hb dX12_twins_30 rfl (lv_at hl 0 rfl) ?_
      refine mg_sta X hP dX12_twins_31 ?_
      refine lv_iload_n hx hb dX12_twins_34 rfl (lv_at hl 1 rfl) ?_
      obtain ⟨v5, hv5, h⟩ := ob h
      refine m_ald X hP hv5 dX12_twins_35 ?_
      refine lv_aload_n hx hb dX12_twins_36 rfl (lv_at hl 0 rfl) ?_
      refine mg_sta X hP dX12_twins_37 ?_
      refine lv_iload_n hx hb dX12_twins_40 rfl (lv_at hl 2 rfl) ?_
      obtain ⟨v6, hv6, h⟩ := ob h
      refine m_ald X hP hv6 dX12_twins_41 ?_
      refine lv_icmp_ne (tgt := 94) hx hb dX12_twins_42 rfl (fun hc => ?_) (fun hc => ?_)
      · have h := ine hc h
        exact N_twins_94 X hP (lv_sub hl [0, 1, 2] rfl) h
      · have h := ip hc h
        refine lv_aload_n hx hb dX12_twins_45 rfl (lv_at hl 0 rfl) ?_
        refine mg_at0 X hP dX12_twins_46 ?_
        refine lv_iload_n hx hb dX12_twins_49 rfl (lv_at hl 1 rfl) ?_
        obtain ⟨v7, hv7, h⟩ := ob h
        refine m_ald X hP hv7 dX12_twins_50 ?_
        refine lv_aload_n hx hb dX12_twins_51 rfl (lv_at hl 0 rfl) ?_
        refine mg_at0 X hP dX12_twins_52 ?_
        refine lv_iload_n hx hb dX12_twins_55 rfl (lv_at hl 2 rfl) ?_
        obtain ⟨v8, hv8, h⟩ := ob h
        refine m_ald X hP hv8 dX12_twins_56 ?_
        refine lv_icmp_ne (tgt := 94) hx hb dX12_twins_57 rfl (fun hc => ?_) (fun hc => ?_)
        · have h := ine hc h
          exact N_twins_94 X hP (lv_sub hl [0, 1, 2] rfl) h
        · have h := ip hc h
          refine lv_aload_n hx hb dX12_twins_60 rfl (lv_at hl 0 rfl) ?_
          refine mg_at1 X hP dX12_twins_61 ?_
          refine lv_iload_n hx hb dX12_twins_64 rfl (lv_at hl 1 rfl) ?_
          obtain ⟨v9, hv9, h⟩ := ob h
          refine m_ald X hP hv9 dX12_twins_65 ?_
          refine lv_aload_n hx hb dX12_twins_66 rfl (lv_at hl 0 rfl) ?_
          refine mg_at1 X hP dX12_twins_67 ?_
          refine lv_iload_n hx hb dX12_twins_70 rfl (lv_at hl 2 rfl) ?_
          obtain ⟨v10, hv10, h⟩ := ob h
          refine m_ald X hP hv10 dX12_twins_71 ?_
          refine lv_icmp_ne (tgt := 94) hx hb dX12_twins_72 rfl (fun hc => ?_) (fun hc => ?_)
          · have h := ine hc h
            exact N_twins_94 X hP (lv_sub hl [0, 1, 2] rfl) h
          · have h := ip hc h
            refine lv_aload_n hx hb dX12_twins_75 rfl (lv_at hl 0 rfl) ?_
            refine mg_part X hP dX12_twins_76 ?_
            refine lv_iload_n hx hb dX12_twins_79 rfl (lv_at hl 1 rfl) ?_
            obtain ⟨v11, hv11, h⟩ := ob h
            refine m_ald X hP hv11 dX12_twins_80 ?_
            refine lv_aload_n hx hb dX12_twins_81 rfl (lv_at hl 0 rfl) ?_
            refine mg_part X hP dX12_twins_82 ?_
            refine lv_iload_n hx hb dX12_twins_85 rfl (lv_at hl 2 rfl) ?_
            obtain ⟨v12, hv12, h⟩ := ob h
            refine m_ald X hP hv12 dX12_twins_86 ?_
            refine lv_icmp_ne (tgt := 94) hx hb dX12_twins_87 rfl (fun hc => ?_) (fun hc => ?_)
            · have h := ine hc h
              exact N_twins_94 X hP (lv_sub hl [0, 1, 2] rfl) h
            · have h := ip hc h
              refine lv_iconst (v := (1:Int32)) hx hb dX12_twins_90 (by decide) ?_
              refine lv_goto (tgt := 95) hx hb dX12_twins_91 rfl ?_
              exact N_twins_95 X hP (lv_sub hl [0, 1, 2] rfl) h
theorem cl_twins {p : Program} {l : Launch} {e : Env} {s : State} {m : MethodId} {args : Array Value} {below : List Frame} {meth : Method} {c : Code} {D : mD} {mb : Nat} {H : Heap} {locs : List Loc} {Q : State → Prop} {cc : ByteArray} {pc fR lR nL : Nat} {ls : Array Slot} {rest : List Value} {ret : Option FieldType} {σ : mS} (X : mX p s m args meth c cc nL ret D) (hP : mP D mb σ H) {x1 : Int32} {x2 : Int32} {r : Int32} (h : f_twins x1 x2 σ = some r) (hr : 1 + 1 ≤ fR ∧ 8 + (4 + 11) + 23 ≤ lR) (hl : ls.size = nL) (hW : (rest.map fun v => v.category).sum ≤ 8) (hdg : decode cc pc = .ok (.invokevirtual 478, 3)) (kk : W p l e (rM fR lR) s m args below meth c H locs 0 0 Q (F0 m (pc + 3) ls (.int r :: rest))) : W p l e (rM fR lR) s m args below meth c H locs 0 0 Q (F0 m pc ls (.int x2 :: .int x1 :: .ref mb :: rest)) := m_cr (m_run (n := 2) X (K_twins l D mb σ x1 x2 h) ⟨w_2285, w_2287, w_140, w_2288⟩ (hyX rfl (by decide +kernel)) rfl hr hP hl hW hdg rfl) kk
-- ahead(I)I
def f_ahead_60  (y0 : Int32) (σ : mS) : Option (Int32) := some y0
def f_ahead (x1 : Int32) (σ : mS) : Option (Int32) := (f_placeOf (x1) σ).bind (fun v1 => if (0:Int32) ≤ (v1 - (1:Int32)) then ((rd σ 6 x1).bind (fun v2 => if v2 < (0:Int32) then ((rd σ 7 x1).bind (fun v3 => (rd σ 11 (((30:Int32) * v3) + (v1 - (1:Int32)))).bind (fun v4 => f_ahead_60 (v4) σ))) else ((rd σ 6 x1).bind (fun v5 => (rd σ 9 (((30:Int32) * v5) + (v1 - (1:Int32)))).bind (fun v6 => f_ahead_60 (v6) σ))))) else (f_ahead_60 (((-1):Int32)) σ))
set_option maxRecDepth 20000 in
set_option maxHeartbeats 4000000 in
theorem N_ahead_60 {p : Program} {l : Launch} {e : Env} {s : State} {m : MethodId} {args : Array Value} {below : List Frame} {meth : Method} {c : Code} {D : mD} {mb : Nat}   {y0 : Int32} {σ : mS} {ls : Array Slot} {r : Int32} (X : mX p s m args meth c cX12_ahead 3 (some .int) D) (hP : mP D mb σ s.heap)  (hl : lv_has ls 3 [(0, .ref mb)]) (h : f_ahead_60  y0 σ = some r) : mWr p l e 1 22 s m args below meth c (some (.int r)) (F0 m 60 ls [.int y0]) := by
  have hx := X.1
  have hb := X.2.1
  have hown := X.2.2.2.1
  have hts := X.2.2.2.2.1
  have h : (some y0) = some r := h
  obtain rfl := sj h
  exact m_ri X dX12_ahead_60
set_option maxRecDepth 20000 in
set_option maxHeartbeats 4000000 in
theorem K_ahead (l : Launch) (D : mD) (mb : Nat) (σ : mS) (x1 : Int32) {r : Int32} (h : f_ahead x1 σ = some r) : Met l yX12_ahead (Cond.code yX12_ahead cX12_ahead 3 (some .int) :: BG) (rM 1 22) (mPc D mb σ [.int x1]) (mQr (some (.int r))) 0 0 (fun _ => False) := by
  refine Met.ofW (cc := cX12_ahead) (maxL := 3) (ret := (some .int)) (by decide) rfl ?_
  intro p e s m args below meth c s₁ B hml hv
  obtain ⟨rfl, hP, hK⟩ := hv
  have X := mX_of B hml rfl hK
  have hx := X.1
  have hb := X.2.1
  have hown := X.2.2.2.1
  have hts := X.2.2.2.2.1
  have hl := lv_entry (.ref mb :: [.int x1]) (n := 3) (Nat.le_of_ble_eq_true rfl)
  rw [lg_entry_eq]
  generalize (lg_sl (.ref mb :: [.int x1]) ++ List.replicate (3 - (lg_sl (.ref mb :: [.int x1])).length) Slot.unset).toArray = ls at hl ⊢
  have hl : lv_has ls 3 [(0, .ref mb), (1, .int x1)] := hl
  show mWr p l e 1 22 s m (Value.ref mb :: [.int x1]).toArray below meth c (some (.int r)) (F0 m 0 ls [])
  have h : ((f_placeOf (x1) σ).bind (fun v1 => if (0:Int32) ≤ (v1 - (1:Int32)) then ((rd σ 6 x1).bind (fun v2 => if v2 < (0:Int32) then ((rd σ 7 x1).bind (fun v3 => (rd σ 11 (((30:Int32) * v3) + (v1 - (1:Int32)))).bind (fun v4 => f_ahead_60 (v4) σ))) else ((rd σ 6 x1).bind (fun v5 => (rd σ 9 (((30:Int32) * v5) + (v1 - (1:Int32)))).bind (fun v6 => f_ahead_60 (v6) σ))))) else (f_ahead_60 (((-1):Int32)) σ))) = some r := h
  refine lv_aload_n hx hb dX12_ahead_0 rfl (lv_at hl 0 rfl) ?_
  refine lv_iload_n hx hb dX12_ahead_1 rfl (lv_at hl 1 rfl) ?_
  obtain ⟨v1, hv1, h⟩ := ob h
  refine cl_placeOf X hP hv1 ⟨Nat.le_of_ble_eq_true rfl, Nat.le_of_ble_eq_true rfl⟩ hl.1 (Nat.le_of_ble_eq_true rfl) dX12_ahead_2 ?_
  refine lv_iconst (v := (1:Int32)) hx hb dX12_ahead_5 (by decide) ?_
  refine lv_isub hx hb dX12_ahead_6 ?_
  refine lv_istore_n hx hb dX12_ahead_7 rfl hl (Nat.le_of_ble_eq_true rfl) rfl (fun ls (hl : lv_has ls 3 [(2, .int (v1 - (1:Int32))), (0, .ref mb), (1, .int x1)]) => ?_)
  refine lv_iload_n hx hb dX12_ahead_8 rfl (lv_at hl 0 rfl) ?_
  refine lv_if_ge (tgt := 16) hx hb dX12_ahead_9 rfl (fun hc => ?_) (fun hc => ?_)
  · have h := ip hc h
    refine lv_aload_n hx hb dX12_ahead_16 rfl (lv_at hl 1 rfl) ?_
    refine mg_parent X hP dX12_ahead_17 ?_
    refine lv_iload_n hx hb dX12_ahead_20 rfl (lv_at hl 2 rfl) ?_
    obtain ⟨v2, hv2, h⟩ := ob h
    refine m_ald X hP hv2 dX12_ahead_21 ?_
    refine lv_if_lt (tgt := 44) hx hb dX12_ahead_22 rfl (fun hc => ?_) (fun hc => ?_)
    · have h := ip hc h
      refine lv_aload_n hx hb dX12_ahead_44 rfl (lv_at hl 1 rfl) ?_
      refine mg_top X hP dX12_ahead_45 ?_
      refine lv_bipush (v := (30:Int32)) hx hb dX12_ahead_48 (by decide) ?_
      refine lv_aload_n hx hb dX12_ahead_50 rfl (lv_at hl 1 rfl) ?_
      refine mg_host X hP dX12_ahead_51 ?_
      refine lv_iload_n hx hb dX12_ahead_54 rfl (lv_at hl 2 rfl) ?_
      obtain ⟨v3, hv3, h⟩ := ob h
      refine m_ald X hP hv3 dX12_ahead_55 ?_
      refine lv_imul hx hb dX12_ahead_56 ?_
      refine lv_iload_n hx hb dX12_ahead_57 rfl (lv_at hl 0 rfl) ?_
      refine lv_iadd hx hb dX12_ahead_58 ?_
      obtain ⟨v4, hv4, h⟩ := ob h
      refine m_ald X hP hv4 dX12_ahead_59 ?_
      exact N_ahead_60 X hP (lv_sub hl [1] rfl) h
    · have h := ine hc h
      refine lv_aload_n hx hb dX12_ahead_25 rfl (lv_at hl 1 rfl) ?_
      refine mg_kid X hP dX12_ahead_26 ?_
      refine lv_bipush (v := (30:Int32)) hx hb dX12_ahead_29 (by decide) ?_
      refine lv_aload_n hx hb dX12_ahead_31 rfl (lv_at hl 1 rfl) ?_
      refine mg_parent X hP dX12_ahead_32 ?_
      refine lv_iload_n hx hb dX12_ahead_35 rfl (lv_at hl 2 rfl) ?_
      obtain ⟨v5, hv5, h⟩ := ob h
      refine m_ald X hP hv5 dX12_ahead_36 ?_
      refine lv_imul hx hb dX12_ahead_37 ?_
      refine lv_iload_n hx hb dX12_ahead_38 rfl (lv_at hl 0 rfl) ?_
      refine lv_iadd hx hb dX12_ahead_39 ?_
      obtain ⟨v6, hv6, h⟩ := ob h
      refine m_ald X hP hv6 dX12_ahead_40 ?_
      refine lv_goto (tgt := 60) hx hb dX12_ahead_41 rfl ?_
      exact N_ahead_60 X hP (lv_sub hl [1] rfl) h
  · have h := ine hc h
    refine lv_iconst (v := ((-1):Int32)) hx hb dX12_ahead_12 (by decide) ?_
    refine lv_goto (tgt := 60) hx hb dX12_ahead_13 rfl ?_
    exact N_ahead_60 X hP (lv_sub hl [1] rfl) h
theorem cl_ahead {p : Program} {l : Launch} {e : Env} {s : State} {m : MethodId} {args : Array Value} {below : List Frame} {meth : Method} {c : Code} {D : mD} {mb : Nat} {H : Heap} {locs : List Loc} {Q : State → Prop} {cc : ByteArray} {pc fR lR nL : Nat} {ls : Array Slot} {rest : List Value} {ret : Option FieldType} {σ : mS} (X : mX p s m args meth c cc nL ret D) (hP : mP D mb σ H) {x1 : Int32} {r : Int32} (h : f_ahead x1 σ = some r) (hr : 1 + 1 ≤ fR ∧ 8 + (3 + 11) + 22 ≤ lR) (hl : ls.size = nL) (hW : (rest.map fun v => v.category).sum ≤ 8) (hdg : decode cc pc = .ok (.invokevirtual 472, 3)) (kk : W p l e (rM fR lR) s m args below meth c H locs 0 0 Q (F0 m (pc + 3) ls (.int r :: rest))) : W p l e (rM fR lR) s m args below meth c H locs 0 0 Q (F0 m pc ls (.int x1 :: .ref mb :: rest)) := m_cr (m_run (n := 1) X (K_ahead l D mb σ x1 h) ⟨w_2281, w_2283, w_139, w_2284⟩ (hyX rfl (by decide +kernel)) rfl hr hP hl hW hdg rfl) kk
-- flush()V
def f_flush_407   (σ : mS) : Option (mS) := some (sf (sf σ 49 (0:Int32)) 51 (((sf σ 49 (0:Int32)).2 51) + (1:Int32)))
def f_flush_397 (k318 : Int32 → Int32 → mS → Option (mS)) (x2 : Int32) (x5 : Int32) (y1 : Int32) (y2 : Int32) (σ : mS) : Option (mS) := k318 (x2) ((x5 + (1:Int32))) (sf σ 53 (y1 + y2))
def f_flush_396 (k318 : Int32 → Int32 → mS → Option (mS)) (x2 : Int32) (x5 : Int32) (y1 : Int32) (σ : mS) : Option (mS) := f_flush_397 k318 (x2) (x5) (y1) ((0:Int32)) σ
def f_flush_318  : Nat → Int32 → Int32 → mS → Option (mS)
  | 0, _, _, _ => none
  | n + 1, x2, x5, σ => if (σ.2 76) ≤ x5 then (f_flush_407 σ) else ((f_flags  σ).bind (fun v1 => if v1 = (0:Int32) then ((rd σ 75 x5).bind (fun v2 => (f_ahead (v2) σ).bind (fun v3 => (f_bit (x2) (v2)).bind (fun v4 => if v4 = (0:Int32) then (f_flush_396 (f_flush_318 n) (x2) (x5) ((σ.2 53)) σ) else (if v3 < (0:Int32) then (f_flush_396 (f_flush_318 n) (x2) (x5) ((σ.2 53)) σ) else ((f_bit (x2) (v3)).bind (fun v5 => if v5 = (0:Int32) then (f_flush_396 (f_flush_318 n) (x2) (x5) ((σ.2 53)) σ) else ((f_twins (v2) (v3) σ).bind (fun v6 => if v6 = (0:Int32) then (f_flush_396 (f_flush_318 n) (x2) (x5) ((σ.2 53)) σ) else (f_flush_397 (f_flush_318 n) (x2) (x5) ((σ.2 53)) ((1:Int32)) σ)))))))))) else (f_flush_407 σ)))
def f_flush_309 (k117 : Int32 → Int32 → Int32 → Int32 → mS → Option (mS)) (x2 : Int32) (x3 : Int32) (x4 : Int32) (x5 : Int32) (σ : mS) : Option (mS) := k117 (x2) (x3) (x4) ((x5 + (1:Int32))) σ
def f_flush_298 (k117 : Int32 → Int32 → Int32 → Int32 → mS → Option (mS)) (x2 : Int32) (x4 : Int32) (x5 : Int32) (x6 : Int32) (x7 : Int32) (y0 : Int32) (y1 : Int32) (σ : mS) : Option (mS) := (wr σ 46 x6 x7).bind (fun s1 => f_flush_309 k117 (x2) ((y0 ||| y1)) (x4) (x5) s1)
def f_flush_217 (k117 : Int32 → Int32 → Int32 → Int32 → mS → Option (mS)) (x2 : Int32) (x4 : Int32) (x5 : Int32) (x6 : Int32) (y0 : Int32) (y1 : Int32) (σ : mS) : Option (mS) := f_flush_309 k117 ((x2 ||| ((1:Int32) <<< (x6 &&& 31)))) ((y0 ||| y1)) (x4) (x5) (sf (sf σ 48 ((σ.2 48) ||| ((1:Int32) <<< (x6 &&& 31)))) 52 (((sf σ 48 ((σ.2 48) ||| ((1:Int32) <<< (x6 &&& 31)))).2 52) + (1:Int32)))
def f_flush_173 (k117 : Int32 → Int32 → Int32 → Int32 → mS → Option (mS)) (x2 : Int32) (x3 : Int32) (x5 : Int32) (x6 : Int32) (y0 : Int32) (y1 : Int32) (σ : mS) : Option (mS) := (f_bit ((((σ.2 49) ||| ((σ.2 48) ^^^ ((-1):Int32))) ||| (y0 ||| y1))) (x6)).bind (fun v1 => if v1 = (0:Int32) then ((rd σ 43 (((12:Int32) * x6) + (6:Int32))).bind (fun v2 => if v2 ≤ (0:Int32) then (f_flush_309 k117 (x2) (x3) ((y0 ||| y1)) (x5) σ) else ((f_sized (x6) ((0:Int32)) σ).bind (fun v3 => (rd v3.2 46 x6).bind (fun v4 => if v3.1 = v4 then (f_flush_298 k117 (x2) ((y0 ||| y1)) (x5) (x6) (v3.1) (x3) ((0:Int32)) v3.2) else (f_flush_298 k117 (x2) ((y0 ||| y1)) (x5) (x6) (v3.1) (x3) (((1:Int32) <<< (x6 &&& 31))) v3.2)))))) else ((f_restyle (x6) σ).bind (fun v5 => if v5.1 = (0:Int32) then (f_flush_217 k117 (x2) ((y0 ||| y1)) (x5) (x6) (x3) ((0:Int32)) v5.2) else (f_flush_217 k117 (x2) ((y0 ||| y1)) (x5) (x6) (x3) (((1:Int32) <<< (x6 &&& 31))) v5.2))))
def f_flush_172 (k117 : Int32 → Int32 → Int32 → Int32 → mS → Option (mS)) (x2 : Int32) (x3 : Int32) (x5 : Int32) (x6 : Int32) (y0 : Int32) (σ : mS) : Option (mS) := f_flush_173 k117 (x2) (x3) (x5) (x6) (y0) ((0:Int32)) σ
def f_flush_117  : Nat → Int32 → Int32 → Int32 → Int32 → mS → Option (mS)
  | 0, _, _, _, _, _ => none
  | n + 1, x2, x3, x4, x5, σ => if (σ.2 76) ≤ x5 then (f_flush_318 4000 (x2) ((0:Int32)) σ) else ((rd σ 75 x5).bind (fun v1 => (rd σ 77 v1).bind (fun v2 => if v2 < (0:Int32) then (f_flush_172 (f_flush_117 n) (x2) (x3) (x5) (v1) (x4) σ) else ((rd σ 77 v1).bind (fun v3 => (f_bit ((x3 ||| x4)) (v3)).bind (fun v4 => if v4 = (0:Int32) then (f_flush_172 (f_flush_117 n) (x2) (x3) (x5) (v1) (x4) σ) else (f_flush_173 (f_flush_117 n) (x2) (x3) (x5) (v1) (x4) (((1:Int32) <<< (v1 &&& 31))) σ)))))))
def f_flush_91  : Nat → Int32 → Int32 → Int32 → Int32 → mS → Option (mS)
  | 0, _, _, _, _, _ => none
  | n + 1, x2, x3, x4, x5, σ => if (σ.2 70) ≤ x5 then (f_flush_117 4000 (x2) (x3) (x4) ((0:Int32)) σ) else ((wr σ 69 x5 (0:Int32)).bind (fun s1 => f_flush_91 n (x2) (x3) (x4) ((x5 + (1:Int32))) s1))
def f_flush_82 (k23 : Int32 → Int32 → Int32 → Int32 → Int32 → mS → Option (mS)) (x1 : Int32) (x2 : Int32) (x3 : Int32) (x4 : Int32) (x5 : Int32) (σ : mS) : Option (mS) := k23 (x1) (x2) (x3) (x4) ((x5 + (1:Int32))) σ
def f_flush_35 (k23 : Int32 → Int32 → Int32 → Int32 → Int32 → mS → Option (mS)) : Nat → Int32 → Int32 → Int32 → Int32 → Int32 → Int32 → mS → Option (mS)
  | 0, _, _, _, _, _, _, _ => none
  | n + 1, x1, x2, x3, x4, x5, x6, σ => if (5:Int32) ≤ x6 then (f_flush_82 k23 (x1) (x2) (x3) (x4) (x5) σ) else ((f_bit ((x1 &&& (σ.2 48))) (x5)).bind (fun v1 => if v1 = (0:Int32) then (f_flush_82 k23 (x1) (x2) (x3) (x4) (x5) σ) else ((f_seenOf (x5) (x6) σ).bind (fun v2 => (wr σ 85 (((5:Int32) * x5) + x6) v2).bind (fun s3 => f_flush_35 k23 n (x1) (x2) (x3) (x4) (x5) ((x6 + (1:Int32))) s3)))))
def f_flush_23  : Nat → Int32 → Int32 → Int32 → Int32 → Int32 → mS → Option (mS)
  | 0, _, _, _, _, _, _ => none
  | n + 1, x1, x2, x3, x4, x5, σ => if (σ.2 13) ≤ x5 then (f_flush_91 4000 (x2) (x3) (x4) ((0:Int32)) σ) else (f_flush_35 (f_flush_23 n) 4000 (x1) (x2) (x3) (x4) (x5) ((0:Int32)) σ)
def f_flush  (σ : mS) : Option (mS) := (f_ordered  σ).bind (fun v1 => (f_hits  v1).bind (fun v2 => (f_docMask  v2).bind (fun v3 => f_flush_23 4000 (v3) ((0:Int32)) ((0:Int32)) ((0:Int32)) ((0:Int32)) v2)))
set_option maxRecDepth 20000 in
set_option maxHeartbeats 4000000 in
theorem N_flush_407 {p : Program} {l : Launch} {e : Env} {s : State} {m : MethodId} {args : Array Value} {below : List Frame} {meth : Method} {c : Code} {D : mD} {mb : Nat}    {σ : mS} {H : Heap} {locs : List Loc} {ls : Array Slot} {q : mS} (X : mX p s m args meth c cX12_flush 8 none D) (hP : mP D mb σ H) (hF : mF mb s.heap H locs)  (hl : lv_has ls 8 [(0, .ref mb)]) (h : f_flush_407   σ = some q) : mWw p l e 14 359 s m args below meth c D mb q none H locs (F0 m 407 ls []) := by
  have hx := X.1
  have hb := X.2.1
  have hown := X.2.2.2.1
  have hts := X.2.2.2.2.1
  have h : (some (sf (sf σ 49 (0:Int32)) 51 (((sf σ 49 (0:Int32)).2 51) + (1:Int32)))) = some q := h
  refine lv_aload_n hx hb dX12_flush_407 rfl (lv_at hl 0 rfl) ?_
  refine lv_iconst (v := (0:Int32)) hx hb dX12_flush_408 (by decide) ?_
  refine mp_mk X hP hF dX12_flush_409 (fun H locs hP hF => ?_)
  refine lv_aload_n hx hb dX12_flush_412 rfl (lv_at hl 0 rfl) ?_
  refine lv_dup hx hb dX12_flush_413 rfl ?_
  refine mg_flushes X hP dX12_flush_414 ?_
  refine lv_iconst (v := (1:Int32)) hx hb dX12_flush_417 (by decide) ?_
  refine lv_iadd hx hb dX12_flush_418 ?_
  refine mp_flushes X hP hF dX12_flush_419 (fun H locs hP hF => ?_)
  obtain rfl := sj h
  exact m_wv X hP hF dX12_flush_422
set_option maxRecDepth 20000 in
set_option maxHeartbeats 4000000 in
theorem N_flush_397 {p : Program} {l : Launch} {e : Env} {s : State} {m : MethodId} {args : Array Value} {below : List Frame} {meth : Method} {c : Code} {D : mD} {mb : Nat} {k318 : Int32 → Int32 → mS → Option (mS)}  {x2 : Int32} {x5 : Int32} {y1 : Int32} {y2 : Int32} {σ : mS} {H : Heap} {locs : List Loc} {ls : Array Slot} {q : mS} (X : mX p s m args meth c cX12_flush 8 none D) (hP : mP D mb σ H) (hF : mF mb s.heap H locs) (hk318 : ∀ {x2 : Int32} {x5 : Int32} {σ : mS} {H : Heap} {locs : List Loc} {ls : Array Slot}, mP D mb σ H → mF mb s.heap H locs → lv_has ls 8 [(0, .ref mb), (2, .int x2), (5, .int x5)] → k318 x2 x5 σ = some q → mWw p l e 14 359 s m args below meth c D mb q none H locs (F0 m 318 ls [])) (hl : lv_has ls 8 [(0, .ref mb), (2, .int x2), (5, .int x5)]) (h : f_flush_397 k318 x2 x5 y1 y2 σ = some q) : mWw p l e 14 359 s m args below meth c D mb q none H locs (F0 m 397 ls [.int y2, .int y1, .ref mb]) := by
  have hx := X.1
  have hb := X.2.1
  have hown := X.2.2.2.1
  have hts := X.2.2.2.2.1
  have h : (k318 (x2) ((x5 + (1:Int32))) (sf σ 53 (y1 + y2))) = some q := h
  refine lv_iadd hx hb dX12_flush_397 ?_
  refine mp_shared X hP hF dX12_flush_398 (fun H locs hP hF => ?_)
  refine lv_iinc (v := (x5 + (1:Int32))) hx hb dX12_flush_401 hl (k := 2) rfl rfl (Nat.le_of_ble_eq_true rfl) rfl (fun ls (hl : lv_has ls 8 [(5, .int (x5 + (1:Int32))), (0, .ref mb), (2, .int x2)]) => ?_)
  refine lv_goto (tgt := 318) hx hb dX12_flush_404 rfl ?_
  exact hk318 hP hF (lv_sub hl [1, 2, 0] rfl) h
set_option maxRecDepth 20000 in
set_option maxHeartbeats 4000000 in
theorem N_flush_396 {p : Program} {l : Launch} {e : Env} {s : State} {m : MethodId} {args : Array Value} {below : List Frame} {meth : Method} {c : Code} {D : mD} {mb : Nat} {k318 : Int32 → Int32 → mS → Option (mS)}  {x2 : Int32} {x5 : Int32} {y1 : Int32} {σ : mS} {H : Heap} {locs : List Loc} {ls : Array Slot} {q : mS} (X : mX p s m args meth c cX12_flush 8 none D) (hP : mP D mb σ H) (hF : mF mb s.heap H locs) (hk318 : ∀ {x2 : Int32} {x5 : Int32} {σ : mS} {H : Heap} {locs : List Loc} {ls : Array Slot}, mP D mb σ H → mF mb s.heap H locs → lv_has ls 8 [(0, .ref mb), (2, .int x2), (5, .int x5)] → k318 x2 x5 σ = some q → mWw p l e 14 359 s m args below meth c D mb q none H locs (F0 m 318 ls [])) (hl : lv_has ls 8 [(0, .ref mb), (2, .int x2), (5, .int x5)]) (h : f_flush_396 k318 x2 x5 y1 σ = some q) : mWw p l e 14 359 s m args below meth c D mb q none H locs (F0 m 396 ls [.int y1, .ref mb]) := by
  have hx := X.1
  have hb := X.2.1
  have hown := X.2.2.2.1
  have hts := X.2.2.2.2.1
  have h : (f_flush_397 k318 (x2) (x5) (y1) ((0:Int32)) σ) = some q := h
  refine lv_iconst (v := (0:Int32)) hx hb dX12_flush_396 (by decide) ?_
  exact N_flush_397 X hP hF hk318 (lv_sub hl [0, 1, 2] rfl) h
set_option maxRecDepth 20000 in
set_option maxHeartbeats 4000000 in
theorem N_flush_318 {p : Program} {l : Launch} {e : Env} {s : State} {m : MethodId} {args : Array Value} {below : List Frame} {meth : Method} {c : Code} {D : mD} {mb : Nat}  {n : Nat} {x2 : Int32} {x5 : Int32} {σ : mS} {H : Heap} {locs : List Loc} {ls : Array Slot} {q : mS} (X : mX p s m args meth c cX12_flush 8 none D) (hP : mP D mb σ H) (hF : mF mb s.heap H locs)  (hl : lv_has ls 8 [(0, .ref mb), (2, .int x2), (5, .int x5)]) (h : f_flush_318  n x2 x5 σ = some q) : mWw p l e 14 359 s m args below meth c D mb q none H locs (F0 m 318 ls []) := by
  have hx := X.1
  have hb := X.2.1
  have hown := X.2.2.2.1
  have hts := X.2.2.2.2.1
  induction n generalizing x2 x5 σ H locs ls with
  | zero => exact absurd (show none = some q from h) (by simp)
  | succ n ih =>
    have h : (if (σ.2 76) ≤ x5 then (f_flush_407 σ) else ((f_flags  σ).bind (fun v1 => if v1 = (0:Int32) then ((rd σ 75 x5).bind (fun v2 => (f_ahead (v2) σ).bind (fun v3 => (f_bit (x2) (v2)).bind (fun v4 => if v4 = (0:Int32) then (f_flush_396 (f_flush_318 n) (x2) (x5) ((σ.2 53)) σ) else (if v3 < (0:Int32) then (f_flush_396 (f_flush_318 n) (x2) (x5) ((σ.2 53)) σ) else ((f_bit (x2) (v3)).bind (fun v5 => if v5 = (0:Int32) then (f_flush_396 (f_flush_318 n) (x2) (x5) ((σ.2 53)) σ) else ((f_twins (v2) (v3) σ).bind (fun v6 => if v6 = (0:Int32) then (f_flush_396 (f_flush_318 n) (x2) (x5) ((σ.2 53)) σ) else (f_flush_397 (f_flush_318 n) (x2) (x5) ((σ.2 53)) ((1:Int32)) σ)))))))))) else (f_flush_407 σ)))) = some q := h
    refine lv_iload hx hb dX12_flush_318 (lv_at hl 2 rfl) ?_
    refine lv_aload_n hx hb dX12_flush_320 rfl (lv_at hl 0 rfl) ?_
    refine mg_many X hP dX12_flush_321 ?_
    refine lv_icmp_ge (tgt := 407) hx hb dX12_flush_324 rfl (fun hc => ?_) (fun hc => ?_)
    · have h := ip hc h
      exact N_flush_407 X hP hF (lv_sub hl [0] rfl) h
    · have h := ine hc h
      refine lv_aload_n hx hb dX12_flush_327 rfl (lv_at hl 0 rfl) ?_
      obtain ⟨v1, hv1, h⟩ := ob h
      refine cl_flags X hP hv1 ⟨Nat.le_of_ble_eq_true rfl, Nat.le_of_ble_eq_true rfl⟩ hl.1 (Nat.le_of_ble_eq_true rfl) dX12_flush_328 ?_
      refine lv_if_ne (tgt := 407) hx hb dX12_flush_331 rfl (fun hc => ?_) (fun hc => ?_)
      · have h := ine hc h
        exact N_flush_407 X hP hF (lv_sub hl [0] rfl) h
      · have h := ip hc h
        refine lv_aload_n hx hb dX12_flush_334 rfl (lv_at hl 0 rfl) ?_
        refine mg_order X hP dX12_flush_335 ?_
        refine lv_iload hx hb dX12_flush_338 (lv_at hl 2 rfl) ?_
        obtain ⟨v2, hv2, h⟩ := ob h
        refine m_ald X hP hv2 dX12_flush_340 ?_
        refine lv_istore hx hb dX12_flush_341 hl (Nat.le_of_ble_eq_true rfl) rfl (fun ls (hl : lv_has ls 8 [(6, .int v2), (0, .ref mb), (2, .int x2), (5, .int x5)]) => ?_)
        refine lv_aload_n hx hb dX12_flush_343 rfl (lv_at hl 1 rfl) ?_
        refine lv_iload hx hb dX12_flush_344 (lv_at hl 0 rfl) ?_
        obtain ⟨v3, hv3, h⟩ := ob h
        refine cl_ahead X hP hv3 ⟨Nat.le_of_ble_eq_true rfl, Nat.le_of_ble_eq_true rfl⟩ hl.1 (Nat.le_of_ble_eq_true rfl) dX12_flush_346 ?_
        refine lv_istore hx hb dX12_flush_349 hl (Nat.le_of_ble_eq_true rfl) rfl (fun ls (hl : lv_has ls 8 [(7, .int v3), (6, .int v2), (0, .ref mb), (2, .int x2), (5, .int x5)]) => ?_)
        refine lv_aload_n hx hb dX12_flush_351 rfl (lv_at hl 2 rfl) ?_
        refine lv_dup hx hb dX12_flush_352 rfl ?_
        refine mg_shared X hP dX12_flush_353 ?_
        refine lv_aload_n hx hb dX12_flush_356 rfl (lv_at hl 2 rfl) ?_
        refine lv_iload_n hx hb dX12_flush_357 rfl (lv_at hl 3 rfl) ?_
        refine lv_iload hx hb dX12_flush_358 (lv_at hl 1 rfl) ?_
        obtain ⟨v4, hv4, h⟩ := ob h
        refine cl_bit X hP hv4 ⟨Nat.le_of_ble_eq_true rfl, Nat.le_of_ble_eq_true rfl⟩ hl.1 (Nat.le_of_ble_eq_true rfl) dX12_flush_360 ?_
        refine lv_if_eq (tgt := 396) hx hb dX12_flush_363 rfl (fun hc => ?_) (fun hc => ?_)
        · have h := ip hc h
          exact N_flush_396 X hP hF ih (lv_sub hl [2, 3, 4] rfl) h
        · have h := ine hc h
          refine lv_iload hx hb dX12_flush_366 (lv_at hl 0 rfl) ?_
          refine lv_if_lt (tgt := 396) hx hb dX12_flush_368 rfl (fun hc => ?_) (fun hc => ?_)
          · have h := ip hc h
            exact N_flush_396 X hP hF ih (lv_sub hl [2, 3, 4] rfl) h
          · have h := ine hc h
            refine lv_aload_n hx hb dX12_flush_371 rfl (lv_at hl 2 rfl) ?_
            refine lv_iload_n hx hb dX12_flush_372 rfl (lv_at hl 3 rfl) ?_
            refine lv_iload hx hb dX12_flush_373 (lv_at hl 0 rfl) ?_
            obtain ⟨v5, hv5, h⟩ := ob h
            refine cl_bit X hP hv5 ⟨Nat.le_of_ble_eq_true rfl, Nat.le_of_ble_eq_true rfl⟩ hl.1 (Nat.le_of_ble_eq_true rfl) dX12_flush_375 ?_
            refine lv_if_eq (tgt := 396) hx hb dX12_flush_378 rfl (fun hc => ?_) (fun hc => ?_)
            · have h := ip hc h
              exact N_flush_396 X hP hF ih (lv_sub hl [2, 3, 4] rfl) h
            · have h := ine hc h
              refine lv_aload_n hx hb dX12_flush_381 rfl (lv_at hl 2 rfl) ?_
              refine lv_iload hx hb dX12_flush_382 (lv_at hl 1 rfl) ?_
              refine lv_iload hx hb dX12_flush_384 (lv_at hl 0 rfl) ?_
              obtain ⟨v6, hv6, h⟩ := ob h
              refine cl_twins X hP hv6 ⟨Nat.le_of_ble_eq_true rfl, Nat.le_of_ble_eq_true rfl⟩ hl.1 (Nat.le_of_ble_eq_true rfl) dX12_flush_386 ?_
              refine lv_if_eq (tgt := 396) hx hb dX12_flush_389 rfl (fun hc => ?_) (fun hc => ?_)
              · have h := ip hc h
                exact N_flush_396 X hP hF ih (lv_sub hl [2, 3, 4] rfl) h
              · have h := ine hc h
                refine lv_iconst (v := (1:Int32)) hx hb dX12_flush_392 (by decide) ?_
                refine lv_goto (tgt := 397) hx hb dX12_flush_393 rfl ?_
                exact N_flush_397 X hP hF ih (lv_sub hl [2, 3, 4] rfl) h
set_option maxRecDepth 20000 in
set_option maxHeartbeats 4000000 in
theorem N_flush_309 {p : Program} {l : Launch} {e : Env} {s : State} {m : MethodId} {args : Array Value} {below : List Frame} {meth : Method} {c : Code} {D : mD} {mb : Nat} {k117 : Int32 → Int32 → Int32 → Int32 → mS → Option (mS)}  {x2 : Int32} {x3 : Int32} {x4 : Int32} {x5 : Int32} {σ : mS} {H : Heap} {locs : List Loc} {ls : Array Slot} {q : mS} (X : mX p s m args meth c cX12_flush 8 none D) (hP : mP D mb σ H) (hF : mF mb s.heap H locs) (hk117 : ∀ {x2 : Int32} {x3 : Int32} {x4 : Int32} {x5 : Int32} {σ : mS} {H : Heap} {locs : List Loc} {ls : Array Slot}, mP D mb σ H → mF mb s.heap H locs → lv_has ls 8 [(0, .ref mb), (2, .int x2), (3, .int x3), (4, .int x4), (5, .int x5)] → k117 x2 x3 x4 x5 σ = some q → mWw p l e 14 359 s m args below meth c D mb q none H locs (F0 m 117 ls [])) (hl : lv_has ls 8 [(0, .ref mb), (2, .int x2), (3, .int x3), (4, .int x4), (5, .int x5)]) (h : f_flush_309 k117 x2 x3 x4 x5 σ = some q) : mWw p l e 14 359 s m args below meth c D mb q none H locs (F0 m 309 ls []) := by
  have hx := X.1
  have hb := X.2.1
  have hown := X.2.2.2.1
  have hts := X.2.2.2.2.1
  have h : (k117 (x2) (x3) (x4) ((x5 + (1:Int32))) σ) = some q := h
  refine lv_iinc (v := (x5 + (1:Int32))) hx hb dX12_flush_309 hl (k := 4) rfl rfl (Nat.le_of_ble_eq_true rfl) rfl (fun ls (hl : lv_has ls 8 [(5, .int (x5 + (1:Int32))), (0, .ref mb), (2, .int x2), (3, .int x3), (4, .int x4)]) => ?_)
  refine lv_goto (tgt := 117) hx hb dX12_flush_312 rfl ?_
  exact hk117 hP hF (lv_sub hl [1, 2, 3, 4, 0] rfl) h
set_option maxRecDepth 20000 in
set_option maxHeartbeats 4000000 in
theorem N_flush_298 {p : Program} {l : Launch} {e : Env} {s : State} {m : MethodId} {args : Array Value} {below : List Frame} {meth : Method} {c : Code} {D : mD} {mb : Nat} {k117 : Int32 → Int32 → Int32 → Int32 → mS → Option (mS)}  {x2 : Int32} {x4 : Int32} {x5 : Int32} {x6 : Int32} {x7 : Int32} {y0 : Int32} {y1 : Int32} {σ : mS} {H : Heap} {locs : List Loc} {ls : Array Slot} {q : mS} (X : mX p s m args meth c cX12_flush 8 none D) (hP : mP D mb σ H) (hF : mF mb s.heap H locs) (hk117 : ∀ {x2 : Int32} {x3 : Int32} {x4 : Int32} {x5 : Int32} {σ : mS} {H : Heap} {locs : List Loc} {ls : Array Slot}, mP D mb σ H → mF mb s.heap H locs → lv_has ls 8 [(0, .ref mb), (2, .int x2), (3, .int x3), (4, .int x4), (5, .int x5)] → k117 x2 x3 x4 x5 σ = some q → mWw p l e 14 359 s m args below meth c D mb q none H locs (F0 m 117 ls [])) (hl : lv_has ls 8 [(0, .ref mb), (2, .int x2), (4, .int x4), (5, .int x5), (6, .int x6), (7, .int x7)]) (h : f_flush_298 k117 x2 x4 x5 x6 x7 y0 y1 σ = some q) : mWw p l e 14 359 s m args below meth c D mb q none H locs (F0 m 298 ls [.int y1, .int y0]) := by
  have hx := X.1
  have hb := X.2.1
  have hown := X.2.2.2.1
  have hts := X.2.2.2.2.1
  have h : ((wr σ 46 x6 x7).bind (fun s1 => f_flush_309 k117 (x2) ((y0 ||| y1)) (x4) (x5) s1)) = some q := h
  refine lv_ior hx hb dX12_flush_298 ?_
  refine lv_istore_n hx hb dX12_flush_299 rfl hl (Nat.le_of_ble_eq_true rfl) rfl (fun ls (hl : lv_has ls 8 [(3, .int (y0 ||| y1)), (0, .ref mb), (2, .int x2), (4, .int x4), (5, .int x5), (6, .int x6), (7, .int x7)]) => ?_)
  refine lv_aload_n hx hb dX12_flush_300 rfl (lv_at hl 1 rfl) ?_
  refine mg_sz X hP dX12_flush_301 ?_
  refine lv_iload hx hb dX12_flush_304 (lv_at hl 5 rfl) ?_
  refine lv_iload hx hb dX12_flush_306 (lv_at hl 6 rfl) ?_
  obtain ⟨s1, hs1, h⟩ := ob h
  refine m_ast X hP hF hs1 dX12_flush_308 (fun H locs hP hF => ?_)
  exact N_flush_309 X hP hF hk117 (lv_sub hl [1, 2, 0, 3, 4] rfl) h
set_option maxRecDepth 20000 in
set_option maxHeartbeats 4000000 in
theorem N_flush_217 {p : Program} {l : Launch} {e : Env} {s : State} {m : MethodId} {args : Array Value} {below : List Frame} {meth : Method} {c : Code} {D : mD} {mb : Nat} {k117 : Int32 → Int32 → Int32 → Int32 → mS → Option (mS)}  {x2 : Int32} {x4 : Int32} {x5 : Int32} {x6 : Int32} {y0 : Int32} {y1 : Int32} {σ : mS} {H : Heap} {locs : List Loc} {ls : Array Slot} {q : mS} (X : mX p s m args meth c cX12_flush 8 none D) (hP : mP D mb σ H) (hF : mF mb s.heap H locs) (hk117 : ∀ {x2 : Int32} {x3 : Int32} {x4 : Int32} {x5 : Int32} {σ : mS} {H : Heap} {locs : List Loc} {ls : Array Slot}, mP D mb σ H → mF mb s.heap H locs → lv_has ls 8 [(0, .ref mb), (2, .int x2), (3, .int x3), (4, .int x4), (5, .int x5)] → k117 x2 x3 x4 x5 σ = some q → mWw p l e 14 359 s m args below meth c D mb q none H locs (F0 m 117 ls [])) (hl : lv_has ls 8 [(0, .ref mb), (2, .int x2), (4, .int x4), (5, .int x5), (6, .int x6)]) (h : f_flush_217 k117 x2 x4 x5 x6 y0 y1 σ = some q) : mWw p l e 14 359 s m args below meth c D mb q none H locs (F0 m 217 ls [.int y1, .int y0]) := by
  have hx := X.1
  have hb := X.2.1
  have hown := X.2.2.2.1
  have hts := X.2.2.2.2.1
  have h : (f_flush_309 k117 ((x2 ||| ((1:Int32) <<< (x6 &&& 31)))) ((y0 ||| y1)) (x4) (x5) (sf (sf σ 48 ((σ.2 48) ||| ((1:Int32) <<< (x6 &&& 31)))) 52 (((sf σ 48 ((σ.2 48) ||| ((1:Int32) <<< (x6 &&& 31)))).2 52) + (1:Int32)))) = some q := h
  refine lv_ior hx hb dX12_flush_217 ?_
  refine lv_istore_n hx hb dX12_flush_218 rfl hl (Nat.le_of_ble_eq_true rfl) rfl (fun ls (hl : lv_has ls 8 [(3, .int (y0 ||| y1)), (0, .ref mb), (2, .int x2), (4, .int x4), (5, .int x5), (6, .int x6)]) => ?_)
  refine lv_iload_n hx hb dX12_flush_219 rfl (lv_at hl 2 rfl) ?_
  refine lv_iconst (v := (1:Int32)) hx hb dX12_flush_220 (by decide) ?_
  refine lv_iload hx hb dX12_flush_221 (lv_at hl 5 rfl) ?_
  refine lv_ishl hx hb dX12_flush_223 ?_
  refine lv_ior hx hb dX12_flush_224 ?_
  refine lv_istore_n hx hb dX12_flush_225 rfl hl (Nat.le_of_ble_eq_true rfl) rfl (fun ls (hl : lv_has ls 8 [(2, .int (x2 ||| ((1:Int32) <<< (x6 &&& 31)))), (3, .int (y0 ||| y1)), (0, .ref mb), (4, .int x4), (5, .int x5), (6, .int x6)]) => ?_)
  refine lv_aload_n hx hb dX12_flush_226 rfl (lv_at hl 2 rfl) ?_
  refine lv_dup hx hb dX12_flush_227 rfl ?_
  refine mg_has X hP dX12_flush_228 ?_
  refine lv_iconst (v := (1:Int32)) hx hb dX12_flush_231 (by decide) ?_
  refine lv_iload hx hb dX12_flush_232 (lv_at hl 5 rfl) ?_
  refine lv_ishl hx hb dX12_flush_234 ?_
  refine lv_ior hx hb dX12_flush_235 ?_
  refine mp_has X hP hF dX12_flush_236 (fun H locs hP hF => ?_)
  refine lv_aload_n hx hb dX12_flush_239 rfl (lv_at hl 2 rfl) ?_
  refine lv_dup hx hb dX12_flush_240 rfl ?_
  refine mg_restyled X hP dX12_flush_241 ?_
  refine lv_iconst (v := (1:Int32)) hx hb dX12_flush_244 (by decide) ?_
  refine lv_iadd hx hb dX12_flush_245 ?_
  refine mp_restyled X hP hF dX12_flush_246 (fun H locs hP hF => ?_)
  refine lv_goto (tgt := 309) hx hb dX12_flush_249 rfl ?_
  exact N_flush_309 X hP hF hk117 (lv_sub hl [2, 0, 1, 3, 4] rfl) h
set_option maxRecDepth 20000 in
set_option maxHeartbeats 4000000 in
theorem N_flush_173 {p : Program} {l : Launch} {e : Env} {s : State} {m : MethodId} {args : Array Value} {below : List Frame} {meth : Method} {c : Code} {D : mD} {mb : Nat} {k117 : Int32 → Int32 → Int32 → Int32 → mS → Option (mS)}  {x2 : Int32} {x3 : Int32} {x5 : Int32} {x6 : Int32} {y0 : Int32} {y1 : Int32} {σ : mS} {H : Heap} {locs : List Loc} {ls : Array Slot} {q : mS} (X : mX p s m args meth c cX12_flush 8 none D) (hP : mP D mb σ H) (hF : mF mb s.heap H locs) (hk117 : ∀ {x2 : Int32} {x3 : Int32} {x4 : Int32} {x5 : Int32} {σ : mS} {H : Heap} {locs : List Loc} {ls : Array Slot}, mP D mb σ H → mF mb s.heap H locs → lv_has ls 8 [(0, .ref mb), (2, .int x2), (3, .int x3), (4, .int x4), (5, .int x5)] → k117 x2 x3 x4 x5 σ = some q → mWw p l e 14 359 s m args below meth c D mb q none H locs (F0 m 117 ls [])) (hl : lv_has ls 8 [(0, .ref mb), (2, .int x2), (3, .int x3), (5, .int x5), (6, .int x6)]) (h : f_flush_173 k117 x2 x3 x5 x6 y0 y1 σ = some q) : mWw p l e 14 359 s m args below meth c D mb q none H locs (F0 m 173 ls [.int y1, .int y0]) := by
  have hx := X.1
  have hb := X.2.1
  have hown := X.2.2.2.1
  have hts := X.2.2.2.2.1
  have h : ((f_bit ((((σ.2 49) ||| ((σ.2 48) ^^^ ((-1):Int32))) ||| (y0 ||| y1))) (x6)).bind (fun v1 => if v1 = (0:Int32) then ((rd σ 43 (((12:Int32) * x6) + (6:Int32))).bind (fun v2 => if v2 ≤ (0:Int32) then (f_flush_309 k117 (x2) (x3) ((y0 ||| y1)) (x5) σ) else ((f_sized (x6) ((0:Int32)) σ).bind (fun v3 => (rd v3.2 46 x6).bind (fun v4 => if v3.1 = v4 then (f_flush_298 k117 (x2) ((y0 ||| y1)) (x5) (x6) (v3.1) (x3) ((0:Int32)) v3.2) else (f_flush_298 k117 (x2) ((y0 ||| y1)) (x5) (x6) (v3.1) (x3) (((1:Int32) <<< (x6 &&& 31))) v3.2)))))) else ((f_restyle (x6) σ).bind (fun v5 => if v5.1 = (0:Int32) then (f_flush_217 k117 (x2) ((y0 ||| y1)) (x5) (x6) (x3) ((0:Int32)) v5.2) else (f_flush_217 k117 (x2) ((y0 ||| y1)) (x5) (x6) (x3) (((1:Int32) <<< (x6 &&& 31))) v5.2))))) = some q := h
  refine lv_ior hx hb dX12_flush_173 ?_
  refine lv_istore hx hb dX12_flush_174 hl (Nat.le_of_ble_eq_true rfl) rfl (fun ls (hl : lv_has ls 8 [(4, .int (y0 ||| y1)), (0, .ref mb), (2, .int x2), (3, .int x3), (5, .int x5), (6, .int x6)]) => ?_)
  refine lv_aload_n hx hb dX12_flush_176 rfl (lv_at hl 1 rfl) ?_
  refine lv_aload_n hx hb dX12_flush_177 rfl (lv_at hl 1 rfl) ?_
  refine mg_mk X hP dX12_flush_178 ?_
  refine lv_aload_n hx hb dX12_flush_181 rfl (lv_at hl 1 rfl) ?_
  refine mg_has X hP dX12_flush_182 ?_
  refine lv_iconst (v := ((-1):Int32)) hx hb dX12_flush_185 (by decide) ?_
  refine lv_ixor hx hb dX12_flush_186 ?_
  refine lv_ior hx hb dX12_flush_187 ?_
  refine lv_iload hx hb dX12_flush_188 (lv_at hl 0 rfl) ?_
  refine lv_ior hx hb dX12_flush_190 ?_
  refine lv_iload hx hb dX12_flush_191 (lv_at hl 5 rfl) ?_
  obtain ⟨v1, hv1, h⟩ := ob h
  refine cl_bit X hP hv1 ⟨Nat.le_of_ble_eq_true rfl, Nat.le_of_ble_eq_true rfl⟩ hl.1 (Nat.le_of_ble_eq_true rfl) dX12_flush_193 ?_
  refine lv_if_eq (tgt := 252) hx hb dX12_flush_196 rfl (fun hc => ?_) (fun hc => ?_)
  · have h := ip hc h
    refine lv_aload_n hx hb dX12_flush_252 rfl (lv_at hl 1 rfl) ?_
    refine mg_val X hP dX12_flush_253 ?_
    refine lv_bipush (v := (12:Int32)) hx hb dX12_flush_256 (by decide) ?_
    refine lv_iload hx hb dX12_flush_258 (lv_at hl 5 rfl) ?_
    refine lv_imul hx hb dX12_flush_260 ?_
    refine lv_bipush (v := (6:Int32)) hx hb dX12_flush_261 (by decide) ?_
    refine lv_iadd hx hb dX12_flush_263 ?_
    obtain ⟨v2, hv2, h⟩ := ob h
    refine m_ald X hP hv2 dX12_flush_264 ?_
    refine lv_if_le (tgt := 309) hx hb dX12_flush_265 rfl (fun hc => ?_) (fun hc => ?_)
    · have h := ip hc h
      exact N_flush_309 X hP hF hk117 (lv_sub hl [1, 2, 3, 0, 4] rfl) h
    · have h := ine hc h
      refine lv_aload_n hx hb dX12_flush_268 rfl (lv_at hl 1 rfl) ?_
      refine lv_iload hx hb dX12_flush_269 (lv_at hl 5 rfl) ?_
      refine lv_iconst (v := (0:Int32)) hx hb dX12_flush_271 (by decide) ?_
      obtain ⟨v3, hv3, h⟩ := ob h
      refine cl_sized X hP hF hv3 ⟨Nat.le_of_ble_eq_true rfl, Nat.le_of_ble_eq_true rfl⟩ hl.1 (Nat.le_of_ble_eq_true rfl) dX12_flush_272 (fun H locs hP hF => ?_)
      refine lv_istore hx hb dX12_flush_275 hl (Nat.le_of_ble_eq_true rfl) rfl (fun ls (hl : lv_has ls 8 [(7, .int v3.1), (4, .int (y0 ||| y1)), (0, .ref mb), (2, .int x2), (3, .int x3), (5, .int x5), (6, .int x6)]) => ?_)
      refine lv_iload_n hx hb dX12_flush_277 rfl (lv_at hl 4 rfl) ?_
      refine lv_iload hx hb dX12_flush_278 (lv_at hl 0 rfl) ?_
      refine lv_aload_n hx hb dX12_flush_280 rfl (lv_at hl 2 rfl) ?_
      refine mg_sz X hP dX12_flush_281 ?_
      refine lv_iload hx hb dX12_flush_284 (lv_at hl 6 rfl) ?_
      obtain ⟨v4, hv4, h⟩ := ob h
      refine m_ald X hP hv4 dX12_flush_286 ?_
      refine lv_icmp_ne (tgt := 294) hx hb dX12_flush_287 rfl (fun hc => ?_) (fun hc => ?_)
      · have h := ine hc h
        refine lv_iconst (v := (1:Int32)) hx hb dX12_flush_294 (by decide) ?_
        refine lv_iload hx hb dX12_flush_295 (lv_at hl 6 rfl) ?_
        refine lv_ishl hx hb dX12_flush_297 ?_
        exact N_flush_298 X hP hF hk117 (lv_sub hl [2, 3, 1, 5, 6, 0] rfl) h
      · have h := ip hc h
        refine lv_iconst (v := (0:Int32)) hx hb dX12_flush_290 (by decide) ?_
        refine lv_goto (tgt := 298) hx hb dX12_flush_291 rfl ?_
        exact N_flush_298 X hP hF hk117 (lv_sub hl [2, 3, 1, 5, 6, 0] rfl) h
  · have h := ine hc h
    refine lv_iload_n hx hb dX12_flush_199 rfl (lv_at hl 3 rfl) ?_
    refine lv_aload_n hx hb dX12_flush_200 rfl (lv_at hl 1 rfl) ?_
    refine lv_iload hx hb dX12_flush_201 (lv_at hl 5 rfl) ?_
    obtain ⟨v5, hv5, h⟩ := ob h
    refine cl_restyle X hP hF hv5 ⟨Nat.le_of_ble_eq_true rfl, Nat.le_of_ble_eq_true rfl⟩ hl.1 (Nat.le_of_ble_eq_true rfl) dX12_flush_203 (fun H locs hP hF => ?_)
    refine lv_if_eq (tgt := 216) hx hb dX12_flush_206 rfl (fun hc => ?_) (fun hc => ?_)
    · have h := ip hc h
      refine lv_iconst (v := (0:Int32)) hx hb dX12_flush_216 (by decide) ?_
      exact N_flush_217 X hP hF hk117 (lv_sub hl [1, 2, 0, 4, 5] rfl) h
    · have h := ine hc h
      refine lv_iconst (v := (1:Int32)) hx hb dX12_flush_209 (by decide) ?_
      refine lv_iload hx hb dX12_flush_210 (lv_at hl 5 rfl) ?_
      refine lv_ishl hx hb dX12_flush_212 ?_
      refine lv_goto (tgt := 217) hx hb dX12_flush_213 rfl ?_
      exact N_flush_217 X hP hF hk117 (lv_sub hl [1, 2, 0, 4, 5] rfl) h
set_option maxRecDepth 20000 in
set_option maxHeartbeats 4000000 in
theorem N_flush_172 {p : Program} {l : Launch} {e : Env} {s : State} {m : MethodId} {args : Array Value} {below : List Frame} {meth : Method} {c : Code} {D : mD} {mb : Nat} {k117 : Int32 → Int32 → Int32 → Int32 → mS → Option (mS)}  {x2 : Int32} {x3 : Int32} {x5 : Int32} {x6 : Int32} {y0 : Int32} {σ : mS} {H : Heap} {locs : List Loc} {ls : Array Slot} {q : mS} (X : mX p s m args meth c cX12_flush 8 none D) (hP : mP D mb σ H) (hF : mF mb s.heap H locs) (hk117 : ∀ {x2 : Int32} {x3 : Int32} {x4 : Int32} {x5 : Int32} {σ : mS} {H : Heap} {locs : List Loc} {ls : Array Slot}, mP D mb σ H → mF mb s.heap H locs → lv_has ls 8 [(0, .ref mb), (2, .int x2), (3, .int x3), (4, .int x4), (5, .int x5)] → k117 x2 x3 x4 x5 σ = some q → mWw p l e 14 359 s m args below meth c D mb q none H locs (F0 m 117 ls [])) (hl : lv_has ls 8 [(0, .ref mb), (2, .int x2), (3, .int x3), (5, .int x5), (6, .int x6)]) (h : f_flush_172 k117 x2 x3 x5 x6 y0 σ = some q) : mWw p l e 14 359 s m args below meth c D mb q none H locs (F0 m 172 ls [.int y0]) := by
  have hx := X.1
  have hb := X.2.1
  have hown := X.2.2.2.1
  have hts := X.2.2.2.2.1
  have h : (f_flush_173 k117 (x2) (x3) (x5) (x6) (y0) ((0:Int32)) σ) = some q := h
  refine lv_iconst (v := (0:Int32)) hx hb dX12_flush_172 (by decide) ?_
  exact N_flush_173 X hP hF hk117 (lv_sub hl [0, 1, 2, 3, 4] rfl) h
set_option maxRecDepth 20000 in
set_option maxHeartbeats 4000000 in
theorem N_flush_117 {p : Program} {l : Launch} {e : Env} {s : State} {m : MethodId} {args : Array Value} {below : List Frame} {meth : Method} {c : Code} {D : mD} {mb : Nat}  {n : Nat} {x2 : Int32} {x3 : Int32} {x4 : Int32} {x5 : Int32} {σ : mS} {H : Heap} {locs : List Loc} {ls : Array Slot} {q : mS} (X : mX p s m args meth c cX12_flush 8 none D) (hP : mP D mb σ H) (hF : mF mb s.heap H locs)  (hl : lv_has ls 8 [(0, .ref mb), (2, .int x2), (3, .int x3), (4, .int x4), (5, .int x5)]) (h : f_flush_117  n x2 x3 x4 x5 σ = some q) : mWw p l e 14 359 s m args below meth c D mb q none H locs (F0 m 117 ls []) := by
  have hx := X.1
  have hb := X.2.1
  have hown := X.2.2.2.1
  have hts := X.2.2.2.2.1
  induction n generalizing x2 x3 x4 x5 σ H locs ls with
  | zero => exact absurd (show none = some q from h) (by simp)
  | succ n ih =>
    have h : (if (σ.2 76) ≤ x5 then (f_flush_318 4000 (x2) ((0:Int32)) σ) else ((rd σ 75 x5).bind (fun v1 => (rd σ 77 v1).bind (fun v2 => if v2 < (0:Int32) then (f_flush_172 (f_flush_117 n) (x2) (x3) (x5) (v1) (x4) σ) else ((rd σ 77 v1).bind (fun v3 => (f_bit ((x3 ||| x4)) (v3)).bind (fun v4 => if v4 = (0:Int32) then (f_flush_172 (f_flush_117 n) (x2) (x3) (x5) (v1) (x4) σ) else (f_flush_173 (f_flush_117 n) (x2) (x3) (x5) (v1) (x4) (((1:Int32) <<< (v1 &&& 31))) σ)))))))) = some q := h
    refine lv_iload hx hb dX12_flush_117 (lv_at hl 4 rfl) ?_
    refine lv_aload_n hx hb dX12_flush_119 rfl (lv_at hl 0 rfl) ?_
    refine mg_many X hP dX12_flush_120 ?_
    refine lv_icmp_ge (tgt := 315) hx hb dX12_flush_123 rfl (fun hc => ?_) (fun hc => ?_)
    · have h := ip hc h
      refine lv_iconst (v := (0:Int32)) hx hb dX12_flush_315 (by decide) ?_
      refine lv_istore hx hb dX12_flush_316 hl (Nat.le_of_ble_eq_true rfl) rfl (fun ls (hl : lv_has ls 8 [(5, .int (0:Int32)), (0, .ref mb), (2, .int x2), (3, .int x3), (4, .int x4)]) => ?_)
      exact N_flush_318 X hP hF (lv_sub hl [1, 2, 0] rfl) h
    · have h := ine hc h
      refine lv_aload_n hx hb dX12_flush_126 rfl (lv_at hl 0 rfl) ?_
      refine mg_order X hP dX12_flush_127 ?_
      refine lv_iload hx hb dX12_flush_130 (lv_at hl 4 rfl) ?_
      obtain ⟨v1, hv1, h⟩ := ob h
      refine m_ald X hP hv1 dX12_flush_132 ?_
      refine lv_istore hx hb dX12_flush_133 hl (Nat.le_of_ble_eq_true rfl) rfl (fun ls (hl : lv_has ls 8 [(6, .int v1), (0, .ref mb), (2, .int x2), (3, .int x3), (4, .int x4), (5, .int x5)]) => ?_)
      refine lv_iload hx hb dX12_flush_135 (lv_at hl 4 rfl) ?_
      refine lv_aload_n hx hb dX12_flush_137 rfl (lv_at hl 1 rfl) ?_
      refine mg_shp X hP dX12_flush_138 ?_
      refine lv_iload hx hb dX12_flush_141 (lv_at hl 0 rfl) ?_
      obtain ⟨v2, hv2, h⟩ := ob h
      refine m_ald X hP hv2 dX12_flush_143 ?_
      refine lv_if_lt (tgt := 172) hx hb dX12_flush_144 rfl (fun hc => ?_) (fun hc => ?_)
      · have h := ip hc h
        exact N_flush_172 X hP hF ih (lv_sub hl [1, 2, 3, 5, 0] rfl) h
      · have h := ine hc h
        refine lv_aload_n hx hb dX12_flush_147 rfl (lv_at hl 1 rfl) ?_
        refine lv_iload_n hx hb dX12_flush_148 rfl (lv_at hl 3 rfl) ?_
        refine lv_iload hx hb dX12_flush_149 (lv_at hl 4 rfl) ?_
        refine lv_ior hx hb dX12_flush_151 ?_
        refine lv_aload_n hx hb dX12_flush_152 rfl (lv_at hl 1 rfl) ?_
        refine mg_shp X hP dX12_flush_153 ?_
        refine lv_iload hx hb dX12_flush_156 (lv_at hl 0 rfl) ?_
        obtain ⟨v3, hv3, h⟩ := ob h
        refine m_ald X hP hv3 dX12_flush_158 ?_
        obtain ⟨v4, hv4, h⟩ := ob h
        refine cl_bit X hP hv4 ⟨Nat.le_of_ble_eq_true rfl, Nat.le_of_ble_eq_true rfl⟩ hl.1 (Nat.le_of_ble_eq_true rfl) dX12_flush_159 ?_
        refine lv_if_eq (tgt := 172) hx hb dX12_flush_162 rfl (fun hc => ?_) (fun hc => ?_)
        · have h := ip hc h
          exact N_flush_172 X hP hF ih (lv_sub hl [1, 2, 3, 5, 0] rfl) h
        · have h := ine hc h
          refine lv_iconst (v := (1:Int32)) hx hb dX12_flush_165 (by decide) ?_
          refine lv_iload hx hb dX12_flush_166 (lv_at hl 0 rfl) ?_
          refine lv_ishl hx hb dX12_flush_168 ?_
          refine lv_goto (tgt := 173) hx hb dX12_flush_169 rfl ?_
          exact N_flush_173 X hP hF ih (lv_sub hl [1, 2, 3, 5, 0] rfl) h
set_option maxRecDepth 20000 in
set_option maxHeartbeats 4000000 in
theorem N_flush_91 {p : Program} {l : Launch} {e : Env} {s : State} {m : MethodId} {args : Array Value} {below : List Frame} {meth : Method} {c : Code} {D : mD} {mb : Nat}  {n : Nat} {x2 : Int32} {x3 : Int32} {x4 : Int32} {x5 : Int32} {σ : mS} {H : Heap} {locs : List Loc} {ls : Array Slot} {q : mS} (X : mX p s m args meth c cX12_flush 8 none D) (hP : mP D mb σ H) (hF : mF mb s.heap H locs)  (hl : lv_has ls 8 [(0, .ref mb), (2, .int x2), (3, .int x3), (4, .int x4), (5, .int x5)]) (h : f_flush_91  n x2 x3 x4 x5 σ = some q) : mWw p l e 14 359 s m args below meth c D mb q none H locs (F0 m 91 ls []) := by
  have hx := X.1
  have hb := X.2.1
  have hown := X.2.2.2.1
  have hts := X.2.2.2.2.1
  induction n generalizing x2 x3 x4 x5 σ H locs ls with
  | zero => exact absurd (show none = some q from h) (by simp)
  | succ n ih =>
    have h : (if (σ.2 70) ≤ x5 then (f_flush_117 4000 (x2) (x3) (x4) ((0:Int32)) σ) else ((wr σ 69 x5 (0:Int32)).bind (fun s1 => f_flush_91 n (x2) (x3) (x4) ((x5 + (1:Int32))) s1))) = some q := h
    refine lv_iload hx hb dX12_flush_91 (lv_at hl 4 rfl) ?_
    refine lv_aload_n hx hb dX12_flush_93 rfl (lv_at hl 0 rfl) ?_
    refine mg_listeners X hP dX12_flush_94 ?_
    refine lv_icmp_ge (tgt := 114) hx hb dX12_flush_97 rfl (fun hc => ?_) (fun hc => ?_)
    · have h := ip hc h
      refine lv_iconst (v := (0:Int32)) hx hb dX12_flush_114 (by decide) ?_
      refine lv_istore hx hb dX12_flush_115 hl (Nat.le_of_ble_eq_true rfl) rfl (fun ls (hl : lv_has ls 8 [(5, .int (0:Int32)), (0, .ref mb), (2, .int x2), (3, .int x3), (4, .int x4)]) => ?_)
      exact N_flush_117 X hP hF (lv_sub hl [1, 2, 3, 4, 0] rfl) h
    · have h := ine hc h
      refine lv_aload_n hx hb dX12_flush_100 rfl (lv_at hl 0 rfl) ?_
      refine mg_lx X hP dX12_flush_101 ?_
      refine lv_iload hx hb dX12_flush_104 (lv_at hl 4 rfl) ?_
      refine lv_iconst (v := (0:Int32)) hx hb dX12_flush_106 (by decide) ?_
      obtain ⟨s1, hs1, h⟩ := ob h
      refine m_ast X hP hF hs1 dX12_flush_107 (fun H locs hP hF => ?_)
      refine lv_iinc (v := (x5 + (1:Int32))) hx hb dX12_flush_108 hl (k := 4) rfl rfl (Nat.le_of_ble_eq_true rfl) rfl (fun ls (hl : lv_has ls 8 [(5, .int (x5 + (1:Int32))), (0, .ref mb), (2, .int x2), (3, .int x3), (4, .int x4)]) => ?_)
      refine lv_goto (tgt := 91) hx hb dX12_flush_111 rfl ?_
      exact ih hP hF (lv_sub hl [1, 2, 3, 4, 0] rfl) h
set_option maxRecDepth 20000 in
set_option maxHeartbeats 4000000 in
theorem N_flush_82 {p : Program} {l : Launch} {e : Env} {s : State} {m : MethodId} {args : Array Value} {below : List Frame} {meth : Method} {c : Code} {D : mD} {mb : Nat} {k23 : Int32 → Int32 → Int32 → Int32 → Int32 → mS → Option (mS)}  {x1 : Int32} {x2 : Int32} {x3 : Int32} {x4 : Int32} {x5 : Int32} {σ : mS} {H : Heap} {locs : List Loc} {ls : Array Slot} {q : mS} (X : mX p s m args meth c cX12_flush 8 none D) (hP : mP D mb σ H) (hF : mF mb s.heap H locs) (hk23 : ∀ {x1 : Int32} {x2 : Int32} {x3 : Int32} {x4 : Int32} {x5 : Int32} {σ : mS} {H : Heap} {locs : List Loc} {ls : Array Slot}, mP D mb σ H → mF mb s.heap H locs → lv_has ls 8 [(0, .ref mb), (1, .int x1), (2, .int x2), (3, .int x3), (4, .int x4), (5, .int x5)] → k23 x1 x2 x3 x4 x5 σ = some q → mWw p l e 14 359 s m args below meth c D mb q none H locs (F0 m 23 ls [])) (hl : lv_has ls 8 [(0, .ref mb), (1, .int x1), (2, .int x2), (3, .int x3), (4, .int x4), (5, .int x5)]) (h : f_flush_82 k23 x1 x2 x3 x4 x5 σ = some q) : mWw p l e 14 359 s m args below meth c D mb q none H locs (F0 m 82 ls []) := by
  have hx := X.1
  have hb := X.2.1
  have hown := X.2.2.2.1
  have hts := X.2.2.2.2.1
  have h : (k23 (x1) (x2) (x3) (x4) ((x5 + (1:Int32))) σ) = some q := h
  refine lv_iinc (v := (x5 + (1:Int32))) hx hb dX12_flush_82 hl (k := 5) rfl rfl (Nat.le_of_ble_eq_true rfl) rfl (fun ls (hl : lv_has ls 8 [(5, .int (x5 + (1:Int32))), (0, .ref mb), (1, .int x1), (2, .int x2), (3, .int x3), (4, .int x4)]) => ?_)
  refine lv_goto (tgt := 23) hx hb dX12_flush_85 rfl ?_
  exact hk23 hP hF (lv_sub hl [1, 2, 3, 4, 5, 0] rfl) h
set_option maxRecDepth 20000 in
set_option maxHeartbeats 4000000 in
theorem N_flush_35 {p : Program} {l : Launch} {e : Env} {s : State} {m : MethodId} {args : Array Value} {below : List Frame} {meth : Method} {c : Code} {D : mD} {mb : Nat} {k23 : Int32 → Int32 → Int32 → Int32 → Int32 → mS → Option (mS)} {n : Nat} {x1 : Int32} {x2 : Int32} {x3 : Int32} {x4 : Int32} {x5 : Int32} {x6 : Int32} {σ : mS} {H : Heap} {locs : List Loc} {ls : Array Slot} {q : mS} (X : mX p s m args meth c cX12_flush 8 none D) (hP : mP D mb σ H) (hF : mF mb s.heap H locs) (hk23 : ∀ {x1 : Int32} {x2 : Int32} {x3 : Int32} {x4 : Int32} {x5 : Int32} {σ : mS} {H : Heap} {locs : List Loc} {ls : Array Slot}, mP D mb σ H → mF mb s.heap H locs → lv_has ls 8 [(0, .ref mb), (1, .int x1), (2, .int x2), (3, .int x3), (4, .int x4), (5, .int x5)] → k23 x1 x2 x3 x4 x5 σ = some q → mWw p l e 14 359 s m args below meth c D mb q none H locs (F0 m 23 ls [])) (hl : lv_has ls 8 [(0, .ref mb), (1, .int x1), (2, .int x2), (3, .int x3), (4, .int x4), (5, .int x5), (6, .int x6)]) (h : f_flush_35 k23 n x1 x2 x3 x4 x5 x6 σ = some q) : mWw p l e 14 359 s m args below meth c D mb q none H locs (F0 m 35 ls []) := by
  have hx := X.1
  have hb := X.2.1
  have hown := X.2.2.2.1
  have hts := X.2.2.2.2.1
  induction n generalizing x1 x2 x3 x4 x5 x6 σ H locs ls with
  | zero => exact absurd (show none = some q from h) (by simp)
  | succ n ih =>
    have h : (if (5:Int32) ≤ x6 then (f_flush_82 k23 (x1) (x2) (x3) (x4) (x5) σ) else ((f_bit ((x1 &&& (σ.2 48))) (x5)).bind (fun v1 => if v1 = (0:Int32) then (f_flush_82 k23 (x1) (x2) (x3) (x4) (x5) σ) else ((f_seenOf (x5) (x6) σ).bind (fun v2 => (wr σ 85 (((5:Int32) * x5) + x6) v2).bind (fun s3 => f_flush_35 k23 n (x1) (x2) (x3) (x4) (x5) ((x6 + (1:Int32))) s3)))))) = some q := h
    refine lv_iload hx hb dX12_flush_35 (lv_at hl 6 rfl) ?_
    refine lv_iconst (v := (5:Int32)) hx hb dX12_flush_37 (by decide) ?_
    refine lv_icmp_ge (tgt := 82) hx hb dX12_flush_38 rfl (fun hc => ?_) (fun hc => ?_)
    · have h := ip hc h
      exact N_flush_82 X hP hF hk23 (lv_sub hl [0, 1, 2, 3, 4, 5] rfl) h
    · have h := ine hc h
      refine lv_aload_n hx hb dX12_flush_41 rfl (lv_at hl 0 rfl) ?_
      refine lv_iload_n hx hb dX12_flush_42 rfl (lv_at hl 1 rfl) ?_
      refine lv_aload_n hx hb dX12_flush_43 rfl (lv_at hl 0 rfl) ?_
      refine mg_has X hP dX12_flush_44 ?_
      refine lv_iand hx hb dX12_flush_47 ?_
      refine lv_iload hx hb dX12_flush_48 (lv_at hl 5 rfl) ?_
      obtain ⟨v1, hv1, h⟩ := ob h
      refine cl_bit X hP hv1 ⟨Nat.le_of_ble_eq_true rfl, Nat.le_of_ble_eq_true rfl⟩ hl.1 (Nat.le_of_ble_eq_true rfl) dX12_flush_50 ?_
      refine lv_if_eq (tgt := 82) hx hb dX12_flush_53 rfl (fun hc => ?_) (fun hc => ?_)
      · have h := ip hc h
        exact N_flush_82 X hP hF hk23 (lv_sub hl [0, 1, 2, 3, 4, 5] rfl) h
      · have h := ine hc h
        refine lv_aload_n hx hb dX12_flush_56 rfl (lv_at hl 0 rfl) ?_
        refine mg_was X hP dX12_flush_57 ?_
        refine lv_iconst (v := (5:Int32)) hx hb dX12_flush_60 (by decide) ?_
        refine lv_iload hx hb dX12_flush_61 (lv_at hl 5 rfl) ?_
        refine lv_imul hx hb dX12_flush_63 ?_
        refine lv_iload hx hb dX12_flush_64 (lv_at hl 6 rfl) ?_
        refine lv_iadd hx hb dX12_flush_66 ?_
        refine lv_aload_n hx hb dX12_flush_67 rfl (lv_at hl 0 rfl) ?_
        refine lv_iload hx hb dX12_flush_68 (lv_at hl 5 rfl) ?_
        refine lv_iload hx hb dX12_flush_70 (lv_at hl 6 rfl) ?_
        obtain ⟨v2, hv2, h⟩ := ob h
        refine cl_seenOf X hP hv2 ⟨Nat.le_of_ble_eq_true rfl, Nat.le_of_ble_eq_true rfl⟩ hl.1 (Nat.le_of_ble_eq_true rfl) dX12_flush_72 ?_
        obtain ⟨s3, hs3, h⟩ := ob h
        refine m_ast X hP hF hs3 dX12_flush_75 (fun H locs hP hF => ?_)
        refine lv_iinc (v := (x6 + (1:Int32))) hx hb dX12_flush_76 hl (k := 6) rfl rfl (Nat.le_of_ble_eq_true rfl) rfl (fun ls (hl : lv_has ls 8 [(6, .int (x6 + (1:Int32))), (0, .ref mb), (1, .int x1), (2, .int x2), (3, .int x3), (4, .int x4), (5, .int x5)]) => ?_)
        refine lv_goto (tgt := 35) hx hb dX12_flush_79 rfl ?_
        exact ih hP hF (lv_sub hl [1, 2, 3, 4, 5, 6, 0] rfl) h
set_option maxRecDepth 20000 in
set_option maxHeartbeats 4000000 in
theorem N_flush_23 {p : Program} {l : Launch} {e : Env} {s : State} {m : MethodId} {args : Array Value} {below : List Frame} {meth : Method} {c : Code} {D : mD} {mb : Nat}  {n : Nat} {x1 : Int32} {x2 : Int32} {x3 : Int32} {x4 : Int32} {x5 : Int32} {σ : mS} {H : Heap} {locs : List Loc} {ls : Array Slot} {q : mS} (X : mX p s m args meth c cX12_flush 8 none D) (hP : mP D mb σ H) (hF : mF mb s.heap H locs)  (hl : lv_has ls 8 [(0, .ref mb), (1, .int x1), (2, .int x2), (3, .int x3), (4, .int x4), (5, .int x5)]) (h : f_flush_23  n x1 x2 x3 x4 x5 σ = some q) : mWw p l e 14 359 s m args below meth c D mb q none H locs (F0 m 23 ls []) := by
  have hx := X.1
  have hb := X.2.1
  have hown := X.2.2.2.1
  have hts := X.2.2.2.2.1
  induction n generalizing x1 x2 x3 x4 x5 σ H locs ls with
  | zero => exact absurd (show none = some q from h) (by simp)
  | succ n ih =>
    have h : (if (σ.2 13) ≤ x5 then (f_flush_91 4000 (x2) (x3) (x4) ((0:Int32)) σ) else (f_flush_35 (f_flush_23 n) 4000 (x1) (x2) (x3) (x4) (x5) ((0:Int32)) σ)) = some q := h
    refine lv_iload hx hb dX12_flush_23 (lv_at hl 5 rfl) ?_
    refine lv_aload_n hx hb dX12_flush_25 rfl (lv_at hl 0 rfl) ?_
    refine mg_made X hP dX12_flush_26 ?_
    refine lv_icmp_ge (tgt := 88) hx hb dX12_flush_29 rfl (fun hc => ?_) (fun hc => ?_)
    · have h := ip hc h
      refine lv_iconst (v := (0:Int32)) hx hb dX12_flush_88 (by decide) ?_
      refine lv_istore hx hb dX12_flush_89 hl (Nat.le_of_ble_eq_true rfl) rfl (fun ls (hl : lv_has ls 8 [(5, .int (0:Int32)), (0, .ref mb), (1, .int x1), (2, .int x2), (3, .int x3), (4, .int x4)]) => ?_)
      exact N_flush_91 X hP hF (lv_sub hl [1, 3, 4, 5, 0] rfl) h
    · have h := ine hc h
      refine lv_iconst (v := (0:Int32)) hx hb dX12_flush_32 (by decide) ?_
      refine lv_istore hx hb dX12_flush_33 hl (Nat.le_of_ble_eq_true rfl) rfl (fun ls (hl : lv_has ls 8 [(6, .int (0:Int32)), (0, .ref mb), (1, .int x1), (2, .int x2), (3, .int x3), (4, .int x4), (5, .int x5)]) => ?_)
      exact N_flush_35 X hP hF ih (lv_sub hl [1, 2, 3, 4, 5, 6, 0] rfl) h
set_option maxRecDepth 20000 in
set_option maxHeartbeats 4000000 in
theorem K_flush (l : Launch) (D : mD) (mb : Nat) (σ : mS)  {q : mS} (h : f_flush  σ = some q) : Met l yX12_flush (Cond.code yX12_flush cX12_flush 8 none :: BG) (rM 14 359) (mPc D mb σ []) (mQw D mb q none) 0 0 (mReg mb) := by
  refine Met.ofW (cc := cX12_flush) (maxL := 8) (ret := none) (by decide) rfl ?_
  intro p e s m args below meth c s₁ B hml hv
  obtain ⟨rfl, hP, hK⟩ := hv
  have X := mX_of B hml rfl hK
  have hx := X.1
  have hb := X.2.1
  have hown := X.2.2.2.1
  have hts := X.2.2.2.2.1
  have hl := lv_entry (.ref mb :: []) (n := 8) (Nat.le_of_ble_eq_true rfl)
  rw [lg_entry_eq]
  generalize (lg_sl (.ref mb :: []) ++ List.replicate (8 - (lg_sl (.ref mb :: [])).length) Slot.unset).toArray = ls at hl ⊢
  have hl : lv_has ls 8 [(0, .ref mb)] := hl
  have hF : mF mb s.heap s.heap [] := mF.rf
  show mWw p l e 14 359 s m (Value.ref mb :: []).toArray below meth c D mb q none s.heap [] (F0 m 0 ls [])
  have h : ((f_ordered  σ).bind (fun v1 => (f_hits  v1).bind (fun v2 => (f_docMask  v2).bind (fun v3 => f_flush_23 4000 (v3) ((0:Int32)) ((0:Int32)) ((0:Int32)) ((0:Int32)) v2)))) = some q := h
  refine lv_aload_n hx hb dX12_flush_0 rfl (lv_at hl 0 rfl) ?_
  obtain ⟨v1, hv1, h⟩ := ob h
  refine cl_ordered X hP hF hv1 ⟨Nat.le_of_ble_eq_true rfl, Nat.le_of_ble_eq_true rfl⟩ hl.1 (Nat.le_of_ble_eq_true rfl) dX12_flush_1 (fun H locs hP hF => ?_)
  refine lv_aload_n hx hb dX12_flush_4 rfl (lv_at hl 0 rfl) ?_
  obtain ⟨v2, hv2, h⟩ := ob h
  refine cl_hits X hP hF hv2 ⟨Nat.le_of_ble_eq_true rfl, Nat.le_of_ble_eq_true rfl⟩ hl.1 (Nat.le_of_ble_eq_true rfl) dX12_flush_5 (fun H locs hP hF => ?_)
  refine lv_aload_n hx hb dX12_flush_8 rfl (lv_at hl 0 rfl) ?_
  obtain ⟨v3, hv3, h⟩ := ob h
  refine cl_docMask X hP hv3 ⟨Nat.le_of_ble_eq_true rfl, Nat.le_of_ble_eq_true rfl⟩ hl.1 (Nat.le_of_ble_eq_true rfl) dX12_flush_9 ?_
  refine lv_istore_n hx hb dX12_flush_12 rfl hl (Nat.le_of_ble_eq_true rfl) rfl (fun ls (hl : lv_has ls 8 [(1, .int v3), (0, .ref mb)]) => ?_)
  refine lv_iconst (v := (0:Int32)) hx hb dX12_flush_13 (by decide) ?_
  refine lv_istore_n hx hb dX12_flush_14 rfl hl (Nat.le_of_ble_eq_true rfl) rfl (fun ls (hl : lv_has ls 8 [(2, .int (0:Int32)), (1, .int v3), (0, .ref mb)]) => ?_)
  refine lv_iconst (v := (0:Int32)) hx hb dX12_flush_15 (by decide) ?_
  refine lv_istore_n hx hb dX12_flush_16 rfl hl (Nat.le_of_ble_eq_true rfl) rfl (fun ls (hl : lv_has ls 8 [(3, .int (0:Int32)), (2, .int (0:Int32)), (1, .int v3), (0, .ref mb)]) => ?_)
  refine lv_iconst (v := (0:Int32)) hx hb dX12_flush_17 (by decide) ?_
  refine lv_istore hx hb dX12_flush_18 hl (Nat.le_of_ble_eq_true rfl) rfl (fun ls (hl : lv_has ls 8 [(4, .int (0:Int32)), (3, .int (0:Int32)), (2, .int (0:Int32)), (1, .int v3), (0, .ref mb)]) => ?_)
  refine lv_iconst (v := (0:Int32)) hx hb dX12_flush_20 (by decide) ?_
  refine lv_istore hx hb dX12_flush_21 hl (Nat.le_of_ble_eq_true rfl) rfl (fun ls (hl : lv_has ls 8 [(5, .int (0:Int32)), (4, .int (0:Int32)), (3, .int (0:Int32)), (2, .int (0:Int32)), (1, .int v3), (0, .ref mb)]) => ?_)
  exact N_flush_23 X hP hF (lv_sub hl [5, 4, 3, 2, 1, 0] rfl) h
theorem cl_flush {p : Program} {l : Launch} {e : Env} {s : State} {m : MethodId} {args : Array Value} {below : List Frame} {meth : Method} {c : Code} {D : mD} {mb : Nat} {H : Heap} {locs : List Loc} {Q : State → Prop} {cc : ByteArray} {pc fR lR nL : Nat} {ls : Array Slot} {rest : List Value} {ret : Option FieldType} {σ : mS} (X : mX p s m args meth c cc nL ret D) (hP : mP D mb σ H) (hF : mF mb s.heap H locs)  {q : mS} (h : f_flush  σ = some q) (hr : 14 + 1 ≤ fR ∧ 8 + (8 + 11) + 359 ≤ lR) (hl : ls.size = nL) (hW : (rest.map fun v => v.category).sum ≤ 8) (hdg : decode cc pc = .ok (.invokevirtual 488, 3)) (kk : ∀ (H1 : Heap) (locs1 : List Loc), mP D mb q H1 → mF mb s.heap H1 locs1 → W p l e (rM fR lR) s m args below meth c H1 locs1 0 0 Q (F0 m (pc + 3) ls rest)) : W p l e (rM fR lR) s m args below meth c H locs 0 0 Q (F0 m pc ls (.ref mb :: rest)) := m_cv (m_run (n := 0) X (K_flush l D mb σ  h) ⟨w_2139, w_2141, w_105, w_2142⟩ (hyX rfl (by decide +kernel)) rfl hr hP hl hW hdg rfl) hF kk
-- needs()Z
def f_needs_24  (y0 : Int32) (σ : mS) : Option (Int32) := rz y0
def f_needs  (σ : mS) : Option (Int32) := (f_docMask  σ).bind (fun v1 => if (v1 &&& ((σ.2 49) ||| ((σ.2 48) ^^^ ((-1):Int32)))) = (0:Int32) then (f_needs_24 ((0:Int32)) σ) else (f_needs_24 ((1:Int32)) σ))
set_option maxRecDepth 20000 in
set_option maxHeartbeats 4000000 in
theorem N_needs_24 {p : Program} {l : Launch} {e : Env} {s : State} {m : MethodId} {args : Array Value} {below : List Frame} {meth : Method} {c : Code} {D : mD} {mb : Nat}   {y0 : Int32} {σ : mS} {ls : Array Slot} {r : Int32} (X : mX p s m args meth c cX12_needs 1 (some .boolean) D) (hP : mP D mb σ s.heap)  (hl : lv_has ls 1 [(0, .ref mb)]) (h : f_needs_24  y0 σ = some r) : mWr p l e 4 88 s m args below meth c (some (.int r)) (F0 m 24 ls [.int y0]) := by
  have hx := X.1
  have hb := X.2.1
  have hown := X.2.2.2.1
  have hts := X.2.2.2.2.1
  have h : (rz y0) = some r := h
  obtain ⟨hz, rfl⟩ := rz_spec h
  exact m_rz X hz dX12_needs_24
set_option maxRecDepth 20000 in
set_option maxHeartbeats 4000000 in
theorem K_needs (l : Launch) (D : mD) (mb : Nat) (σ : mS)  {r : Int32} (h : f_needs  σ = some r) : Met l yX12_needs (Cond.code yX12_needs cX12_needs 1 (some .boolean) :: BG) (rM 4 88) (mPc D mb σ []) (mQr (some (.int r))) 0 0 (fun _ => False) := by
  refine Met.ofW (cc := cX12_needs) (maxL := 1) (ret := (some .boolean)) (by decide) rfl ?_
  intro p e s m args below meth c s₁ B hml hv
  obtain ⟨rfl, hP, hK⟩ := hv
  have X := mX_of B hml rfl hK
  have hx := X.1
  have hb := X.2.1
  have hown := X.2.2.2.1
  have hts := X.2.2.2.2.1
  have hl := lv_entry (.ref mb :: []) (n := 1) (Nat.le_of_ble_eq_true rfl)
  rw [lg_entry_eq]
  generalize (lg_sl (.ref mb :: []) ++ List.replicate (1 - (lg_sl (.ref mb :: [])).length) Slot.unset).toArray = ls at hl ⊢
  have hl : lv_has ls 1 [(0, .ref mb)] := hl
  show mWr p l e 4 88 s m (Value.ref mb :: []).toArray below meth c (some (.int r)) (F0 m 0 ls [])
  have h : ((f_docMask  σ).bind (fun v1 => if (v1 &&& ((σ.2 49) ||| ((σ.2 48) ^^^ ((-1):Int32)))) = (0:Int32) then (f_needs_24 ((0:Int32)) σ) else (f_needs_24 ((1:Int32)) σ))) = some r := h
  refine lv_aload_n hx hb dX12_needs_0 rfl (lv_at hl 0 rfl) ?_
  obtain ⟨v1, hv1, h⟩ := ob h
  refine cl_docMask X hP hv1 ⟨Nat.le_of_ble_eq_true rfl, Nat.le_of_ble_eq_true rfl⟩ hl.1 (Nat.le_of_ble_eq_true rfl) dX12_needs_1 ?_
  refine lv_aload_n hx hb dX12_needs_4 rfl (lv_at hl 0 rfl) ?_
  refine mg_mk X hP dX12_needs_5 ?_
  refine lv_aload_n hx hb dX12_needs_8 rfl (lv_at hl 0 rfl) ?_
  refine mg_has X hP dX12_needs_9 ?_
  refine lv_iconst (v := ((-1):Int32)) hx hb dX12_needs_12 (by decide) ?_
  refine lv_ixor hx hb dX12_needs_13 ?_
  refine lv_ior hx hb dX12_needs_14 ?_
  refine lv_iand hx hb dX12_needs_15 ?_
  refine lv_if_eq (tgt := 23) hx hb dX12_needs_16 rfl (fun hc => ?_) (fun hc => ?_)
  · have h := ip hc h
    refine lv_iconst (v := (0:Int32)) hx hb dX12_needs_23 (by decide) ?_
    exact N_needs_24 X hP (lv_sub hl [0] rfl) h
  · have h := ine hc h
    refine lv_iconst (v := (1:Int32)) hx hb dX12_needs_19 (by decide) ?_
    refine lv_goto (tgt := 24) hx hb dX12_needs_20 rfl ?_
    exact N_needs_24 X hP (lv_sub hl [0] rfl) h
theorem cl_needs {p : Program} {l : Launch} {e : Env} {s : State} {m : MethodId} {args : Array Value} {below : List Frame} {meth : Method} {c : Code} {D : mD} {mb : Nat} {H : Heap} {locs : List Loc} {Q : State → Prop} {cc : ByteArray} {pc fR lR nL : Nat} {ls : Array Slot} {rest : List Value} {ret : Option FieldType} {σ : mS} (X : mX p s m args meth c cc nL ret D) (hP : mP D mb σ H)  {r : Int32} (h : f_needs  σ = some r) (hr : 4 + 1 ≤ fR ∧ 8 + (1 + 11) + 88 ≤ lR) (hl : ls.size = nL) (hW : (rest.map fun v => v.category).sum ≤ 8) (hdg : decode cc pc = .ok (.invokevirtual 484, 3)) (kk : W p l e (rM fR lR) s m args below meth c H locs 0 0 Q (F0 m (pc + 3) ls (.int r :: rest))) : W p l e (rM fR lR) s m args below meth c H locs 0 0 Q (F0 m pc ls (.ref mb :: rest)) := m_cr (m_run (n := 0) X (K_needs l D mb σ  h) ⟨w_2135, w_2137, w_104, w_2138⟩ (hyX rfl (by decide +kernel)) rfl hr hP hl hW hdg rfl) kk
-- mark(I)V
def f_mark (x1 : Int32) (σ : mS) : Option (mS) := (f_docMask  σ).bind (fun v1 => some (sf σ 49 ((σ.2 49) ||| (x1 &&& v1))))
set_option maxRecDepth 20000 in
set_option maxHeartbeats 4000000 in
theorem K_mark (l : Launch) (D : mD) (mb : Nat) (σ : mS) (x1 : Int32) {q : mS} (h : f_mark x1 σ = some q) : Met l yX12_mark (Cond.code yX12_mark cX12_mark 2 none :: BG) (rM 4 88) (mPc D mb σ [.int x1]) (mQw D mb q none) 0 0 (mReg mb) := by
  refine Met.ofW (cc := cX12_mark) (maxL := 2) (ret := none) (by decide) rfl ?_
  intro p e s m args below meth c s₁ B hml hv
  obtain ⟨rfl, hP, hK⟩ := hv
  have X := mX_of B hml rfl hK
  have hx := X.1
  have hb := X.2.1
  have hown := X.2.2.2.1
  have hts := X.2.2.2.2.1
  have hl := lv_entry (.ref mb :: [.int x1]) (n := 2) (Nat.le_of_ble_eq_true rfl)
  rw [lg_entry_eq]
  generalize (lg_sl (.ref mb :: [.int x1]) ++ List.replicate (2 - (lg_sl (.ref mb :: [.int x1])).length) Slot.unset).toArray = ls at hl ⊢
  have hl : lv_has ls 2 [(0, .ref mb), (1, .int x1)] := hl
  have hF : mF mb s.heap s.heap [] := mF.rf
  show mWw p l e 4 88 s m (Value.ref mb :: [.int x1]).toArray below meth c D mb q none s.heap [] (F0 m 0 ls [])
  have h : ((f_docMask  σ).bind (fun v1 => some (sf σ 49 ((σ.2 49) ||| (x1 &&& v1))))) = some q := h
  refine lv_aload_n hx hb dX12_mark_0 rfl (lv_at hl 0 rfl) ?_
  refine lv_dup hx hb dX12_mark_1 rfl ?_
  refine mg_mk X hP dX12_mark_2 ?_
  refine lv_iload_n hx hb dX12_mark_5 rfl (lv_at hl 1 rfl) ?_
  refine lv_aload_n hx hb dX12_mark_6 rfl (lv_at hl 0 rfl) ?_
  obtain ⟨v1, hv1, h⟩ := ob h
  refine cl_docMask X hP hv1 ⟨Nat.le_of_ble_eq_true rfl, Nat.le_of_ble_eq_true rfl⟩ hl.1 (Nat.le_of_ble_eq_true rfl) dX12_mark_7 ?_
  refine lv_iand hx hb dX12_mark_10 ?_
  refine lv_ior hx hb dX12_mark_11 ?_
  refine mp_mk X hP hF dX12_mark_12 (fun H locs hP hF => ?_)
  obtain rfl := sj h
  exact m_wv X hP hF dX12_mark_15
theorem cl_mark {p : Program} {l : Launch} {e : Env} {s : State} {m : MethodId} {args : Array Value} {below : List Frame} {meth : Method} {c : Code} {D : mD} {mb : Nat} {H : Heap} {locs : List Loc} {Q : State → Prop} {cc : ByteArray} {pc fR lR nL : Nat} {ls : Array Slot} {rest : List Value} {ret : Option FieldType} {σ : mS} (X : mX p s m args meth c cc nL ret D) (hP : mP D mb σ H) (hF : mF mb s.heap H locs) {x1 : Int32} {q : mS} (h : f_mark x1 σ = some q) (hr : 4 + 1 ≤ fR ∧ 8 + (2 + 11) + 88 ≤ lR) (hl : ls.size = nL) (hW : (rest.map fun v => v.category).sum ≤ 8) (hdg : decode cc pc = .ok (.invokevirtual 497, 3)) (kk : ∀ (H1 : Heap) (locs1 : List Loc), mP D mb q H1 → mF mb s.heap H1 locs1 → W p l e (rM fR lR) s m args below meth c H1 locs1 0 0 Q (F0 m (pc + 3) ls rest)) : W p l e (rM fR lR) s m args below meth c H locs 0 0 Q (F0 m pc ls (.int x1 :: .ref mb :: rest)) := m_cv (m_run (n := 1) X (K_mark l D mb σ x1 h) ⟨w_1898, w_1900, w_68, w_1901⟩ (hyX rfl (by decide +kernel)) rfl hr hP hl hW hdg rfl) hF kk
-- markTest(II)V
def f_markTest_180   (σ : mS) : Option (mS) := some σ
def f_markTest_171 (k84 : Int32 → Int32 → Int32 → mS → Option (mS)) (x4 : Int32) (x5 : Int32) (x6 : Int32) (y1 : Int32) (σ : mS) : Option (mS) := (f_mark (y1) σ).bind (fun v1 => k84 (x4) (x5) ((x6 + (1:Int32))) v1)
def f_markTest_170 (k84 : Int32 → Int32 → Int32 → mS → Option (mS)) (x4 : Int32) (x5 : Int32) (x6 : Int32) (σ : mS) : Option (mS) := f_markTest_171 k84 (x4) (x5) (x6) ((0:Int32)) σ
def f_markTest_163 (k84 : Int32 → Int32 → Int32 → mS → Option (mS)) (x4 : Int32) (x5 : Int32) (x6 : Int32) (σ : mS) : Option (mS) := f_markTest_171 k84 (x4) (x5) (x6) (((1:Int32) <<< (x6 &&& 31))) σ
def f_markTest_134 (k84 : Int32 → Int32 → Int32 → mS → Option (mS)) (x4 : Int32) (x5 : Int32) (x6 : Int32) (x7 : Int32) (y0 : Int32) (σ : mS) : Option (mS) := if x5 ≤ ((-2):Int32) then (f_markTest_170 k84 (x4) (x5) (x6) σ) else (if x7 = x5 then (f_markTest_163 k84 (x4) (x5) (x6) σ) else (if x6 = x5 then (f_markTest_163 k84 (x4) (x5) (x6) σ) else (if y0 = (0:Int32) then (f_markTest_170 k84 (x4) (x5) (x6) σ) else (f_markTest_163 k84 (x4) (x5) (x6) σ))))
def f_markTest_133 (k84 : Int32 → Int32 → Int32 → mS → Option (mS)) (x4 : Int32) (x5 : Int32) (x6 : Int32) (x7 : Int32) (σ : mS) : Option (mS) := f_markTest_134 k84 (x4) (x5) (x6) (x7) ((0:Int32)) σ
def f_markTest_84  : Nat → Int32 → Int32 → Int32 → mS → Option (mS)
  | 0, _, _, _, _ => none
  | n + 1, x4, x5, x6, σ => if (σ.2 13) ≤ x6 then (f_markTest_180 σ) else (if x4 = (0:Int32) then (f_markTest_180 σ) else ((f_treeOf (x6) σ).bind (fun v1 => if v1 < (0:Int32) then (f_markTest_133 (f_markTest_84 n) (x4) (x5) (x6) (v1) σ) else (if x5 ≤ ((-2):Int32) then (f_markTest_133 (f_markTest_84 n) (x4) (x5) (x6) (v1) σ) else ((f_treeOf (v1) σ).bind (fun v2 => if v2 = x5 then (f_markTest_134 (f_markTest_84 n) (x4) (x5) (x6) (v1) ((1:Int32)) σ) else (f_markTest_133 (f_markTest_84 n) (x4) (x5) (x6) (v1) σ)))))))
def f_markTest_71  (x1 : Int32) (x4 : Int32) (y1 : Int32) (σ : mS) : Option (mS) := (f_mark (y1) σ).bind (fun v1 => (f_treeOf (x1) v1).bind (fun v2 => f_markTest_84 4000 (x4) (v2) ((0:Int32)) v1))
def f_markTest_8  : Nat → Int32 → Int32 → Int32 → Int32 → Int32 → mS → Option (mS)
  | 0, _, _, _, _, _, _ => none
  | n + 1, x1, x2, x3, x4, x5, σ => if (σ.2 36) ≤ x5 then (if x3 = (0:Int32) then (f_markTest_71 (x1) (x4) ((0:Int32)) σ) else (f_markTest_71 (x1) (x4) (((1:Int32) <<< (x1 &&& 31))) σ)) else ((rd σ 33 x5).bind (fun v1 => (rd σ 23 v1).bind (fun v2 => (rd σ 33 x5).bind (fun v3 => (rd σ 24 v3).bind (fun v4 => f_markTest_8 n (x1) (x2) ((x3 ||| (v2 &&& x2))) ((x4 ||| (v4 &&& x2))) ((x5 + (1:Int32))) σ)))))
def f_markTest (x1 : Int32) (x2 : Int32) (σ : mS) : Option (mS) := f_markTest_8 4000 (x1) (x2) ((0:Int32)) ((0:Int32)) ((0:Int32)) σ
set_option maxRecDepth 20000 in
set_option maxHeartbeats 4000000 in
theorem N_markTest_180 {p : Program} {l : Launch} {e : Env} {s : State} {m : MethodId} {args : Array Value} {below : List Frame} {meth : Method} {c : Code} {D : mD} {mb : Nat}    {σ : mS} {H : Heap} {locs : List Loc} {ls : Array Slot} {q : mS} (X : mX p s m args meth c cX12_markTest 9 none D) (hP : mP D mb σ H) (hF : mF mb s.heap H locs)  (hl : lv_has ls 9 [(0, .ref mb)]) (h : f_markTest_180   σ = some q) : mWw p l e 5 109 s m args below meth c D mb q none H locs (F0 m 180 ls []) := by
  have hx := X.1
  have hb := X.2.1
  have hown := X.2.2.2.1
  have hts := X.2.2.2.2.1
  have h : (some σ) = some q := h
  obtain rfl := sj h
  exact m_wv X hP hF dX12_markTest_180
set_option maxRecDepth 20000 in
set_option maxHeartbeats 4000000 in
theorem N_markTest_171 {p : Program} {l : Launch} {e : Env} {s : State} {m : MethodId} {args : Array Value} {below : List Frame} {meth : Method} {c : Code} {D : mD} {mb : Nat} {k84 : Int32 → Int32 → Int32 → mS → Option (mS)}  {x4 : Int32} {x5 : Int32} {x6 : Int32} {y1 : Int32} {σ : mS} {H : Heap} {locs : List Loc} {ls : Array Slot} {q : mS} (X : mX p s m args meth c cX12_markTest 9 none D) (hP : mP D mb σ H) (hF : mF mb s.heap H locs) (hk84 : ∀ {x4 : Int32} {x5 : Int32} {x6 : Int32} {σ : mS} {H : Heap} {locs : List Loc} {ls : Array Slot}, mP D mb σ H → mF mb s.heap H locs → lv_has ls 9 [(0, .ref mb), (4, .int x4), (5, .int x5), (6, .int x6)] → k84 x4 x5 x6 σ = some q → mWw p l e 5 109 s m args below meth c D mb q none H locs (F0 m 84 ls [])) (hl : lv_has ls 9 [(0, .ref mb), (4, .int x4), (5, .int x5), (6, .int x6)]) (h : f_markTest_171 k84 x4 x5 x6 y1 σ = some q) : mWw p l e 5 109 s m args below meth c D mb q none H locs (F0 m 171 ls [.int y1, .ref mb]) := by
  have hx := X.1
  have hb := X.2.1
  have hown := X.2.2.2.1
  have hts := X.2.2.2.2.1
  have h : ((f_mark (y1) σ).bind (fun v1 => k84 (x4) (x5) ((x6 + (1:Int32))) v1)) = some q := h
  obtain ⟨v1, hv1, h⟩ := ob h
  refine cl_mark X hP hF hv1 ⟨Nat.le_of_ble_eq_true rfl, Nat.le_of_ble_eq_true rfl⟩ hl.1 (Nat.le_of_ble_eq_true rfl) dX12_markTest_171 (fun H locs hP hF => ?_)
  refine lv_iinc (v := (x6 + (1:Int32))) hx hb dX12_markTest_174 hl (k := 3) rfl rfl (Nat.le_of_ble_eq_true rfl) rfl (fun ls (hl : lv_has ls 9 [(6, .int (x6 + (1:Int32))), (0, .ref mb), (4, .int x4), (5, .int x5)]) => ?_)
  refine lv_goto (tgt := 84) hx hb dX12_markTest_177 rfl ?_
  exact hk84 hP hF (lv_sub hl [1, 2, 3, 0] rfl) h
set_option maxRecDepth 20000 in
set_option maxHeartbeats 4000000 in
theorem N_markTest_170 {p : Program} {l : Launch} {e : Env} {s : State} {m : MethodId} {args : Array Value} {below : List Frame} {meth : Method} {c : Code} {D : mD} {mb : Nat} {k84 : Int32 → Int32 → Int32 → mS → Option (mS)}  {x4 : Int32} {x5 : Int32} {x6 : Int32} {σ : mS} {H : Heap} {locs : List Loc} {ls : Array Slot} {q : mS} (X : mX p s m args meth c cX12_markTest 9 none D) (hP : mP D mb σ H) (hF : mF mb s.heap H locs) (hk84 : ∀ {x4 : Int32} {x5 : Int32} {x6 : Int32} {σ : mS} {H : Heap} {locs : List Loc} {ls : Array Slot}, mP D mb σ H → mF mb s.heap H locs → lv_has ls 9 [(0, .ref mb), (4, .int x4), (5, .int x5), (6, .int x6)] → k84 x4 x5 x6 σ = some q → mWw p l e 5 109 s m args below meth c D mb q none H locs (F0 m 84 ls [])) (hl : lv_has ls 9 [(0, .ref mb), (4, .int x4), (5, .int x5), (6, .int x6)]) (h : f_markTest_170 k84 x4 x5 x6 σ = some q) : mWw p l e 5 109 s m args below meth c D mb q none H locs (F0 m 170 ls [.ref mb]) := by
  have hx := X.1
  have hb := X.2.1
  have hown := X.2.2.2.1
  have hts := X.2.2.2.2.1
  have h : (f_markTest_171 k84 (x4) (x5) (x6) ((0:Int32)) σ) = some q := h
  refine lv_iconst (v := (0:Int32)) hx hb dX12_markTest_170 (by decide) ?_
  exact N_markTest_171 X hP hF hk84 (lv_sub hl [0, 1, 2, 3] rfl) h
set_option maxRecDepth 20000 in
set_option maxHeartbeats 4000000 in
theorem N_markTest_163 {p : Program} {l : Launch} {e : Env} {s : State} {m : MethodId} {args : Array Value} {below : List Frame} {meth : Method} {c : Code} {D : mD} {mb : Nat} {k84 : Int32 → Int32 → Int32 → mS → Option (mS)}  {x4 : Int32} {x5 : Int32} {x6 : Int32} {σ : mS} {H : Heap} {locs : List Loc} {ls : Array Slot} {q : mS} (X : mX p s m args meth c cX12_markTest 9 none D) (hP : mP D mb σ H) (hF : mF mb s.heap H locs) (hk84 : ∀ {x4 : Int32} {x5 : Int32} {x6 : Int32} {σ : mS} {H : Heap} {locs : List Loc} {ls : Array Slot}, mP D mb σ H → mF mb s.heap H locs → lv_has ls 9 [(0, .ref mb), (4, .int x4), (5, .int x5), (6, .int x6)] → k84 x4 x5 x6 σ = some q → mWw p l e 5 109 s m args below meth c D mb q none H locs (F0 m 84 ls [])) (hl : lv_has ls 9 [(0, .ref mb), (4, .int x4), (5, .int x5), (6, .int x6)]) (h : f_markTest_163 k84 x4 x5 x6 σ = some q) : mWw p l e 5 109 s m args below meth c D mb q none H locs (F0 m 163 ls [.ref mb]) := by
  have hx := X.1
  have hb := X.2.1
  have hown := X.2.2.2.1
  have hts := X.2.2.2.2.1
  have h : (f_markTest_171 k84 (x4) (x5) (x6) (((1:Int32) <<< (x6 &&& 31))) σ) = some q := h
  refine lv_iconst (v := (1:Int32)) hx hb dX12_markTest_163 (by decide) ?_
  refine lv_iload hx hb dX12_markTest_164 (lv_at hl 3 rfl) ?_
  refine lv_ishl hx hb dX12_markTest_166 ?_
  refine lv_goto (tgt := 171) hx hb dX12_markTest_167 rfl ?_
  exact N_markTest_171 X hP hF hk84 (lv_sub hl [0, 1, 2, 3] rfl) h
set_option maxRecDepth 20000 in
set_option maxHeartbeats 4000000 in
theorem N_markTest_134 {p : Program} {l : Launch} {e : Env} {s : State} {m : MethodId} {args : Array Value} {below : List Frame} {meth : Method} {c : Code} {D : mD} {mb : Nat} {k84 : Int32 → Int32 → Int32 → mS → Option (mS)}  {x4 : Int32} {x5 : Int32} {x6 : Int32} {x7 : Int32} {y0 : Int32} {σ : mS} {H : Heap} {locs : List Loc} {ls : Array Slot} {q : mS} (X : mX p s m args meth c cX12_markTest 9 none D) (hP : mP D mb σ H) (hF : mF mb s.heap H locs) (hk84 : ∀ {x4 : Int32} {x5 : Int32} {x6 : Int32} {σ : mS} {H : Heap} {locs : List Loc} {ls : Array Slot}, mP D mb σ H → mF mb s.heap H locs → lv_has ls 9 [(0, .ref mb), (4, .int x4), (5, .int x5), (6, .int x6)] → k84 x4 x5 x6 σ = some q → mWw p l e 5 109 s m args below meth c D mb q none H locs (F0 m 84 ls [])) (hl : lv_has ls 9 [(0, .ref mb), (4, .int x4), (5, .int x5), (6, .int x6), (7, .int x7)]) (h : f_markTest_134 k84 x4 x5 x6 x7 y0 σ = some q) : mWw p l e 5 109 s m args below meth c D mb q none H locs (F0 m 134 ls [.int y0]) := by
  have hx := X.1
  have hb := X.2.1
  have hown := X.2.2.2.1
  have hts := X.2.2.2.2.1
  have h : (if x5 ≤ ((-2):Int32) then (f_markTest_170 k84 (x4) (x5) (x6) σ) else (if x7 = x5 then (f_markTest_163 k84 (x4) (x5) (x6) σ) else (if x6 = x5 then (f_markTest_163 k84 (x4) (x5) (x6) σ) else (if y0 = (0:Int32) then (f_markTest_170 k84 (x4) (x5) (x6) σ) else (f_markTest_163 k84 (x4) (x5) (x6) σ))))) = some q := h
  refine lv_istore hx hb dX12_markTest_134 hl (Nat.le_of_ble_eq_true rfl) rfl (fun ls (hl : lv_has ls 9 [(8, .int y0), (0, .ref mb), (4, .int x4), (5, .int x5), (6, .int x6), (7, .int x7)]) => ?_)
  refine lv_aload_n hx hb dX12_markTest_136 rfl (lv_at hl 1 rfl) ?_
  refine lv_iload hx hb dX12_markTest_137 (lv_at hl 3 rfl) ?_
  refine lv_bipush (v := ((-2):Int32)) hx hb dX12_markTest_139 (by decide) ?_
  refine lv_icmp_le (tgt := 170) hx hb dX12_markTest_141 rfl (fun hc => ?_) (fun hc => ?_)
  · have h := ip hc h
    exact N_markTest_170 X hP hF hk84 (lv_sub hl [1, 2, 3, 4] rfl) h
  · have h := ine hc h
    refine lv_iload hx hb dX12_markTest_144 (lv_at hl 5 rfl) ?_
    refine lv_iload hx hb dX12_markTest_146 (lv_at hl 3 rfl) ?_
    refine lv_icmp_eq (tgt := 163) hx hb dX12_markTest_148 rfl (fun hc => ?_) (fun hc => ?_)
    · have h := ip hc h
      exact N_markTest_163 X hP hF hk84 (lv_sub hl [1, 2, 3, 4] rfl) h
    · have h := ine hc h
      refine lv_iload hx hb dX12_markTest_151 (lv_at hl 4 rfl) ?_
      refine lv_iload hx hb dX12_markTest_153 (lv_at hl 3 rfl) ?_
      refine lv_icmp_eq (tgt := 163) hx hb dX12_markTest_155 rfl (fun hc => ?_) (fun hc => ?_)
      · have h := ip hc h
        exact N_markTest_163 X hP hF hk84 (lv_sub hl [1, 2, 3, 4] rfl) h
      · have h := ine hc h
        refine lv_iload hx hb dX12_markTest_158 (lv_at hl 0 rfl) ?_
        refine lv_if_eq (tgt := 170) hx hb dX12_markTest_160 rfl (fun hc => ?_) (fun hc => ?_)
        · have h := ip hc h
          exact N_markTest_170 X hP hF hk84 (lv_sub hl [1, 2, 3, 4] rfl) h
        · have h := ine hc h
          exact N_markTest_163 X hP hF hk84 (lv_sub hl [1, 2, 3, 4] rfl) h
set_option maxRecDepth 20000 in
set_option maxHeartbeats 4000000 in
theorem N_markTest_133 {p : Program} {l : Launch} {e : Env} {s : State} {m : MethodId} {args : Array Value} {below : List Frame} {meth : Method} {c : Code} {D : mD} {mb : Nat} {k84 : Int32 → Int32 → Int32 → mS → Option (mS)}  {x4 : Int32} {x5 : Int32} {x6 : Int32} {x7 : Int32} {σ : mS} {H : Heap} {locs : List Loc} {ls : Array Slot} {q : mS} (X : mX p s m args meth c cX12_markTest 9 none D) (hP : mP D mb σ H) (hF : mF mb s.heap H locs) (hk84 : ∀ {x4 : Int32} {x5 : Int32} {x6 : Int32} {σ : mS} {H : Heap} {locs : List Loc} {ls : Array Slot}, mP D mb σ H → mF mb s.heap H locs → lv_has ls 9 [(0, .ref mb), (4, .int x4), (5, .int x5), (6, .int x6)] → k84 x4 x5 x6 σ = some q → mWw p l e 5 109 s m args below meth c D mb q none H locs (F0 m 84 ls [])) (hl : lv_has ls 9 [(0, .ref mb), (4, .int x4), (5, .int x5), (6, .int x6), (7, .int x7)]) (h : f_markTest_133 k84 x4 x5 x6 x7 σ = some q) : mWw p l e 5 109 s m args below meth c D mb q none H locs (F0 m 133 ls []) := by
  have hx := X.1
  have hb := X.2.1
  have hown := X.2.2.2.1
  have hts := X.2.2.2.2.1
  have h : (f_markTest_134 k84 (x4) (x5) (x6) (x7) ((0:Int32)) σ) = some q := h
  refine lv_iconst (v := (0:Int32)) hx hb dX12_markTest_133 (by decide) ?_
  exact N_markTest_134 X hP hF hk84 (lv_sub hl [0, 1, 2, 3, 4] rfl) h
set_option maxRecDepth 20000 in
set_option maxHeartbeats 4000000 in
theorem N_markTest_84 {p : Program} {l : Launch} {e : Env} {s : State} {m : MethodId} {args : Array Value} {below : List Frame} {meth : Method} {c : Code} {D : mD} {mb : Nat}  {n : Nat} {x4 : Int32} {x5 : Int32} {x6 : Int32} {σ : mS} {H : Heap} {locs : List Loc} {ls : Array Slot} {q : mS} (X : mX p s m args meth c cX12_markTest 9 none D) (hP : mP D mb σ H) (hF : mF mb s.heap H locs)  (hl : lv_has ls 9 [(0, .ref mb), (4, .int x4), (5, .int x5), (6, .int x6)]) (h : f_markTest_84  n x4 x5 x6 σ = some q) : mWw p l e 5 109 s m args below meth c D mb q none H locs (F0 m 84 ls []) := by
  have hx := X.1
  have hb := X.2.1
  have hown := X.2.2.2.1
  have hts := X.2.2.2.2.1
  induction n generalizing x4 x5 x6 σ H locs ls with
  | zero => exact absurd (show none = some q from h) (by simp)
  | succ n ih =>
    have h : (if (σ.2 13) ≤ x6 then (f_markTest_180 σ) else (if x4 = (0:Int32) then (f_markTest_180 σ) else ((f_treeOf (x6) σ).bind (fun v1 => if v1 < (0:Int32) then (f_markTest_133 (f_markTest_84 n) (x4) (x5) (x6) (v1) σ) else (if x5 ≤ ((-2):Int32) then (f_markTest_133 (f_markTest_84 n) (x4) (x5) (x6) (v1) σ) else ((f_treeOf (v1) σ).bind (fun v2 => if v2 = x5 then (f_markTest_134 (f_markTest_84 n) (x4) (x5) (x6) (v1) ((1:Int32)) σ) else (f_markTest_133 (f_markTest_84 n) (x4) (x5) (x6) (v1) σ)))))))) = some q := h
    refine lv_iload hx hb dX12_markTest_84 (lv_at hl 3 rfl) ?_
    refine lv_aload_n hx hb dX12_markTest_86 rfl (lv_at hl 0 rfl) ?_
    refine mg_made X hP dX12_markTest_87 ?_
    refine lv_icmp_ge (tgt := 180) hx hb dX12_markTest_90 rfl (fun hc => ?_) (fun hc => ?_)
    · have h := ip hc h
      exact N_markTest_180 X hP hF (lv_sub hl [0] rfl) h
    · have h := ine hc h
      refine lv_iload hx hb dX12_markTest_93 (lv_at hl 1 rfl) ?_
      refine lv_if_eq (tgt := 180) hx hb dX12_markTest_95 rfl (fun hc => ?_) (fun hc => ?_)
      · have h := ip hc h
        exact N_markTest_180 X hP hF (lv_sub hl [0] rfl) h
      · have h := ine hc h
        refine lv_aload_n hx hb dX12_markTest_98 rfl (lv_at hl 0 rfl) ?_
        refine lv_iload hx hb dX12_markTest_99 (lv_at hl 3 rfl) ?_
        obtain ⟨v1, hv1, h⟩ := ob h
        refine cl_treeOf X hP hv1 ⟨Nat.le_of_ble_eq_true rfl, Nat.le_of_ble_eq_true rfl⟩ hl.1 (Nat.le_of_ble_eq_true rfl) dX12_markTest_101 ?_
        refine lv_istore hx hb dX12_markTest_104 hl (Nat.le_of_ble_eq_true rfl) rfl (fun ls (hl : lv_has ls 9 [(7, .int v1), (0, .ref mb), (4, .int x4), (5, .int x5), (6, .int x6)]) => ?_)
        refine lv_iload hx hb dX12_markTest_106 (lv_at hl 0 rfl) ?_
        refine lv_if_lt (tgt := 133) hx hb dX12_markTest_108 rfl (fun hc => ?_) (fun hc => ?_)
        · have h := ip hc h
          exact N_markTest_133 X hP hF ih (lv_sub hl [1, 2, 3, 4, 0] rfl) h
        · have h := ine hc h
          refine lv_iload hx hb dX12_markTest_111 (lv_at hl 3 rfl) ?_
          refine lv_bipush (v := ((-2):Int32)) hx hb dX12_markTest_113 (by decide) ?_
          refine lv_icmp_le (tgt := 133) hx hb dX12_markTest_115 rfl (fun hc => ?_) (fun hc => ?_)
          · have h := ip hc h
            exact N_markTest_133 X hP hF ih (lv_sub hl [1, 2, 3, 4, 0] rfl) h
          · have h := ine hc h
            refine lv_aload_n hx hb dX12_markTest_118 rfl (lv_at hl 1 rfl) ?_
            refine lv_iload hx hb dX12_markTest_119 (lv_at hl 0 rfl) ?_
            obtain ⟨v2, hv2, h⟩ := ob h
            refine cl_treeOf X hP hv2 ⟨Nat.le_of_ble_eq_true rfl, Nat.le_of_ble_eq_true rfl⟩ hl.1 (Nat.le_of_ble_eq_true rfl) dX12_markTest_121 ?_
            refine lv_iload hx hb dX12_markTest_124 (lv_at hl 3 rfl) ?_
            refine lv_icmp_ne (tgt := 133) hx hb dX12_markTest_126 rfl (fun hc => ?_) (fun hc => ?_)
            · have h := ine hc h
              exact N_markTest_133 X hP hF ih (lv_sub hl [1, 2, 3, 4, 0] rfl) h
            · have h := ip hc h
              refine lv_iconst (v := (1:Int32)) hx hb dX12_markTest_129 (by decide) ?_
              refine lv_goto (tgt := 134) hx hb dX12_markTest_130 rfl ?_
              exact N_markTest_134 X hP hF ih (lv_sub hl [1, 2, 3, 4, 0] rfl) h
set_option maxRecDepth 20000 in
set_option maxHeartbeats 4000000 in
theorem N_markTest_71 {p : Program} {l : Launch} {e : Env} {s : State} {m : MethodId} {args : Array Value} {below : List Frame} {meth : Method} {c : Code} {D : mD} {mb : Nat}   {x1 : Int32} {x4 : Int32} {y1 : Int32} {σ : mS} {H : Heap} {locs : List Loc} {ls : Array Slot} {q : mS} (X : mX p s m args meth c cX12_markTest 9 none D) (hP : mP D mb σ H) (hF : mF mb s.heap H locs)  (hl : lv_has ls 9 [(0, .ref mb), (1, .int x1), (4, .int x4)]) (h : f_markTest_71  x1 x4 y1 σ = some q) : mWw p l e 5 109 s m args below meth c D mb q none H locs (F0 m 71 ls [.int y1, .ref mb]) := by
  have hx := X.1
  have hb := X.2.1
  have hown := X.2.2.2.1
  have hts := X.2.2.2.2.1
  have h : ((f_mark (y1) σ).bind (fun v1 => (f_treeOf (x1) v1).bind (fun v2 => f_markTest_84 4000 (x4) (v2) ((0:Int32)) v1))) = some q := h
  obtain ⟨v1, hv1, h⟩ := ob h
  refine cl_mark X hP hF hv1 ⟨Nat.le_of_ble_eq_true rfl, Nat.le_of_ble_eq_true rfl⟩ hl.1 (Nat.le_of_ble_eq_true rfl) dX12_markTest_71 (fun H locs hP hF => ?_)
  refine lv_aload_n hx hb dX12_markTest_74 rfl (lv_at hl 0 rfl) ?_
  refine lv_iload_n hx hb dX12_markTest_75 rfl (lv_at hl 1 rfl) ?_
  obtain ⟨v2, hv2, h⟩ := ob h
  refine cl_treeOf X hP hv2 ⟨Nat.le_of_ble_eq_true rfl, Nat.le_of_ble_eq_true rfl⟩ hl.1 (Nat.le_of_ble_eq_true rfl) dX12_markTest_76 ?_
  refine lv_istore hx hb dX12_markTest_79 hl (Nat.le_of_ble_eq_true rfl) rfl (fun ls (hl : lv_has ls 9 [(5, .int v2), (0, .ref mb), (1, .int x1), (4, .int x4)]) => ?_)
  refine lv_iconst (v := (0:Int32)) hx hb dX12_markTest_81 (by decide) ?_
  refine lv_istore hx hb dX12_markTest_82 hl (Nat.le_of_ble_eq_true rfl) rfl (fun ls (hl : lv_has ls 9 [(6, .int (0:Int32)), (5, .int v2), (0, .ref mb), (1, .int x1), (4, .int x4)]) => ?_)
  exact N_markTest_84 X hP hF (lv_sub hl [2, 4, 1, 0] rfl) h
set_option maxRecDepth 20000 in
set_option maxHeartbeats 4000000 in
theorem N_markTest_8 {p : Program} {l : Launch} {e : Env} {s : State} {m : MethodId} {args : Array Value} {below : List Frame} {meth : Method} {c : Code} {D : mD} {mb : Nat}  {n : Nat} {x1 : Int32} {x2 : Int32} {x3 : Int32} {x4 : Int32} {x5 : Int32} {σ : mS} {H : Heap} {locs : List Loc} {ls : Array Slot} {q : mS} (X : mX p s m args meth c cX12_markTest 9 none D) (hP : mP D mb σ H) (hF : mF mb s.heap H locs)  (hl : lv_has ls 9 [(0, .ref mb), (1, .int x1), (2, .int x2), (3, .int x3), (4, .int x4), (5, .int x5)]) (h : f_markTest_8  n x1 x2 x3 x4 x5 σ = some q) : mWw p l e 5 109 s m args below meth c D mb q none H locs (F0 m 8 ls []) := by
  have hx := X.1
  have hb := X.2.1
  have hown := X.2.2.2.1
  have hts := X.2.2.2.2.1
  induction n generalizing x1 x2 x3 x4 x5 σ H locs ls with
  | zero => exact absurd (show none = some q from h) (by simp)
  | succ n ih =>
    have h : (if (σ.2 36) ≤ x5 then (if x3 = (0:Int32) then (f_markTest_71 (x1) (x4) ((0:Int32)) σ) else (f_markTest_71 (x1) (x4) (((1:Int32) <<< (x1 &&& 31))) σ)) else ((rd σ 33 x5).bind (fun v1 => (rd σ 23 v1).bind (fun v2 => (rd σ 33 x5).bind (fun v3 => (rd σ 24 v3).bind (fun v4 => f_markTest_8 n (x1) (x2) ((x3 ||| (v2 &&& x2))) ((x4 ||| (v4 &&& x2))) ((x5 + (1:Int32))) σ)))))) = some q := h
    refine lv_iload hx hb dX12_markTest_8 (lv_at hl 5 rfl) ?_
    refine lv_aload_n hx hb dX12_markTest_10 rfl (lv_at hl 0 rfl) ?_
    refine mg_rules X hP dX12_markTest_11 ?_
    refine lv_icmp_ge (tgt := 59) hx hb dX12_markTest_14 rfl (fun hc => ?_) (fun hc => ?_)
    · have h := ip hc h
      refine lv_aload_n hx hb dX12_markTest_59 rfl (lv_at hl 0 rfl) ?_
      refine lv_iload_n hx hb dX12_markTest_60 rfl (lv_at hl 3 rfl) ?_
      refine lv_if_eq (tgt := 70) hx hb dX12_markTest_61 rfl (fun hc => ?_) (fun hc => ?_)
      · have h := ip hc h
        refine lv_iconst (v := (0:Int32)) hx hb dX12_markTest_70 (by decide) ?_
        exact N_markTest_71 X hP hF (lv_sub hl [0, 1, 4] rfl) h
      · have h := ine hc h
        refine lv_iconst (v := (1:Int32)) hx hb dX12_markTest_64 (by decide) ?_
        refine lv_iload_n hx hb dX12_markTest_65 rfl (lv_at hl 1 rfl) ?_
        refine lv_ishl hx hb dX12_markTest_66 ?_
        refine lv_goto (tgt := 71) hx hb dX12_markTest_67 rfl ?_
        exact N_markTest_71 X hP hF (lv_sub hl [0, 1, 4] rfl) h
    · have h := ine hc h
      refine lv_iload_n hx hb dX12_markTest_17 rfl (lv_at hl 3 rfl) ?_
      refine lv_aload_n hx hb dX12_markTest_18 rfl (lv_at hl 0 rfl) ?_
      refine mg_inLast X hP dX12_markTest_19 ?_
      refine lv_aload_n hx hb dX12_markTest_22 rfl (lv_at hl 0 rfl) ?_
      refine mg_rsel X hP dX12_markTest_23 ?_
      refine lv_iload hx hb dX12_markTest_26 (lv_at hl 5 rfl) ?_
      obtain ⟨v1, hv1, h⟩ := ob h
      refine m_ald X hP hv1 dX12_markTest_28 ?_
      obtain ⟨v2, hv2, h⟩ := ob h
      refine m_ald X hP hv2 dX12_markTest_29 ?_
      refine lv_iload_n hx hb dX12_markTest_30 rfl (lv_at hl 2 rfl) ?_
      refine lv_iand hx hb dX12_markTest_31 ?_
      refine lv_ior hx hb dX12_markTest_32 ?_
      refine lv_istore_n hx hb dX12_markTest_33 rfl hl (Nat.le_of_ble_eq_true rfl) rfl (fun ls (hl : lv_has ls 9 [(3, .int (x3 ||| (v2 &&& x2))), (0, .ref mb), (1, .int x1), (2, .int x2), (4, .int x4), (5, .int x5)]) => ?_)
      refine lv_iload hx hb dX12_markTest_34 (lv_at hl 4 rfl) ?_
      refine lv_aload_n hx hb dX12_markTest_36 rfl (lv_at hl 1 rfl) ?_
      refine mg_wide X hP dX12_markTest_37 ?_
      refine lv_aload_n hx hb dX12_markTest_40 rfl (lv_at hl 1 rfl) ?_
      refine mg_rsel X hP dX12_markTest_41 ?_
      refine lv_iload hx hb dX12_markTest_44 (lv_at hl 5 rfl) ?_
      obtain ⟨v3, hv3, h⟩ := ob h
      refine m_ald X hP hv3 dX12_markTest_46 ?_
      obtain ⟨v4, hv4, h⟩ := ob h
      refine m_ald X hP hv4 dX12_markTest_47 ?_
      refine lv_iload_n hx hb dX12_markTest_48 rfl (lv_at hl 3 rfl) ?_
      refine lv_iand hx hb dX12_markTest_49 ?_
      refine lv_ior hx hb dX12_markTest_50 ?_
      refine lv_istore hx hb dX12_markTest_51 hl (Nat.le_of_ble_eq_true rfl) rfl (fun ls (hl : lv_has ls 9 [(4, .int (x4 ||| (v4 &&& x2))), (3, .int (x3 ||| (v2 &&& x2))), (0, .ref mb), (1, .int x1), (2, .int x2), (5, .int x5)]) => ?_)
      refine lv_iinc (v := (x5 + (1:Int32))) hx hb dX12_markTest_53 hl (k := 5) rfl rfl (Nat.le_of_ble_eq_true rfl) rfl (fun ls (hl : lv_has ls 9 [(5, .int (x5 + (1:Int32))), (4, .int (x4 ||| (v4 &&& x2))), (3, .int (x3 ||| (v2 &&& x2))), (0, .ref mb), (1, .int x1), (2, .int x2)]) => ?_)
      refine lv_goto (tgt := 8) hx hb dX12_markTest_56 rfl ?_
      exact ih hP hF (lv_sub hl [3, 4, 5, 2, 1, 0] rfl) h
set_option maxRecDepth 20000 in
set_option maxHeartbeats 4000000 in
theorem K_markTest (l : Launch) (D : mD) (mb : Nat) (σ : mS) (x1 : Int32) (x2 : Int32) {q : mS} (h : f_markTest x1 x2 σ = some q) : Met l yX12_markTest (Cond.code yX12_markTest cX12_markTest 9 none :: BG) (rM 5 109) (mPc D mb σ [.int x1, .int x2]) (mQw D mb q none) 0 0 (mReg mb) := by
  refine Met.ofW (cc := cX12_markTest) (maxL := 9) (ret := none) (by decide) rfl ?_
  intro p e s m args below meth c s₁ B hml hv
  obtain ⟨rfl, hP, hK⟩ := hv
  have X := mX_of B hml rfl hK
  have hx := X.1
  have hb := X.2.1
  have hown := X.2.2.2.1
  have hts := X.2.2.2.2.1
  have hl := lv_entry (.ref mb :: [.int x1, .int x2]) (n := 9) (Nat.le_of_ble_eq_true rfl)
  rw [lg_entry_eq]
  generalize (lg_sl (.ref mb :: [.int x1, .int x2]) ++ List.replicate (9 - (lg_sl (.ref mb :: [.int x1, .int x2])).length) Slot.unset).toArray = ls at hl ⊢
  have hl : lv_has ls 9 [(0, .ref mb), (1, .int x1), (2, .int x2)] := hl
  have hF : mF mb s.heap s.heap [] := mF.rf
  show mWw p l e 5 109 s m (Value.ref mb :: [.int x1, .int x2]).toArray below meth c D mb q none s.heap [] (F0 m 0 ls [])
  have h : (f_markTest_8 4000 (x1) (x2) ((0:Int32)) ((0:Int32)) ((0:Int32)) σ) = some q := h
  refine lv_iconst (v := (0:Int32)) hx hb dX12_markTest_0 (by decide) ?_
  refine lv_istore_n hx hb dX12_markTest_1 rfl hl (Nat.le_of_ble_eq_true rfl) rfl (fun ls (hl : lv_has ls 9 [(3, .int (0:Int32)), (0, .ref mb), (1, .int x1), (2, .int x2)]) => ?_)
  refine lv_iconst (v := (0:Int32)) hx hb dX12_markTest_2 (by decide) ?_
  refine lv_istore hx hb dX12_markTest_3 hl (Nat.le_of_ble_eq_true rfl) rfl (fun ls (hl : lv_has ls 9 [(4, .int (0:Int32)), (3, .int (0:Int32)), (0, .ref mb), (1, .int x1), (2, .int x2)]) => ?_)
  refine lv_iconst (v := (0:Int32)) hx hb dX12_markTest_5 (by decide) ?_
  refine lv_istore hx hb dX12_markTest_6 hl (Nat.le_of_ble_eq_true rfl) rfl (fun ls (hl : lv_has ls 9 [(5, .int (0:Int32)), (4, .int (0:Int32)), (3, .int (0:Int32)), (0, .ref mb), (1, .int x1), (2, .int x2)]) => ?_)
  exact N_markTest_8 X hP hF (lv_sub hl [3, 4, 5, 2, 1, 0] rfl) h
theorem cl_markTest {p : Program} {l : Launch} {e : Env} {s : State} {m : MethodId} {args : Array Value} {below : List Frame} {meth : Method} {c : Code} {D : mD} {mb : Nat} {H : Heap} {locs : List Loc} {Q : State → Prop} {cc : ByteArray} {pc fR lR nL : Nat} {ls : Array Slot} {rest : List Value} {ret : Option FieldType} {σ : mS} (X : mX p s m args meth c cc nL ret D) (hP : mP D mb σ H) (hF : mF mb s.heap H locs) {x1 : Int32} {x2 : Int32} {q : mS} (h : f_markTest x1 x2 σ = some q) (hr : 5 + 1 ≤ fR ∧ 8 + (9 + 11) + 109 ≤ lR) (hl : ls.size = nL) (hW : (rest.map fun v => v.category).sum ≤ 8) (hdg : decode cc pc = .ok (.invokevirtual 491, 3)) (kk : ∀ (H1 : Heap) (locs1 : List Loc), mP D mb q H1 → mF mb s.heap H1 locs1 → W p l e (rM fR lR) s m args below meth c H1 locs1 0 0 Q (F0 m (pc + 3) ls rest)) : W p l e (rM fR lR) s m args below meth c H locs 0 0 Q (F0 m pc ls (.int x2 :: .int x1 :: .ref mb :: rest)) := m_cv (m_run (n := 2) X (K_markTest l D mb σ x1 x2 h) ⟨w_1962, w_1964, w_81, w_1965⟩ (hyX rfl (by decide +kernel)) rfl hr hP hl hW hdg rfl) hF kk
-- read()V
def f_read_90   (σ : mS) : Option (mS) := (f_ordered  σ).bind (fun v1 => (f_hits  v1).bind (fun v2 => some v2))
def f_read_78 (k2 : Int32 → mS → Option (mS)) (k20 : Int32 → Int32 → mS → Option (mS)) (x1 : Int32) (x2 : Int32) (σ : mS) : Option (mS) := k20 (x1) ((x2 + (1:Int32))) σ
def f_read_20 (k2 : Int32 → mS → Option (mS)) : Nat → Int32 → Int32 → mS → Option (mS)
  | 0, _, _, _ => none
  | n + 1, x1, x2, σ => if (σ.2 70) ≤ x2 then (k2 ((x1 + (1:Int32))) σ) else ((rd σ 69 x2).bind (fun v1 => if v1 = (1:Int32) then ((rd σ 67 x2).bind (fun v2 => (rd σ 1 v2).bind (fun v3 => (rd σ 68 x2).bind (fun v4 => (wr σ 1 v2 (v3 ^^^ ((1:Int32) <<< (v4 &&& 31)))).bind (fun s5 => (rd s5 67 x2).bind (fun v6 => (rd s5 68 x2).bind (fun v7 => (f_markTest (v6) (((1:Int32) <<< (v7 &&& 31))) s5).bind (fun v8 => f_read_78 k2 (f_read_20 k2 n) (x1) (x2) v8)))))))) else (f_read_78 k2 (f_read_20 k2 n) (x1) (x2) σ)))
def f_read_2  : Nat → Int32 → mS → Option (mS)
  | 0, _, _ => none
  | n + 1, x1, σ => if (4:Int32) ≤ x1 then (f_read_90 σ) else ((f_needs  σ).bind (fun v1 => if v1 = (0:Int32) then (f_read_90 σ) else ((f_flush  σ).bind (fun v2 => f_read_20 (f_read_2 n) 4000 (x1) ((0:Int32)) v2))))
def f_read  (σ : mS) : Option (mS) := f_read_2 4000 ((0:Int32)) σ
set_option maxRecDepth 20000 in
set_option maxHeartbeats 4000000 in
theorem N_read_90 {p : Program} {l : Launch} {e : Env} {s : State} {m : MethodId} {args : Array Value} {below : List Frame} {meth : Method} {c : Code} {D : mD} {mb : Nat}    {σ : mS} {H : Heap} {locs : List Loc} {ls : Array Slot} {q : mS} (X : mX p s m args meth c cX12_read 3 none D) (hP : mP D mb σ H) (hF : mF mb s.heap H locs)  (hl : lv_has ls 3 [(0, .ref mb)]) (h : f_read_90   σ = some q) : mWw p l e 15 386 s m args below meth c D mb q none H locs (F0 m 90 ls []) := by
  have hx := X.1
  have hb := X.2.1
  have hown := X.2.2.2.1
  have hts := X.2.2.2.2.1
  have h : ((f_ordered  σ).bind (fun v1 => (f_hits  v1).bind (fun v2 => some v2))) = some q := h
  refine lv_aload_n hx hb dX12_read_90 rfl (lv_at hl 0 rfl) ?_
  obtain ⟨v1, hv1, h⟩ := ob h
  refine cl_ordered X hP hF hv1 ⟨Nat.le_of_ble_eq_true rfl, Nat.le_of_ble_eq_true rfl⟩ hl.1 (Nat.le_of_ble_eq_true rfl) dX12_read_91 (fun H locs hP hF => ?_)
  refine lv_aload_n hx hb dX12_read_94 rfl (lv_at hl 0 rfl) ?_
  obtain ⟨v2, hv2, h⟩ := ob h
  refine cl_hits X hP hF hv2 ⟨Nat.le_of_ble_eq_true rfl, Nat.le_of_ble_eq_true rfl⟩ hl.1 (Nat.le_of_ble_eq_true rfl) dX12_read_95 (fun H locs hP hF => ?_)
  obtain rfl := sj h
  exact m_wv X hP hF dX12_read_98
set_option maxRecDepth 20000 in
set_option maxHeartbeats 4000000 in
theorem N_read_78 {p : Program} {l : Launch} {e : Env} {s : State} {m : MethodId} {args : Array Value} {below : List Frame} {meth : Method} {c : Code} {D : mD} {mb : Nat} {k2 : Int32 → mS → Option (mS)} {k20 : Int32 → Int32 → mS → Option (mS)}  {x1 : Int32} {x2 : Int32} {σ : mS} {H : Heap} {locs : List Loc} {ls : Array Slot} {q : mS} (X : mX p s m args meth c cX12_read 3 none D) (hP : mP D mb σ H) (hF : mF mb s.heap H locs) (hk2 : ∀ {x1 : Int32} {σ : mS} {H : Heap} {locs : List Loc} {ls : Array Slot}, mP D mb σ H → mF mb s.heap H locs → lv_has ls 3 [(0, .ref mb), (1, .int x1)] → k2 x1 σ = some q → mWw p l e 15 386 s m args below meth c D mb q none H locs (F0 m 2 ls [])) (hk20 : ∀ {x1 : Int32} {x2 : Int32} {σ : mS} {H : Heap} {locs : List Loc} {ls : Array Slot}, mP D mb σ H → mF mb s.heap H locs → lv_has ls 3 [(0, .ref mb), (1, .int x1), (2, .int x2)] → k20 x1 x2 σ = some q → mWw p l e 15 386 s m args below meth c D mb q none H locs (F0 m 20 ls [])) (hl : lv_has ls 3 [(0, .ref mb), (1, .int x1), (2, .int x2)]) (h : f_read_78 k2 k20 x1 x2 σ = some q) : mWw p l e 15 386 s m args below meth c D mb q none H locs (F0 m 78 ls []) := by
  have hx := X.1
  have hb := X.2.1
  have hown := X.2.2.2.1
  have hts := X.2.2.2.2.1
  have h : (k20 (x1) ((x2 + (1:Int32))) σ) = some q := h
  refine lv_iinc (v := (x2 + (1:Int32))) hx hb dX12_read_78 hl (k := 2) rfl rfl (Nat.le_of_ble_eq_true rfl) rfl (fun ls (hl : lv_has ls 3 [(2, .int (x2 + (1:Int32))), (0, .ref mb), (1, .int x1)]) => ?_)
  refine lv_goto (tgt := 20) hx hb dX12_read_81 rfl ?_
  exact hk20 hP hF (lv_sub hl [1, 2, 0] rfl) h
set_option maxRecDepth 20000 in
set_option maxHeartbeats 4000000 in
theorem N_read_20 {p : Program} {l : Launch} {e : Env} {s : State} {m : MethodId} {args : Array Value} {below : List Frame} {meth : Method} {c : Code} {D : mD} {mb : Nat} {k2 : Int32 → mS → Option (mS)} {n : Nat} {x1 : Int32} {x2 : Int32} {σ : mS} {H : Heap} {locs : List Loc} {ls : Array Slot} {q : mS} (X : mX p s m args meth c cX12_read 3 none D) (hP : mP D mb σ H) (hF : mF mb s.heap H locs) (hk2 : ∀ {x1 : Int32} {σ : mS} {H : Heap} {locs : List Loc} {ls : Array Slot}, mP D mb σ H → mF mb s.heap H locs → lv_has ls 3 [(0, .ref mb), (1, .int x1)] → k2 x1 σ = some q → mWw p l e 15 386 s m args below meth c D mb q none H locs (F0 m 2 ls [])) (hl : lv_has ls 3 [(0, .ref mb), (1, .int x1), (2, .int x2)]) (h : f_read_20 k2 n x1 x2 σ = some q) : mWw p l e 15 386 s m args below meth c D mb q none H locs (F0 m 20 ls []) := by
  have hx := X.1
  have hb := X.2.1
  have hown := X.2.2.2.1
  have hts := X.2.2.2.2.1
  induction n generalizing x1 x2 σ H locs ls with
  | zero => exact absurd (show none = some q from h) (by simp)
  | succ n ih =>
    have h : (if (σ.2 70) ≤ x2 then (k2 ((x1 + (1:Int32))) σ) else ((rd σ 69 x2).bind (fun v1 => if v1 = (1:Int32) then ((rd σ 67 x2).bind (fun v2 => (rd σ 1 v2).bind (fun v3 => (rd σ 68 x2).bind (fun v4 => (wr σ 1 v2 (v3 ^^^ ((1:Int32) <<< (v4 &&& 31)))).bind (fun s5 => (rd s5 67 x2).bind (fun v6 => (rd s5 68 x2).bind (fun v7 => (f_markTest (v6) (((1:Int32) <<< (v7 &&& 31))) s5).bind (fun v8 => f_read_78 k2 (f_read_20 k2 n) (x1) (x2) v8)))))))) else (f_read_78 k2 (f_read_20 k2 n) (x1) (x2) σ)))) = some q := h
    refine lv_iload_n hx hb dX12_read_20 rfl (lv_at hl 2 rfl) ?_
    refine lv_aload_n hx hb dX12_read_21 rfl (lv_at hl 0 rfl) ?_
    refine mg_listeners X hP dX12_read_22 ?_
    refine lv_icmp_ge (tgt := 84) hx hb dX12_read_25 rfl (fun hc => ?_) (fun hc => ?_)
    · have h := ip hc h
      refine lv_iinc (v := (x1 + (1:Int32))) hx hb dX12_read_84 hl (k := 1) rfl rfl (Nat.le_of_ble_eq_true rfl) rfl (fun ls (hl : lv_has ls 3 [(1, .int (x1 + (1:Int32))), (0, .ref mb), (2, .int x2)]) => ?_)
      refine lv_goto (tgt := 2) hx hb dX12_read_87 rfl ?_
      exact hk2 hP hF (lv_sub hl [1, 0] rfl) h
    · have h := ine hc h
      refine lv_aload_n hx hb dX12_read_28 rfl (lv_at hl 0 rfl) ?_
      refine mg_lx X hP dX12_read_29 ?_
      refine lv_iload_n hx hb dX12_read_32 rfl (lv_at hl 2 rfl) ?_
      obtain ⟨v1, hv1, h⟩ := ob h
      refine m_ald X hP hv1 dX12_read_33 ?_
      refine lv_iconst (v := (1:Int32)) hx hb dX12_read_34 (by decide) ?_
      refine lv_icmp_ne (tgt := 78) hx hb dX12_read_35 rfl (fun hc => ?_) (fun hc => ?_)
      · have h := ine hc h
        exact N_read_78 X hP hF hk2 ih (lv_sub hl [0, 1, 2] rfl) h
      · have h := ip hc h
        refine lv_aload_n hx hb dX12_read_38 rfl (lv_at hl 0 rfl) ?_
        refine mg_cls X hP dX12_read_39 ?_
        refine lv_aload_n hx hb dX12_read_42 rfl (lv_at hl 0 rfl) ?_
        refine mg_lo X hP dX12_read_43 ?_
        refine lv_iload_n hx hb dX12_read_46 rfl (lv_at hl 2 rfl) ?_
        obtain ⟨v2, hv2, h⟩ := ob h
        refine m_ald X hP hv2 dX12_read_47 ?_
        refine lv_dup2_11 hx hb dX12_read_48 rfl rfl ?_
        obtain ⟨v3, hv3, h⟩ := ob h
        refine m_ald X hP hv3 dX12_read_49 ?_
        refine lv_iconst (v := (1:Int32)) hx hb dX12_read_50 (by decide) ?_
        refine lv_aload_n hx hb dX12_read_51 rfl (lv_at hl 0 rfl) ?_
        refine mg_lc X hP dX12_read_52 ?_
        refine lv_iload_n hx hb dX12_read_55 rfl (lv_at hl 2 rfl) ?_
        obtain ⟨v4, hv4, h⟩ := ob h
        refine m_ald X hP hv4 dX12_read_56 ?_
        refine lv_ishl hx hb dX12_read_57 ?_
        refine lv_ixor hx hb dX12_read_58 ?_
        obtain ⟨s5, hs5, h⟩ := ob h
        refine m_ast X hP hF hs5 dX12_read_59 (fun H locs hP hF => ?_)
        refine lv_aload_n hx hb dX12_read_60 rfl (lv_at hl 0 rfl) ?_
        refine lv_aload_n hx hb dX12_read_61 rfl (lv_at hl 0 rfl) ?_
        refine mg_lo X hP dX12_read_62 ?_
        refine lv_iload_n hx hb dX12_read_65 rfl (lv_at hl 2 rfl) ?_
        obtain ⟨v6, hv6, h⟩ := ob h
        refine m_ald X hP hv6 dX12_read_66 ?_
        refine lv_iconst (v := (1:Int32)) hx hb dX12_read_67 (by decide) ?_
        refine lv_aload_n hx hb dX12_read_68 rfl (lv_at hl 0 rfl) ?_
        refine mg_lc X hP dX12_read_69 ?_
        refine lv_iload_n hx hb dX12_read_72 rfl (lv_at hl 2 rfl) ?_
        obtain ⟨v7, hv7, h⟩ := ob h
        refine m_ald X hP hv7 dX12_read_73 ?_
        refine lv_ishl hx hb dX12_read_74 ?_
        obtain ⟨v8, hv8, h⟩ := ob h
        refine cl_markTest X hP hF hv8 ⟨Nat.le_of_ble_eq_true rfl, Nat.le_of_ble_eq_true rfl⟩ hl.1 (Nat.le_of_ble_eq_true rfl) dX12_read_75 (fun H locs hP hF => ?_)
        exact N_read_78 X hP hF hk2 ih (lv_sub hl [0, 1, 2] rfl) h
set_option maxRecDepth 20000 in
set_option maxHeartbeats 4000000 in
theorem N_read_2 {p : Program} {l : Launch} {e : Env} {s : State} {m : MethodId} {args : Array Value} {below : List Frame} {meth : Method} {c : Code} {D : mD} {mb : Nat}  {n : Nat} {x1 : Int32} {σ : mS} {H : Heap} {locs : List Loc} {ls : Array Slot} {q : mS} (X : mX p s m args meth c cX12_read 3 none D) (hP : mP D mb σ H) (hF : mF mb s.heap H locs)  (hl : lv_has ls 3 [(0, .ref mb), (1, .int x1)]) (h : f_read_2  n x1 σ = some q) : mWw p l e 15 386 s m args below meth c D mb q none H locs (F0 m 2 ls []) := by
  have hx := X.1
  have hb := X.2.1
  have hown := X.2.2.2.1
  have hts := X.2.2.2.2.1
  induction n generalizing x1 σ H locs ls with
  | zero => exact absurd (show none = some q from h) (by simp)
  | succ n ih =>
    have h : (if (4:Int32) ≤ x1 then (f_read_90 σ) else ((f_needs  σ).bind (fun v1 => if v1 = (0:Int32) then (f_read_90 σ) else ((f_flush  σ).bind (fun v2 => f_read_20 (f_read_2 n) 4000 (x1) ((0:Int32)) v2))))) = some q := h
    refine lv_iload_n hx hb dX12_read_2 rfl (lv_at hl 1 rfl) ?_
    refine lv_iconst (v := (4:Int32)) hx hb dX12_read_3 (by decide) ?_
    refine lv_icmp_ge (tgt := 90) hx hb dX12_read_4 rfl (fun hc => ?_) (fun hc => ?_)
    · have h := ip hc h
      exact N_read_90 X hP hF (lv_sub hl [0] rfl) h
    · have h := ine hc h
      refine lv_aload_n hx hb dX12_read_7 rfl (lv_at hl 0 rfl) ?_
      obtain ⟨v1, hv1, h⟩ := ob h
      refine cl_needs X hP hv1 ⟨Nat.le_of_ble_eq_true rfl, Nat.le_of_ble_eq_true rfl⟩ hl.1 (Nat.le_of_ble_eq_true rfl) dX12_read_8 ?_
      refine lv_if_eq (tgt := 90) hx hb dX12_read_11 rfl (fun hc => ?_) (fun hc => ?_)
      · have h := ip hc h
        exact N_read_90 X hP hF (lv_sub hl [0] rfl) h
      · have h := ine hc h
        refine lv_aload_n hx hb dX12_read_14 rfl (lv_at hl 0 rfl) ?_
        obtain ⟨v2, hv2, h⟩ := ob h
        refine cl_flush X hP hF hv2 ⟨Nat.le_of_ble_eq_true rfl, Nat.le_of_ble_eq_true rfl⟩ hl.1 (Nat.le_of_ble_eq_true rfl) dX12_read_15 (fun H locs hP hF => ?_)
        refine lv_iconst (v := (0:Int32)) hx hb dX12_read_18 (by decide) ?_
        refine lv_istore_n hx hb dX12_read_19 rfl hl (Nat.le_of_ble_eq_true rfl) rfl (fun ls (hl : lv_has ls 3 [(2, .int (0:Int32)), (0, .ref mb), (1, .int x1)]) => ?_)
        exact N_read_20 X hP hF ih (lv_sub hl [1, 2, 0] rfl) h
set_option maxRecDepth 20000 in
set_option maxHeartbeats 4000000 in
theorem K_read (l : Launch) (D : mD) (mb : Nat) (σ : mS)  {q : mS} (h : f_read  σ = some q) : Met l yX12_read (Cond.code yX12_read cX12_read 3 none :: BG) (rM 15 386) (mPc D mb σ []) (mQw D mb q none) 0 0 (mReg mb) := by
  refine Met.ofW (cc := cX12_read) (maxL := 3) (ret := none) (by decide) rfl ?_
  intro p e s m args below meth c s₁ B hml hv
  obtain ⟨rfl, hP, hK⟩ := hv
  have X := mX_of B hml rfl hK
  have hx := X.1
  have hb := X.2.1
  have hown := X.2.2.2.1
  have hts := X.2.2.2.2.1
  have hl := lv_entry (.ref mb :: []) (n := 3) (Nat.le_of_ble_eq_true rfl)
  rw [lg_entry_eq]
  generalize (lg_sl (.ref mb :: []) ++ List.replicate (3 - (lg_sl (.ref mb :: [])).length) Slot.unset).toArray = ls at hl ⊢
  have hl : lv_has ls 3 [(0, .ref mb)] := hl
  have hF : mF mb s.heap s.heap [] := mF.rf
  show mWw p l e 15 386 s m (Value.ref mb :: []).toArray below meth c D mb q none s.heap [] (F0 m 0 ls [])
  have h : (f_read_2 4000 ((0:Int32)) σ) = some q := h
  refine lv_iconst (v := (0:Int32)) hx hb dX12_read_0 (by decide) ?_
  refine lv_istore_n hx hb dX12_read_1 rfl hl (Nat.le_of_ble_eq_true rfl) rfl (fun ls (hl : lv_has ls 3 [(1, .int (0:Int32)), (0, .ref mb)]) => ?_)
  exact N_read_2 X hP hF (lv_sub hl [1, 0] rfl) h
theorem cl_read {p : Program} {l : Launch} {e : Env} {s : State} {m : MethodId} {args : Array Value} {below : List Frame} {meth : Method} {c : Code} {D : mD} {mb : Nat} {H : Heap} {locs : List Loc} {Q : State → Prop} {cc : ByteArray} {pc fR lR nL : Nat} {ls : Array Slot} {rest : List Value} {ret : Option FieldType} {σ : mS} (X : mX p s m args meth c cc nL ret D) (hP : mP D mb σ H) (hF : mF mb s.heap H locs)  {q : mS} (h : f_read  σ = some q) (hr : 15 + 1 ≤ fR ∧ 8 + (3 + 11) + 386 ≤ lR) (hl : ls.size = nL) (hW : (rest.map fun v => v.category).sum ≤ 8) (hdg : decode cc pc = .ok (.invokevirtual 557, 3)) (kk : ∀ (H1 : Heap) (locs1 : List Loc), mP D mb q H1 → mF mb s.heap H1 locs1 → W p l e (rM fR lR) s m args below meth c H1 locs1 0 0 Q (F0 m (pc + 3) ls rest)) : W p l e (rM fR lR) s m args below meth c H locs 0 0 Q (F0 m pc ls (.ref mb :: rest)) := m_cv (m_run (n := 0) X (K_read l D mb σ  h) ⟨w_2131, w_2133, w_103, w_2134⟩ (hyX rfl (by decide +kernel)) rfl hr hP hl hW hdg rfl) hF kk
-- markAll()V
def f_markAll  (σ : mS) : Option (mS) := (f_docMask  σ).bind (fun v1 => some (sf σ 49 v1))
set_option maxRecDepth 20000 in
set_option maxHeartbeats 4000000 in
theorem K_markAll (l : Launch) (D : mD) (mb : Nat) (σ : mS)  {q : mS} (h : f_markAll  σ = some q) : Met l yX12_markAll (Cond.code yX12_markAll cX12_markAll 1 none :: BG) (rM 4 88) (mPc D mb σ []) (mQw D mb q none) 0 0 (mReg mb) := by
  refine Met.ofW (cc := cX12_markAll) (maxL := 1) (ret := none) (by decide) rfl ?_
  intro p e s m args below meth c s₁ B hml hv
  obtain ⟨rfl, hP, hK⟩ := hv
  have X := mX_of B hml rfl hK
  have hx := X.1
  have hb := X.2.1
  have hown := X.2.2.2.1
  have hts := X.2.2.2.2.1
  have hl := lv_entry (.ref mb :: []) (n := 1) (Nat.le_of_ble_eq_true rfl)
  rw [lg_entry_eq]
  generalize (lg_sl (.ref mb :: []) ++ List.replicate (1 - (lg_sl (.ref mb :: [])).length) Slot.unset).toArray = ls at hl ⊢
  have hl : lv_has ls 1 [(0, .ref mb)] := hl
  have hF : mF mb s.heap s.heap [] := mF.rf
  show mWw p l e 4 88 s m (Value.ref mb :: []).toArray below meth c D mb q none s.heap [] (F0 m 0 ls [])
  have h : ((f_docMask  σ).bind (fun v1 => some (sf σ 49 v1))) = some q := h
  refine lv_aload_n hx hb dX12_markAll_0 rfl (lv_at hl 0 rfl) ?_
  refine lv_aload_n hx hb dX12_markAll_1 rfl (lv_at hl 0 rfl) ?_
  obtain ⟨v1, hv1, h⟩ := ob h
  refine cl_docMask X hP hv1 ⟨Nat.le_of_ble_eq_true rfl, Nat.le_of_ble_eq_true rfl⟩ hl.1 (Nat.le_of_ble_eq_true rfl) dX12_markAll_2 ?_
  refine mp_mk X hP hF dX12_markAll_5 (fun H locs hP hF => ?_)
  obtain rfl := sj h
  exact m_wv X hP hF dX12_markAll_8
theorem cl_markAll {p : Program} {l : Launch} {e : Env} {s : State} {m : MethodId} {args : Array Value} {below : List Frame} {meth : Method} {c : Code} {D : mD} {mb : Nat} {H : Heap} {locs : List Loc} {Q : State → Prop} {cc : ByteArray} {pc fR lR nL : Nat} {ls : Array Slot} {rest : List Value} {ret : Option FieldType} {σ : mS} (X : mX p s m args meth c cc nL ret D) (hP : mP D mb σ H) (hF : mF mb s.heap H locs)  {q : mS} (h : f_markAll  σ = some q) (hr : 4 + 1 ≤ fR ∧ 8 + (1 + 11) + 88 ≤ lR) (hl : ls.size = nL) (hW : (rest.map fun v => v.category).sum ≤ 8) (hdg : decode cc pc = .ok (.invokevirtual 509, 3)) (kk : ∀ (H1 : Heap) (locs1 : List Loc), mP D mb q H1 → mF mb s.heap H1 locs1 → W p l e (rM fR lR) s m args below meth c H1 locs1 0 0 Q (F0 m (pc + 3) ls rest)) : W p l e (rM fR lR) s m args below meth c H locs 0 0 Q (F0 m pc ls (.ref mb :: rest)) := m_cv (m_run (n := 0) X (K_markAll l D mb σ  h) ⟨w_1862, w_1864, w_60, w_1865⟩ (hyX rfl (by decide +kernel)) rfl hr hP hl hW hdg rfl) hF kk
-- markBelow(I)V
def f_markBelow_45 (k7 : Int32 → Int32 → Int32 → mS → Option (mS)) (x1 : Int32) (x2 : Int32) (x3 : Int32) (y1 : Int32) (y2 : Int32) (σ : mS) : Option (mS) := k7 (x1) (x2) ((x3 + (1:Int32))) (sf σ 49 (y1 ||| y2))
def f_markBelow_44 (k7 : Int32 → Int32 → Int32 → mS → Option (mS)) (x1 : Int32) (x2 : Int32) (x3 : Int32) (y1 : Int32) (σ : mS) : Option (mS) := f_markBelow_45 k7 (x1) (x2) (x3) (y1) ((0:Int32)) σ
def f_markBelow_7  : Nat → Int32 → Int32 → Int32 → mS → Option (mS)
  | 0, _, _, _, _ => none
  | n + 1, x1, x2, x3, σ => if (σ.2 13) ≤ x3 then (some σ) else ((f_bit (x2) (x3)).bind (fun v1 => if v1 = (0:Int32) then (f_markBelow_44 (f_markBelow_7 n) (x1) (x2) (x3) ((σ.2 49)) σ) else ((f_below (x3) (x1) σ).bind (fun v2 => if v2 = (0:Int32) then (f_markBelow_44 (f_markBelow_7 n) (x1) (x2) (x3) ((σ.2 49)) σ) else (f_markBelow_45 (f_markBelow_7 n) (x1) (x2) (x3) ((σ.2 49)) (((1:Int32) <<< (x3 &&& 31))) σ)))))
def f_markBelow (x1 : Int32) (σ : mS) : Option (mS) := (f_docMask  σ).bind (fun v1 => f_markBelow_7 4000 (x1) (v1) ((0:Int32)) σ)
set_option maxRecDepth 20000 in
set_option maxHeartbeats 4000000 in
theorem N_markBelow_45 {p : Program} {l : Launch} {e : Env} {s : State} {m : MethodId} {args : Array Value} {below : List Frame} {meth : Method} {c : Code} {D : mD} {mb : Nat} {k7 : Int32 → Int32 → Int32 → mS → Option (mS)}  {x1 : Int32} {x2 : Int32} {x3 : Int32} {y1 : Int32} {y2 : Int32} {σ : mS} {H : Heap} {locs : List Loc} {ls : Array Slot} {q : mS} (X : mX p s m args meth c cX12_markBelow 4 none D) (hP : mP D mb σ H) (hF : mF mb s.heap H locs) (hk7 : ∀ {x1 : Int32} {x2 : Int32} {x3 : Int32} {σ : mS} {H : Heap} {locs : List Loc} {ls : Array Slot}, mP D mb σ H → mF mb s.heap H locs → lv_has ls 4 [(0, .ref mb), (1, .int x1), (2, .int x2), (3, .int x3)] → k7 x1 x2 x3 σ = some q → mWw p l e 6 135 s m args below meth c D mb q none H locs (F0 m 7 ls [])) (hl : lv_has ls 4 [(0, .ref mb), (1, .int x1), (2, .int x2), (3, .int x3)]) (h : f_markBelow_45 k7 x1 x2 x3 y1 y2 σ = some q) : mWw p l e 6 135 s m args below meth c D mb q none H locs (F0 m 45 ls [.int y2, .int y1, .ref mb]) := by
  have hx := X.1
  have hb := X.2.1
  have hown := X.2.2.2.1
  have hts := X.2.2.2.2.1
  have h : (k7 (x1) (x2) ((x3 + (1:Int32))) (sf σ 49 (y1 ||| y2))) = some q := h
  refine lv_ior hx hb dX12_markBelow_45 ?_
  refine mp_mk X hP hF dX12_markBelow_46 (fun H locs hP hF => ?_)
  refine lv_iinc (v := (x3 + (1:Int32))) hx hb dX12_markBelow_49 hl (k := 3) rfl rfl (Nat.le_of_ble_eq_true rfl) rfl (fun ls (hl : lv_has ls 4 [(3, .int (x3 + (1:Int32))), (0, .ref mb), (1, .int x1), (2, .int x2)]) => ?_)
  refine lv_goto (tgt := 7) hx hb dX12_markBelow_52 rfl ?_
  exact hk7 hP hF (lv_sub hl [1, 2, 3, 0] rfl) h
set_option maxRecDepth 20000 in
set_option maxHeartbeats 4000000 in
theorem N_markBelow_44 {p : Program} {l : Launch} {e : Env} {s : State} {m : MethodId} {args : Array Value} {below : List Frame} {meth : Method} {c : Code} {D : mD} {mb : Nat} {k7 : Int32 → Int32 → Int32 → mS → Option (mS)}  {x1 : Int32} {x2 : Int32} {x3 : Int32} {y1 : Int32} {σ : mS} {H : Heap} {locs : List Loc} {ls : Array Slot} {q : mS} (X : mX p s m args meth c cX12_markBelow 4 none D) (hP : mP D mb σ H) (hF : mF mb s.heap H locs) (hk7 : ∀ {x1 : Int32} {x2 : Int32} {x3 : Int32} {σ : mS} {H : Heap} {locs : List Loc} {ls : Array Slot}, mP D mb σ H → mF mb s.heap H locs → lv_has ls 4 [(0, .ref mb), (1, .int x1), (2, .int x2), (3, .int x3)] → k7 x1 x2 x3 σ = some q → mWw p l e 6 135 s m args below meth c D mb q none H locs (F0 m 7 ls [])) (hl : lv_has ls 4 [(0, .ref mb), (1, .int x1), (2, .int x2), (3, .int x3)]) (h : f_markBelow_44 k7 x1 x2 x3 y1 σ = some q) : mWw p l e 6 135 s m args below meth c D mb q none H locs (F0 m 44 ls [.int y1, .ref mb]) := by
  have hx := X.1
  have hb := X.2.1
  have hown := X.2.2.2.1
  have hts := X.2.2.2.2.1
  have h : (f_markBelow_45 k7 (x1) (x2) (x3) (y1) ((0:Int32)) σ) = some q := h
  refine lv_iconst (v := (0:Int32)) hx hb dX12_markBelow_44 (by decide) ?_
  exact N_markBelow_45 X hP hF hk7 (lv_sub hl [0, 1, 2, 3] rfl) h
set_option maxRecDepth 20000 in
set_option maxHeartbeats 4000000 in
theorem N_markBelow_7 {p : Program} {l : Launch} {e : Env} {s : State} {m : MethodId} {args : Array Value} {below : List Frame} {meth : Method} {c : Code} {D : mD} {mb : Nat}  {n : Nat} {x1 : Int32} {x2 : Int32} {x3 : Int32} {σ : mS} {H : Heap} {locs : List Loc} {ls : Array Slot} {q : mS} (X : mX p s m args meth c cX12_markBelow 4 none D) (hP : mP D mb σ H) (hF : mF mb s.heap H locs)  (hl : lv_has ls 4 [(0, .ref mb), (1, .int x1), (2, .int x2), (3, .int x3)]) (h : f_markBelow_7  n x1 x2 x3 σ = some q) : mWw p l e 6 135 s m args below meth c D mb q none H locs (F0 m 7 ls []) := by
  have hx := X.1
  have hb := X.2.1
  have hown := X.2.2.2.1
  have hts := X.2.2.2.2.1
  induction n generalizing x1 x2 x3 σ H locs ls with
  | zero => exact absurd (show none = some q from h) (by simp)
  | succ n ih =>
    have h : (if (σ.2 13) ≤ x3 then (some σ) else ((f_bit (x2) (x3)).bind (fun v1 => if v1 = (0:Int32) then (f_markBelow_44 (f_markBelow_7 n) (x1) (x2) (x3) ((σ.2 49)) σ) else ((f_below (x3) (x1) σ).bind (fun v2 => if v2 = (0:Int32) then (f_markBelow_44 (f_markBelow_7 n) (x1) (x2) (x3) ((σ.2 49)) σ) else (f_markBelow_45 (f_markBelow_7 n) (x1) (x2) (x3) ((σ.2 49)) (((1:Int32) <<< (x3 &&& 31))) σ)))))) = some q := h
    refine lv_iload_n hx hb dX12_markBelow_7 rfl (lv_at hl 3 rfl) ?_
    refine lv_aload_n hx hb dX12_markBelow_8 rfl (lv_at hl 0 rfl) ?_
    refine mg_made X hP dX12_markBelow_9 ?_
    refine lv_icmp_ge (tgt := 55) hx hb dX12_markBelow_12 rfl (fun hc => ?_) (fun hc => ?_)
    · have h := ip hc h
      obtain rfl := sj h
      exact m_wv X hP hF dX12_markBelow_55
    · have h := ine hc h
      refine lv_aload_n hx hb dX12_markBelow_15 rfl (lv_at hl 0 rfl) ?_
      refine lv_dup hx hb dX12_markBelow_16 rfl ?_
      refine mg_mk X hP dX12_markBelow_17 ?_
      refine lv_aload_n hx hb dX12_markBelow_20 rfl (lv_at hl 0 rfl) ?_
      refine lv_iload_n hx hb dX12_markBelow_21 rfl (lv_at hl 2 rfl) ?_
      refine lv_iload_n hx hb dX12_markBelow_22 rfl (lv_at hl 3 rfl) ?_
      obtain ⟨v1, hv1, h⟩ := ob h
      refine cl_bit X hP hv1 ⟨Nat.le_of_ble_eq_true rfl, Nat.le_of_ble_eq_true rfl⟩ hl.1 (Nat.le_of_ble_eq_true rfl) dX12_markBelow_23 ?_
      refine lv_if_eq (tgt := 44) hx hb dX12_markBelow_26 rfl (fun hc => ?_) (fun hc => ?_)
      · have h := ip hc h
        exact N_markBelow_44 X hP hF ih (lv_sub hl [0, 1, 2, 3] rfl) h
      · have h := ine hc h
        refine lv_aload_n hx hb dX12_markBelow_29 rfl (lv_at hl 0 rfl) ?_
        refine lv_iload_n hx hb dX12_markBelow_30 rfl (lv_at hl 3 rfl) ?_
        refine lv_iload_n hx hb dX12_markBelow_31 rfl (lv_at hl 1 rfl) ?_
        obtain ⟨v2, hv2, h⟩ := ob h
        refine cl_below X hP hv2 ⟨Nat.le_of_ble_eq_true rfl, Nat.le_of_ble_eq_true rfl⟩ hl.1 (Nat.le_of_ble_eq_true rfl) dX12_markBelow_32 ?_
        refine lv_if_eq (tgt := 44) hx hb dX12_markBelow_35 rfl (fun hc => ?_) (fun hc => ?_)
        · have h := ip hc h
          exact N_markBelow_44 X hP hF ih (lv_sub hl [0, 1, 2, 3] rfl) h
        · have h := ine hc h
          refine lv_iconst (v := (1:Int32)) hx hb dX12_markBelow_38 (by decide) ?_
          refine lv_iload_n hx hb dX12_markBelow_39 rfl (lv_at hl 3 rfl) ?_
          refine lv_ishl hx hb dX12_markBelow_40 ?_
          refine lv_goto (tgt := 45) hx hb dX12_markBelow_41 rfl ?_
          exact N_markBelow_45 X hP hF ih (lv_sub hl [0, 1, 2, 3] rfl) h
set_option maxRecDepth 20000 in
set_option maxHeartbeats 4000000 in
theorem K_markBelow (l : Launch) (D : mD) (mb : Nat) (σ : mS) (x1 : Int32) {q : mS} (h : f_markBelow x1 σ = some q) : Met l yX12_markBelow (Cond.code yX12_markBelow cX12_markBelow 4 none :: BG) (rM 6 135) (mPc D mb σ [.int x1]) (mQw D mb q none) 0 0 (mReg mb) := by
  refine Met.ofW (cc := cX12_markBelow) (maxL := 4) (ret := none) (by decide) rfl ?_
  intro p e s m args below meth c s₁ B hml hv
  obtain ⟨rfl, hP, hK⟩ := hv
  have X := mX_of B hml rfl hK
  have hx := X.1
  have hb := X.2.1
  have hown := X.2.2.2.1
  have hts := X.2.2.2.2.1
  have hl := lv_entry (.ref mb :: [.int x1]) (n := 4) (Nat.le_of_ble_eq_true rfl)
  rw [lg_entry_eq]
  generalize (lg_sl (.ref mb :: [.int x1]) ++ List.replicate (4 - (lg_sl (.ref mb :: [.int x1])).length) Slot.unset).toArray = ls at hl ⊢
  have hl : lv_has ls 4 [(0, .ref mb), (1, .int x1)] := hl
  have hF : mF mb s.heap s.heap [] := mF.rf
  show mWw p l e 6 135 s m (Value.ref mb :: [.int x1]).toArray below meth c D mb q none s.heap [] (F0 m 0 ls [])
  have h : ((f_docMask  σ).bind (fun v1 => f_markBelow_7 4000 (x1) (v1) ((0:Int32)) σ)) = some q := h
  refine lv_aload_n hx hb dX12_markBelow_0 rfl (lv_at hl 0 rfl) ?_
  obtain ⟨v1, hv1, h⟩ := ob h
  refine cl_docMask X hP hv1 ⟨Nat.le_of_ble_eq_true rfl, Nat.le_of_ble_eq_true rfl⟩ hl.1 (Nat.le_of_ble_eq_true rfl) dX12_markBelow_1 ?_
  refine lv_istore_n hx hb dX12_markBelow_4 rfl hl (Nat.le_of_ble_eq_true rfl) rfl (fun ls (hl : lv_has ls 4 [(2, .int v1), (0, .ref mb), (1, .int x1)]) => ?_)
  refine lv_iconst (v := (0:Int32)) hx hb dX12_markBelow_5 (by decide) ?_
  refine lv_istore_n hx hb dX12_markBelow_6 rfl hl (Nat.le_of_ble_eq_true rfl) rfl (fun ls (hl : lv_has ls 4 [(3, .int (0:Int32)), (2, .int v1), (0, .ref mb), (1, .int x1)]) => ?_)
  exact N_markBelow_7 X hP hF (lv_sub hl [2, 3, 1, 0] rfl) h
theorem cl_markBelow {p : Program} {l : Launch} {e : Env} {s : State} {m : MethodId} {args : Array Value} {below : List Frame} {meth : Method} {c : Code} {D : mD} {mb : Nat} {H : Heap} {locs : List Loc} {Q : State → Prop} {cc : ByteArray} {pc fR lR nL : Nat} {ls : Array Slot} {rest : List Value} {ret : Option FieldType} {σ : mS} (X : mX p s m args meth c cc nL ret D) (hP : mP D mb σ H) (hF : mF mb s.heap H locs) {x1 : Int32} {q : mS} (h : f_markBelow x1 σ = some q) (hr : 6 + 1 ≤ fR ∧ 8 + (4 + 11) + 135 ≤ lR) (hl : ls.size = nL) (hW : (rest.map fun v => v.category).sum ≤ 8) (hdg : decode cc pc = .ok (.invokevirtual 500, 3)) (kk : ∀ (H1 : Heap) (locs1 : List Loc), mP D mb q H1 → mF mb s.heap H1 locs1 → W p l e (rM fR lR) s m args below meth c H1 locs1 0 0 Q (F0 m (pc + 3) ls rest)) : W p l e (rM fR lR) s m args below meth c H locs 0 0 Q (F0 m pc ls (.int x1 :: .ref mb :: rest)) := m_cv (m_run (n := 1) X (K_markBelow l D mb σ x1 h) ⟨w_1902, w_1904, w_69, w_1905⟩ (hyX rfl (by decide +kernel)) rfl hr hP hl hW hdg rfl) hF kk
