set_option maxRecDepth 100000 in
theorem w_1164 : Cond.methodLink "CascaderyLaw" 195 yL_asks ∈ BG := bg_in 1164 (by decide +kernel) (by decide +kernel)
set_option maxRecDepth 100000 in
theorem w_620 : Cond.methodLink "CascaderyLaw" 179 yL_cell ∈ BG := bg_in 620 (by decide +kernel) (by decide +kernel)
set_option maxRecDepth 100000 in
theorem w_1109 : Cond.methodLink "CascaderyLaw" 183 yL_tell ∈ BG := bg_in 1109 (by decide +kernel) (by decide +kernel)
set_option maxRecDepth 100000 in
theorem w_1196 : Cond.methodLink "CascaderyLaw" 187 yL_act ∈ BG := bg_in 1196 (by decide +kernel) (by decide +kernel)
set_option maxRecDepth 100000 in
theorem w_1161 : Cond.methodLink "CascaderyLaw" 191 yL_same ∈ BG := bg_in 1161 (by decide +kernel) (by decide +kernel)
set_option maxRecDepth 100000 in
theorem w_622 : Cond.code yL_cell cL_cell 2 (some .int) ∈ BG := bg_in 622 (by rfl) (by decide +kernel)
set_option maxRecDepth 100000 in
theorem w_621 : Cond.static yL_cell ∈ BG := bg_in 621 (by decide +kernel) (by decide +kernel)
set_option maxRecDepth 100000 in
theorem w_623 : Cond.constant "CascaderyLaw" 7 2752577 ∈ BG := bg_in 623 (by decide +kernel) (by decide +kernel)
theorem dL_law_0 : decode cL_law 0 = .ok (.new 10, 3) := by decide +kernel
theorem dL_law_3 : decode cL_law 3 = .ok (.dup, 1) := by decide +kernel
theorem dL_law_4 : decode cL_law 4 = .ok (.invokespecial 178, 3) := by decide +kernel
theorem dL_law_7 : decode cL_law 7 = .ok (.astore_n 1, 1) := by decide +kernel
theorem dL_law_8 : decode cL_law 8 = .ok (.bipush 9, 2) := by decide +kernel
theorem dL_law_10 : decode cL_law 10 = .ok (.newarray .int, 2) := by decide +kernel
theorem dL_law_12 : decode cL_law 12 = .ok (.astore_n 2, 1) := by decide +kernel
theorem dL_law_13 : decode cL_law 13 = .ok (.aload_n 2, 1) := by decide +kernel
theorem dL_law_14 : decode cL_law 14 = .ok (.iconst 0, 1) := by decide +kernel
theorem dL_law_15 : decode cL_law 15 = .ok (.iconst 1, 1) := by decide +kernel
theorem dL_law_16 : decode cL_law 16 = .ok (.iastore, 1) := by decide +kernel
theorem dL_law_17 : decode cL_law 17 = .ok (.iconst 0, 1) := by decide +kernel
theorem dL_law_18 : decode cL_law 18 = .ok (.istore_n 3, 1) := by decide +kernel
theorem dL_law_19 : decode cL_law 19 = .ok (.iload_n 3, 1) := by decide +kernel
theorem dL_law_20 : decode cL_law 20 = .ok (.iconst 4, 1) := by decide +kernel
theorem dL_law_21 : decode cL_law 21 = .ok (.if_icmp .ge 30, 3) := by decide +kernel
theorem dL_law_24 : decode cL_law 24 = .ok (.aload_n 1, 1) := by decide +kernel
theorem dL_law_25 : decode cL_law 25 = .ok (.aload_n 2, 1) := by decide +kernel
theorem dL_law_26 : decode cL_law 26 = .ok (.iconst 1, 1) := by decide +kernel
theorem dL_law_27 : decode cL_law 27 = .ok (.iload_n 3, 1) := by decide +kernel
theorem dL_law_28 : decode cL_law 28 = .ok (.iadd, 1) := by decide +kernel
theorem dL_law_29 : decode cL_law 29 = .ok (.invokestatic 123, 3) := by decide +kernel
theorem dL_law_32 : decode cL_law 32 = .ok (.pop, 1) := by decide +kernel
theorem dL_law_33 : decode cL_law 33 = .ok (.aload_n 1, 1) := by decide +kernel
theorem dL_law_34 : decode cL_law 34 = .ok (.iload_n 3, 1) := by decide +kernel
theorem dL_law_35 : decode cL_law 35 = .ok (.iconst 1, 1) := by decide +kernel
theorem dL_law_36 : decode cL_law 36 = .ok (.iadd, 1) := by decide +kernel
theorem dL_law_37 : decode cL_law 37 = .ok (.iload_n 3, 1) := by decide +kernel
theorem dL_law_38 : decode cL_law 38 = .ok (.iconst 2, 1) := by decide +kernel
theorem dL_law_39 : decode cL_law 39 = .ok (.idiv, 1) := by decide +kernel
theorem dL_law_40 : decode cL_law 40 = .ok (.iconst 0, 1) := by decide +kernel
theorem dL_law_41 : decode cL_law 41 = .ok (.invokestatic 126, 3) := by decide +kernel
theorem dL_law_44 : decode cL_law 44 = .ok (.pop, 1) := by decide +kernel
theorem dL_law_45 : decode cL_law 45 = .ok (.iinc 3 1, 3) := by decide +kernel
theorem dL_law_48 : decode cL_law 48 = .ok (.goto (-29), 3) := by decide +kernel
theorem dL_law_51 : decode cL_law 51 = .ok (.iconst 0, 1) := by decide +kernel
theorem dL_law_52 : decode cL_law 52 = .ok (.istore_n 3, 1) := by decide +kernel
theorem dL_law_53 : decode cL_law 53 = .ok (.iload_n 3, 1) := by decide +kernel
theorem dL_law_54 : decode cL_law 54 = .ok (.bipush 30, 2) := by decide +kernel
theorem dL_law_56 : decode cL_law 56 = .ok (.if_icmp .ge 101, 3) := by decide +kernel
theorem dL_law_59 : decode cL_law 59 = .ok (.aload_n 0, 1) := by decide +kernel
theorem dL_law_60 : decode cL_law 60 = .ok (.iconst 2, 1) := by decide +kernel
theorem dL_law_61 : decode cL_law 61 = .ok (.iload_n 3, 1) := by decide +kernel
theorem dL_law_62 : decode cL_law 62 = .ok (.imul, 1) := by decide +kernel
theorem dL_law_63 : decode cL_law 63 = .ok (.invokestatic 179, 3) := by decide +kernel
theorem dL_law_66 : decode cL_law 66 = .ok (.istore 4, 2) := by decide +kernel
theorem dL_law_68 : decode cL_law 68 = .ok (.aload_n 0, 1) := by decide +kernel
theorem dL_law_69 : decode cL_law 69 = .ok (.iconst 2, 1) := by decide +kernel
theorem dL_law_70 : decode cL_law 70 = .ok (.iload_n 3, 1) := by decide +kernel
theorem dL_law_71 : decode cL_law 71 = .ok (.imul, 1) := by decide +kernel
theorem dL_law_72 : decode cL_law 72 = .ok (.iconst 1, 1) := by decide +kernel
theorem dL_law_73 : decode cL_law 73 = .ok (.iadd, 1) := by decide +kernel
theorem dL_law_74 : decode cL_law 74 = .ok (.invokestatic 179, 3) := by decide +kernel
theorem dL_law_77 : decode cL_law 77 = .ok (.istore 5, 2) := by decide +kernel
theorem dL_law_79 : decode cL_law 79 = .ok (.aload_n 1, 1) := by decide +kernel
theorem dL_law_80 : decode cL_law 80 = .ok (.aload_n 2, 1) := by decide +kernel
theorem dL_law_81 : decode cL_law 81 = .ok (.invokestatic 183, 3) := by decide +kernel
theorem dL_law_84 : decode cL_law 84 = .ok (.astore 6, 2) := by decide +kernel
theorem dL_law_86 : decode cL_law 86 = .ok (.aload_n 1, 1) := by decide +kernel
theorem dL_law_87 : decode cL_law 87 = .ok (.aload_n 2, 1) := by decide +kernel
theorem dL_law_88 : decode cL_law 88 = .ok (.iload 5, 2) := by decide +kernel
theorem dL_law_90 : decode cL_law 90 = .ok (.iload 4, 2) := by decide +kernel
theorem dL_law_92 : decode cL_law 92 = .ok (.iconst 3, 1) := by decide +kernel
theorem dL_law_93 : decode cL_law 93 = .ok (.ishr, 1) := by decide +kernel
theorem dL_law_94 : decode cL_law 94 = .ok (.bipush 16, 2) := by decide +kernel
theorem dL_law_96 : decode cL_law 96 = .ok (.invokestatic 109, 3) := by decide +kernel
theorem dL_law_99 : decode cL_law 99 = .ok (.invokestatic 187, 3) := by decide +kernel
theorem dL_law_102 : decode cL_law 102 = .ok (.istore 7, 2) := by decide +kernel
theorem dL_law_104 : decode cL_law 104 = .ok (.iload 7, 2) := by decide +kernel
theorem dL_law_106 : decode cL_law 106 = .ok (.iconst (-1), 1) := by decide +kernel
theorem dL_law_107 : decode cL_law 107 = .ok (.if_icmp .ge 25, 3) := by decide +kernel
theorem dL_law_110 : decode cL_law 110 = .ok (.iload 7, 2) := by decide +kernel
theorem dL_law_112 : decode cL_law 112 = .ok (.bipush (-9), 2) := by decide +kernel
theorem dL_law_114 : decode cL_law 114 = .ok (.if_icmp .le 18, 3) := by decide +kernel
theorem dL_law_117 : decode cL_law 117 = .ok (.aload 6, 2) := by decide +kernel
theorem dL_law_119 : decode cL_law 119 = .ok (.aload_n 1, 1) := by decide +kernel
theorem dL_law_120 : decode cL_law 120 = .ok (.aload_n 2, 1) := by decide +kernel
theorem dL_law_121 : decode cL_law 121 = .ok (.invokestatic 183, 3) := by decide +kernel
theorem dL_law_124 : decode cL_law 124 = .ok (.invokestatic 191, 3) := by decide +kernel
theorem dL_law_127 : decode cL_law 127 = .ok (.ifCond .ne 5, 3) := by decide +kernel
theorem dL_law_130 : decode cL_law 130 = .ok (.iconst 0, 1) := by decide +kernel
theorem dL_law_131 : decode cL_law 131 = .ok (.ireturn, 1) := by decide +kernel
theorem dL_law_132 : decode cL_law 132 = .ok (.iload 4, 2) := by decide +kernel
theorem dL_law_134 : decode cL_law 134 = .ok (.iconst 4, 1) := by decide +kernel
theorem dL_law_135 : decode cL_law 135 = .ok (.invokestatic 109, 3) := by decide +kernel
theorem dL_law_138 : decode cL_law 138 = .ok (.ifCond .ne 13, 3) := by decide +kernel
theorem dL_law_141 : decode cL_law 141 = .ok (.aload_n 1, 1) := by decide +kernel
theorem dL_law_142 : decode cL_law 142 = .ok (.aload_n 2, 1) := by decide +kernel
theorem dL_law_143 : decode cL_law 143 = .ok (.invokestatic 195, 3) := by decide +kernel
theorem dL_law_146 : decode cL_law 146 = .ok (.ifCond .ne 5, 3) := by decide +kernel
theorem dL_law_149 : decode cL_law 149 = .ok (.iconst 0, 1) := by decide +kernel
theorem dL_law_150 : decode cL_law 150 = .ok (.ireturn, 1) := by decide +kernel
theorem dL_law_151 : decode cL_law 151 = .ok (.iinc 3 1, 3) := by decide +kernel
theorem dL_law_154 : decode cL_law 154 = .ok (.goto (-101), 3) := by decide +kernel
theorem dL_law_157 : decode cL_law 157 = .ok (.aload_n 1, 1) := by decide +kernel
theorem dL_law_158 : decode cL_law 158 = .ok (.aload_n 2, 1) := by decide +kernel
theorem dL_law_159 : decode cL_law 159 = .ok (.invokestatic 195, 3) := by decide +kernel
theorem dL_law_162 : decode cL_law 162 = .ok (.ifCond .eq 77, 3) := by decide +kernel
theorem dL_law_165 : decode cL_law 165 = .ok (.aload_n 1, 1) := by decide +kernel
theorem dL_law_166 : decode cL_law 166 = .ok (.aload_n 2, 1) := by decide +kernel
theorem dL_law_167 : decode cL_law 167 = .ok (.iconst 0, 1) := by decide +kernel
theorem dL_law_168 : decode cL_law 168 = .ok (.iaload, 1) := by decide +kernel
theorem dL_law_169 : decode cL_law 169 = .ok (.iconst 0, 1) := by decide +kernel
theorem dL_law_170 : decode cL_law 170 = .ok (.invokestatic 95, 3) := by decide +kernel
theorem dL_law_173 : decode cL_law 173 = .ok (.ldc 63, 2) := by decide +kernel
theorem dL_law_175 : decode cL_law 175 = .ok (.if_icmp .ne 64, 3) := by decide +kernel
theorem dL_law_178 : decode cL_law 178 = .ok (.aload_n 1, 1) := by decide +kernel
theorem dL_law_179 : decode cL_law 179 = .ok (.iconst 0, 1) := by decide +kernel
theorem dL_law_180 : decode cL_law 180 = .ok (.bipush 15, 2) := by decide +kernel
theorem dL_law_182 : decode cL_law 182 = .ok (.invokestatic 95, 3) := by decide +kernel
theorem dL_law_185 : decode cL_law 185 = .ok (.ldc 64, 2) := by decide +kernel
theorem dL_law_187 : decode cL_law 187 = .ok (.if_icmp .ne 52, 3) := by decide +kernel
theorem dL_law_190 : decode cL_law 190 = .ok (.aload_n 1, 1) := by decide +kernel
theorem dL_law_191 : decode cL_law 191 = .ok (.iconst 0, 1) := by decide +kernel
theorem dL_law_192 : decode cL_law 192 = .ok (.invokestatic 132, 3) := by decide +kernel
theorem dL_law_195 : decode cL_law 195 = .ok (.bipush (-4), 2) := by decide +kernel
theorem dL_law_197 : decode cL_law 197 = .ok (.if_icmp .ne 42, 3) := by decide +kernel
theorem dL_law_200 : decode cL_law 200 = .ok (.aload_n 1, 1) := by decide +kernel
theorem dL_law_201 : decode cL_law 201 = .ok (.iconst 0, 1) := by decide +kernel
theorem dL_law_202 : decode cL_law 202 = .ok (.iconst 0, 1) := by decide +kernel
theorem dL_law_203 : decode cL_law 203 = .ok (.iconst 0, 1) := by decide +kernel
theorem dL_law_204 : decode cL_law 204 = .ok (.invokestatic 126, 3) := by decide +kernel
theorem dL_law_207 : decode cL_law 207 = .ok (.bipush (-4), 2) := by decide +kernel
theorem dL_law_209 : decode cL_law 209 = .ok (.if_icmp .ne 30, 3) := by decide +kernel
theorem dL_law_212 : decode cL_law 212 = .ok (.aload_n 1, 1) := by decide +kernel
theorem dL_law_213 : decode cL_law 213 = .ok (.bipush 10, 2) := by decide +kernel
theorem dL_law_215 : decode cL_law 215 = .ok (.iconst 0, 1) := by decide +kernel
theorem dL_law_216 : decode cL_law 216 = .ok (.iconst 0, 1) := by decide +kernel
theorem dL_law_217 : decode cL_law 217 = .ok (.invokestatic 112, 3) := by decide +kernel
theorem dL_law_220 : decode cL_law 220 = .ok (.bipush (-3), 2) := by decide +kernel
theorem dL_law_222 : decode cL_law 222 = .ok (.if_icmp .ne 17, 3) := by decide +kernel
theorem dL_law_225 : decode cL_law 225 = .ok (.aload_n 1, 1) := by decide +kernel
theorem dL_law_226 : decode cL_law 226 = .ok (.iconst 4, 1) := by decide +kernel
theorem dL_law_227 : decode cL_law 227 = .ok (.invokestatic 116, 3) := by decide +kernel
theorem dL_law_230 : decode cL_law 230 = .ok (.bipush (-3), 2) := by decide +kernel
theorem dL_law_232 : decode cL_law 232 = .ok (.if_icmp .ne 7, 3) := by decide +kernel
theorem dL_law_235 : decode cL_law 235 = .ok (.iconst 1, 1) := by decide +kernel
theorem dL_law_236 : decode cL_law 236 = .ok (.goto 4, 3) := by decide +kernel
theorem dL_law_239 : decode cL_law 239 = .ok (.iconst 0, 1) := by decide +kernel
theorem dL_law_240 : decode cL_law 240 = .ok (.ireturn, 1) := by decide +kernel
theorem dL_cell_0 : decode cL_cell 0 = .ok (.iload_n 1, 1) := by decide +kernel
theorem dL_cell_1 : decode cL_cell 1 = .ok (.aload_n 0, 1) := by decide +kernel
theorem dL_cell_2 : decode cL_cell 2 = .ok (.arraylength, 1) := by decide +kernel
theorem dL_cell_3 : decode cL_cell 3 = .ok (.if_icmp .ge 9, 3) := by decide +kernel
theorem dL_cell_6 : decode cL_cell 6 = .ok (.aload_n 0, 1) := by decide +kernel
theorem dL_cell_7 : decode cL_cell 7 = .ok (.iload_n 1, 1) := by decide +kernel
theorem dL_cell_8 : decode cL_cell 8 = .ok (.iaload, 1) := by decide +kernel
theorem dL_cell_9 : decode cL_cell 9 = .ok (.goto 11, 3) := by decide +kernel
theorem dL_cell_12 : decode cL_cell 12 = .ok (.ldc 7, 2) := by decide +kernel
theorem dL_cell_14 : decode cL_cell 14 = .ok (.iload_n 1, 1) := by decide +kernel
theorem dL_cell_15 : decode cL_cell 15 = .ok (.imul, 1) := by decide +kernel
theorem dL_cell_16 : decode cL_cell 16 = .ok (.sipush 2017, 3) := by decide +kernel
theorem dL_cell_19 : decode cL_cell 19 = .ok (.iadd, 1) := by decide +kernel
theorem dL_cell_20 : decode cL_cell 20 = .ok (.ireturn, 1) := by decide +kernel

def cellO (L : Nat) (xs : Nat → Int32) (i : Int32) : Option Int32 := if i < 0 then none else some (if Int32.ofNat L ≤ i then (2752577:Int32) * i + (2017:Int32) else xs i.toNatClampNeg)
theorem bdA {a x c d m : Nat} (k : d ≤ c) (h : a + (x + c + 0) ≤ m) : a + d ≤ m := Nat.le_trans (Nat.add_le_add_left (Nat.le_trans k (Nat.le_add_left c x)) a) h
theorem bdB {a n k c m p q: Nat} (e : p + q ≤ k) (h : a + ((n + 1) * k + c + 0) ≤ m) : a + p + q + (n * k + c + 0) ≤ m := by rw [Nat.succ_mul] at h; omega
def lwC (s : State) (bS L : Nat) (xs : Nat → Int32) (b : Nat × Nat) : Prop := va_X bS L xs s s.heap ∧ bS < s.heap.size ∧ s.heap.size ≤ b.2 ∧ L ≤ 260
def lwPp (D : cD) (b : Nat × Nat) (V : lwS) (bS L : Nat) (xs : Nat → Int32) (av : List Value) : Array Value → State → Prop := va_Pc av (fun U => (lwI D b V U.heap ∧ cK D U ∧ cZ (lwO b) U U.heap ∧ lNc U) ∧ va_X bS L xs U U.heap ∧ bS < U.heap.size ∧ ¬ cReg (lwO b) bS)
section LP6
variable {p : Program} {l : Launch} {e : Env} {R : Room} {s : State} {m : MethodId} {args : Array Value} {below : List Frame} {meth : Method} {c : Code} {H : Heap} {locs : List Loc} {cells slots fR mC mS lR : Nat} {Q : State → Prop} {cc : ByteArray} {pc : Nat} {ls : Array Slot} {rest : List Value} {D : cD} {Φ Φ1 : cG} {nL : Nat} {S : cS} {ret : Option FieldType} {own : String} {b : Nat × Nat} {V V' : lwS}
theorem lwC.nr {bS L : Nat} {xs : Nat → Int32} (CX : lwC s bS L xs b) : ¬ cReg (lwO b) bS := fun h => by
  have h1 : b.2 ≤ bS := h.1
  have := CX.2.1; have := CX.2.2.1
  omega
theorem lp_blind {bS L : Nat} {xs : Nat → Int32} {av : List Value} : FrameBlind (lwPp D b V bS L xs av) := fun a U g mk q => by
  obtain ⟨q0, ⟨q1, q2, q3, q4⟩, q5, q6⟩ := q
  exact ⟨q0, ⟨q1, cK.same (u := U) (U := U.calling g mk a) rfl q2, cZ.moved (u := U) (U := U.calling g mk a) (Vm.Alike.refl U.vm) q3, q4.moved (u := U) (U := U.calling g mk a) (Vm.Alike.refl U.vm)⟩, q5.moved (u := U) (U := U.calling g mk a) (Vm.Alike.refl U.vm), q6⟩
theorem lp_pre {bS L : Nat} {xs : Nat → Int32} {av : List Value} (X : lwX p s m args meth c cc nL ret D b) (CX : lwC s bS L xs b) (hI : lwI D b V H) (hS : va_S (cReg (lwO b)) s.heap H locs) : ∀ U : State, U.heap = H → s.WarmedH U.vm → lwPp D b V bS L xs av av.toArray U := fun U hU hW => by
  have h9 := lw_pre (av := av) X hI hS U hU hW
  refine ⟨h9.1, h9.2, ?_, ?_, CX.nr⟩
  · rw [hU]
    exact (CX.1.kept (hS.2.1 bS CX.2.1 CX.nr)).moved hW.alike
  · rw [hU]
    exact Nat.lt_of_lt_of_le CX.2.1 hS.1
theorem l_runP {y : MethodName} {cy : ByteArray} {maxL : Nat} {rt : Option FieldType} {fr mc ms lo idx n : Nat} {Qc : Array Value → State → Outcome → State → Prop} {free : Addr → Prop} {As st0 : List Value} {bS L : Nat} {xs : Nat → Int32} (X : lwX p s m args meth c cc nL ret D b) (hM : Met l y (Cond.code y cy maxL rt :: BG) (rA fr mc ms lo) (lwPp D b V bS L xs As) Qc mc ms free) (CX : lwC s bS L xs b)
    (hw : Cond.methodLink "CascaderyLaw" idx y ∈ BG ∧ Cond.static y ∈ BG ∧ Cond.initialized y.cls ∈ BG ∧ Cond.code y cy maxL rt ∈ BG)
    (hy : y.cls ≠ "java/lang/invoke/MethodHandle" ∧ y.cls ≠ "java/lang/invoke/VarHandle" ∧ (parseMethodDescriptor y.desc).map (fun d => d.parameters.length) = some n) (hn : As.length = n)
    (hr : fr + 1 ≤ fR ∧ 8 + (maxL + 11) + lo ≤ lR) (hI : lwI D b V H) (hS : va_S (cReg (lwO b)) s.heap H locs) (hl : ls.size = nL) (hW : rest.length ≤ 4) (hdg : decode cc pc = .ok (.invokestatic idx, 3)) (hst : st0 = As.reverse ++ rest) (hf : cells + mc ≤ mC ∧ slots + ms ≤ mS) :
    va_Run p l e (rA fR mC mS lR) s m args below meth c H locs cells slots mc ms (F0 m pc ls st0) rest (Qc As.toArray) free := by
  subst hst
  have hG : GoodIn BG (va_wsS "CascaderyLaw" idx y (Cond.code y cy maxL rt :: BG)) := bg_all (fun w h => by
    rcases List.mem_append.mp h with h | h
    · rcases List.mem_cons.mp h with rfl | h
      · exact hw.1
      · rcases List.mem_cons.mp h with rfl | h
        · exact hw.2.1
        · rw [List.mem_singleton.mp h]
          exact hw.2.2.1
    · rcases List.mem_cons.mp h with rfl | h
      · exact hw.2.2.2
      · exact h)
  exact va_runS (As := As) (rest := rest) (n := n) ⟨X.1.1, X.1.2.1, X.1.2.2.1, X.1.2.2.2.1, X.1.2.2.2.2.1⟩ hM (va_cwS n X.1.2.2.2.2.1 hG rfl rfl rfl hy hr) ⟨lp_blind, lp_pre X CX hI hS⟩ rfl hn hl rfl (lv_room (c_sum rest hW)) hdg hf
end LP6
theorem cellO_in {L : Nat} {xs : Nat → Int32} {i v : Int32} (hL : L ≤ 260) (h : cellO L xs i = some v) : (Int32.ofNat L ≤ i → v = (2752577:Int32) * i + (2017:Int32)) ∧ (¬ Int32.ofNat L ≤ i → vp_in i L ∧ v = xs i.toNatClampNeg) := by
  unfold cellO at h
  by_cases h0 : i < 0
  · rw [if_pos h0] at h; cases h
  · rw [if_neg h0] at h
    have h := Option.some.inj h
    refine ⟨fun c => by rw [if_pos c] at h; exact h.symm, fun c => ⟨fun z => ?_, by rw [if_neg c] at h; exact h.symm⟩⟩
    rcases z with z | z
    · exact h0 z
    · apply c
      rw [Int32.le_iff_toInt_le]
      have h1 : (Int32.ofNat L).toInt = L := Int32.toInt_ofNat_of_lt (by omega)
      rw [h1]
      have h2 : i.toNatClampNeg = i.toInt.toNat := rfl
      rw [Int32.lt_iff_toInt_lt] at h0
      have h3 : (0 : Int32).toInt = 0 := rfl
      omega
set_option maxHeartbeats 4000000 in
theorem K_L_cell (l : Launch) (D : cD) (b : Nat × Nat) (V : lwS) (bS L : Nat) (xs : Nat → Int32) (i : Int32) (hL : L ≤ 260) {v : Int32} (h : cellO L xs i = some v) : Met l yL_cell (Cond.code yL_cell cL_cell 2 (some .int) :: BG) (rA 0 0 0 0) (lwPp D b V bS L xs [.ref bS, .int i]) (lwQ D b V (some (.int v))) 0 0 (cReg (lwO b)) := by
  refine Met.ofW (cc := cL_cell) (maxL := 2) (ret := (some .int)) (by decide) rfl ?_
  intro p e s m args below meth c s₁ B hml hv
  obtain ⟨rfl, ⟨hI, hK, hZ, hN⟩, hXX, hbS, hnr⟩ := hv
  have X : lwX p s m [Value.ref bS, Value.int i].toArray meth c cL_cell 2 (some .int) D b := lwX_of B hml hK hZ hN rfl
  have hx := X.1.1
  have hb := X.1.2.1
  have hown := X.1.2.2.2.1
  have hts := X.1.2.2.2.2.1
  have hl := lv_entry [Value.ref bS, Value.int i] (n := 2) (by simp only [lgs_r, lgs_i, lgs_l, lgs_0, lgs_x, List.length]; exact Nat.le_of_ble_eq_true rfl)
  rw [lg_entry_eq]
  generalize (lg_sl [Value.ref bS, Value.int i] ++ List.replicate (2 - (lg_sl [Value.ref bS, Value.int i]).length) Slot.unset).toArray = ls at hl ⊢
  simp only [lv_args_r, lv_args_i, lv_args_l, lv_args_0, lv_args_x] at hl
  have hl : lv_has ls 2 [(0, .ref bS), (1, .int i)] := hl
  have hS : va_S (cReg (lwO b)) s.heap s.heap [] := va_S.rf
  obtain ⟨k1, k2⟩ := cellO_in hL h
  show W p l e (rA 0 0 0 0) s m [Value.ref bS, Value.int i].toArray below meth c s.heap [] 0 0 (MQ below (lwQ D b V (some (.int v))) [Value.ref bS, Value.int i].toArray s 0 0 (cReg (lwO b))) (F0 m 0 ls [])
  refine lv_iload_n hx hb dL_cell_0 rfl (lv_at hl 1 rfl) ?_
  refine lv_aload_n hx hb dL_cell_1 rfl (lv_at hl 0 rfl) ?_
  refine va_slen hx hb hXX hbS hnr hS dL_cell_2 ?_
  refine lv_icmp_ge (tgt := 12) hx hb dL_cell_3 rfl (fun hc => ?_) (fun hc => ?_)
  · refine lv_ldc hx hb hown (hts _ w_623) dL_cell_12 ?_
    refine lv_iload_n hx hb dL_cell_14 rfl (lv_at hl 1 rfl) ?_
    refine lv_imul hx hb dL_cell_15 ?_
    refine lv_sipush (v := (2017:Int32)) hx hb dL_cell_16 (by decide) ?_
    refine lv_iadd hx hb dL_cell_19 ?_
    rw [k1 hc]
    exact l_ri X hI hS (Nat.zero_le _) (Nat.zero_le _) dL_cell_20
  · refine lv_aload_n hx hb dL_cell_6 rfl (lv_at hl 0 rfl) ?_
    refine lv_iload_n hx hb dL_cell_7 rfl (lv_at hl 1 rfl) ?_
    refine va_sld hx hb hXX hbS hnr hS (k2 hc).1 dL_cell_8 ?_
    refine lv_goto (tgt := 20) hx hb dL_cell_9 rfl ?_
    rw [(k2 hc).2]
    exact l_ri X hI hS (Nat.zero_le _) (Nat.zero_le _) dL_cell_20
theorem ww_L_cell : Cond.static yL_cell ∈ BG ∧ Cond.initialized (yL_cell).cls ∈ BG ∧ Cond.code yL_cell cL_cell 2 (some .int) ∈ BG := ⟨w_621, w_55, w_622⟩
theorem hy_L_cell : (yL_cell).cls ≠ "java/lang/invoke/MethodHandle" ∧ (yL_cell).cls ≠ "java/lang/invoke/VarHandle" ∧ (parseMethodDescriptor (yL_cell).desc).map (fun d => d.parameters.length) = some 2 := ⟨by decide, by decide, by decide +kernel⟩
def P_L_law_240 (L : Nat) (xs : Nat → Int32)  (y0 : Int32) (V : lwS) : Prop := y0 = 1
def P_L_law_239 (L : Nat) (xs : Nat → Int32)   (V : lwS) : Prop := P_L_law_240 L xs ((0:Int32)) V
def P_L_law_151 (L : Nat) (xs : Nat → Int32) (k53 : Nat → Int32 → lwS → Prop) (x2 : Nat) (x3 : Int32) (V : lwS) : Prop := k53 (x2) ((x3 + (1:Int32))) V
def P_L_law_132 (L : Nat) (xs : Nat → Int32) (k53 : Nat → Int32 → lwS → Prop) (x2 : Nat) (x3 : Int32) (x4 : Int32) (V : lwS) : Prop := (∃ v1, (f_L_low (x4) ((4:Int32)) V) = some v1 ∧ if v1.1 = (0:Int32) then ((∃ v2, (f_L_asks (x2) v1.2) = some v2 ∧ if v2.1 = (0:Int32) then ((0:Int32) = 1) else (P_L_law_151 L xs k53 (x2) (x3) v2.2))) else (P_L_law_151 L xs k53 (x2) (x3) v1.2))
def P_L_law_53 (L : Nat) (xs : Nat → Int32)  : Nat → Nat → Int32 → lwS → Prop
  | 0, _, _, _ => False
  | n + 1, x2, x3, V => if (30:Int32) ≤ x3 then ((∃ v1, (f_L_asks (x2) V) = some v1 ∧ if v1.1 = (0:Int32) then (P_L_law_239 L xs v1.2) else ((∃ v2, (ldA v1.2 x2 (0:Int32)) = some v2 ∧ (∃ v3, (f_L_value (v2) ((0:Int32)) v1.2) = some v3 ∧ if v3.1 = ((-2000002):Int32) then ((∃ v4, (f_L_value ((0:Int32)) ((15:Int32)) v3.2) = some v4 ∧ if v4.1 = ((-2000003):Int32) then ((∃ v5, (f_L_takes ((0:Int32)) v4.2) = some v5 ∧ if v5.1 = ((-4):Int32) then ((∃ v6, (f_L_puts ((0:Int32)) ((0:Int32)) ((0:Int32)) v5.2) = some v6 ∧ if v6.1 = ((-4):Int32) then ((∃ v7, (f_L_tests ((10:Int32)) ((0:Int32)) ((0:Int32)) v6.2) = some v7 ∧ if v7.1 = ((-3):Int32) then ((∃ v8, (f_L_joins ((4:Int32)) v7.2) = some v8 ∧ if v8.1 = ((-3):Int32) then (P_L_law_240 L xs ((1:Int32)) v8.2) else (P_L_law_239 L xs v8.2))) else (P_L_law_239 L xs v7.2))) else (P_L_law_239 L xs v6.2))) else (P_L_law_239 L xs v5.2))) else (P_L_law_239 L xs v4.2))) else (P_L_law_239 L xs v3.2)))))) else ((∃ v9, (cellO L xs (((2:Int32) * x3))) = some v9 ∧ (∃ v10, (cellO L xs ((((2:Int32) * x3) + (1:Int32)))) = some v10 ∧ (∃ q11 : Nat → lwS, (∀ a, (V).2.2 a = none → f_L_tell (x2) a V = some (a, q11 a)) ∧ ∀ a11, (V).2.2 a11 = none → (∃ v12, (f_L_low ((v9 >>> ((3:Int32) &&& 31))) ((16:Int32)) (q11 a11)) = some v12 ∧ (∃ v13, (f_L_act (x2) (v10) (v12.1) v12.2) = some v13 ∧ if ((-1):Int32) ≤ v13.1 then (P_L_law_132 L xs (P_L_law_53 L xs n) (x2) (x3) (v9) v13.2) else (if v13.1 ≤ ((-9):Int32) then (P_L_law_132 L xs (P_L_law_53 L xs n) (x2) (x3) (v9) v13.2) else ((∃ q14 : Nat → lwS, (∀ a, (v13.2).2.2 a = none → f_L_tell (x2) a v13.2 = some (a, q14 a)) ∧ ∀ a14, (v13.2).2.2 a14 = none → (∃ v15, (f_L_same (a11) (a14) (q14 a14)) = some v15 ∧ if v15.1 = (0:Int32) then ((0:Int32) = 1) else (P_L_law_132 L xs (P_L_law_53 L xs n) (x2) (x3) (v9) v15.2)))))))))))
def P_L_law_19 (L : Nat) (xs : Nat → Int32)  : Nat → Nat → Int32 → lwS → Prop
  | 0, _, _, _ => False
  | n + 1, x2, x3, V => if (4:Int32) ≤ x3 then (P_L_law_53 L xs 31 (x2) ((0:Int32)) V) else ((∃ v1, (f_L_make (x2) (((1:Int32) + x3)) V) = some v1 ∧ (∃ v2, (dv x3 (2:Int32)) = some v2 ∧ (∃ v3, (f_L_puts ((x3 + (1:Int32))) (v2) ((0:Int32)) v1.2) = some v3 ∧ P_L_law_19 L xs n (x2) ((x3 + (1:Int32))) v3.2))))
set_option maxRecDepth 200000 in
set_option maxHeartbeats 4000000 in
theorem N_L_law_240 {p : Program} {l : Launch} {e : Env} {s : State} {m : MethodId} {args : Array Value} {below : List Frame} {meth : Method} {c : Code} {D : cD} {b : Nat × Nat}   {y0 : Int32} {V : lwS} {H : Heap} {locs : List Loc} {cells slots : Nat} {ls : Array Slot}  {bS L mC mS : Nat} {xs : Nat → Int32} {Q : State → Prop} (X : lwX p s m args meth c cL_law 8 (some .boolean) D b) (hl9 : l.stackTraces = false) (CX : lwC s bS L xs b) (hX : ∀ {v : Int32} {V : lwS} {H : Heap} {locs : List Loc} {cells slots : Nat} {ls : Array Slot}, v = 1 → lwI D b V H → va_S (cReg (lwO b)) s.heap H locs → cells ≤ mC → slots ≤ mS → W p l e (rA 13 mC mS 500) s m args below meth c H locs cells slots Q (F0 m 240 ls [.int v])) (hI : lwI D b V H) (hS : va_S (cReg (lwO b)) s.heap H locs) (hBc : cells + (0 + 0) ≤ mC) (hBs : slots + (0 + 0) ≤ mS)  (hl : lv_has ls 8 []) (h : P_L_law_240 L xs  y0 V) : W p l e (rA 13 mC mS 500) s m args below meth c H locs cells slots Q (F0 m 240 ls [.int y0]) := by
  have hx := X.1.1
  have hb := X.1.2.1
  have hown := X.1.2.2.2.1
  have hts := X.1.2.2.2.2.1
  have h : (y0 = 1) := h
  exact hX h hI hS (by omega) (by omega)
set_option maxRecDepth 200000 in
set_option maxHeartbeats 4000000 in
theorem N_L_law_239 {p : Program} {l : Launch} {e : Env} {s : State} {m : MethodId} {args : Array Value} {below : List Frame} {meth : Method} {c : Code} {D : cD} {b : Nat × Nat}    {V : lwS} {H : Heap} {locs : List Loc} {cells slots : Nat} {ls : Array Slot}  {bS L mC mS : Nat} {xs : Nat → Int32} {Q : State → Prop} (X : lwX p s m args meth c cL_law 8 (some .boolean) D b) (hl9 : l.stackTraces = false) (CX : lwC s bS L xs b) (hX : ∀ {v : Int32} {V : lwS} {H : Heap} {locs : List Loc} {cells slots : Nat} {ls : Array Slot}, v = 1 → lwI D b V H → va_S (cReg (lwO b)) s.heap H locs → cells ≤ mC → slots ≤ mS → W p l e (rA 13 mC mS 500) s m args below meth c H locs cells slots Q (F0 m 240 ls [.int v])) (hI : lwI D b V H) (hS : va_S (cReg (lwO b)) s.heap H locs) (hBc : cells + (0 + 0) ≤ mC) (hBs : slots + (0 + 0) ≤ mS)  (hl : lv_has ls 8 []) (h : P_L_law_239 L xs   V) : W p l e (rA 13 mC mS 500) s m args below meth c H locs cells slots Q (F0 m 239 ls []) := by
  have hx := X.1.1
  have hb := X.1.2.1
  have hown := X.1.2.2.2.1
  have hts := X.1.2.2.2.2.1
  have h : (P_L_law_240 L xs ((0:Int32)) V) := h
  refine lv_iconst (v := (0:Int32)) hx hb dL_law_239 (by decide) ?_
  exact N_L_law_240 X hl9 CX hX hI hS (by omega) (by omega) (lv_sub hl [] rfl) h
set_option maxRecDepth 200000 in
set_option maxHeartbeats 4000000 in
theorem N_L_law_151 {p : Program} {l : Launch} {e : Env} {s : State} {m : MethodId} {args : Array Value} {below : List Frame} {meth : Method} {c : Code} {D : cD} {b : Nat × Nat} {k53 : Nat → Int32 → lwS → Prop}  {r53 t53 : Nat} {x2 : Nat} {x3 : Int32} {V : lwS} {H : Heap} {locs : List Loc} {cells slots : Nat} {ls : Array Slot}  {bS L mC mS : Nat} {xs : Nat → Int32} {Q : State → Prop} (X : lwX p s m args meth c cL_law 8 (some .boolean) D b) (hl9 : l.stackTraces = false) (CX : lwC s bS L xs b) (hX : ∀ {v : Int32} {V : lwS} {H : Heap} {locs : List Loc} {cells slots : Nat} {ls : Array Slot}, v = 1 → lwI D b V H → va_S (cReg (lwO b)) s.heap H locs → cells ≤ mC → slots ≤ mS → W p l e (rA 13 mC mS 500) s m args below meth c H locs cells slots Q (F0 m 240 ls [.int v])) (hI : lwI D b V H) (hS : va_S (cReg (lwO b)) s.heap H locs) (hBc : cells + (0 + r53) ≤ mC) (hBs : slots + (0 + t53) ≤ mS) (hk53 : ∀ {x2 : Nat} {x3 : Int32} {V : lwS} {H : Heap} {locs : List Loc} {cells slots : Nat} {ls : Array Slot}, lwI D b V H → va_S (cReg (lwO b)) s.heap H locs → cells + r53 ≤ mC → slots + t53 ≤ mS → lv_has ls 8 [(0, .ref bS), (1, cv (lwO b) (some 1)), (2, .ref x2), (3, .int x3)] → k53 x2 x3 V → W p l e (rA 13 mC mS 500) s m args below meth c H locs cells slots Q (F0 m 53 ls [])) (hl : lv_has ls 8 [(0, .ref bS), (1, cv (lwO b) (some 1)), (2, .ref x2), (3, .int x3)]) (h : P_L_law_151 L xs k53 x2 x3 V) : W p l e (rA 13 mC mS 500) s m args below meth c H locs cells slots Q (F0 m 151 ls []) := by
  have hx := X.1.1
  have hb := X.1.2.1
  have hown := X.1.2.2.2.1
  have hts := X.1.2.2.2.2.1
  have h : (k53 (x2) ((x3 + (1:Int32))) V) := h
  refine c_iinc (v := (x3 + (1:Int32))) hx hb dL_law_151 hl (k := 3) rfl rfl (Nat.le_of_ble_eq_true rfl) (lvKa rfl (lvKa rfl (lvKx (lvKa rfl lvK0)))) rfl (fun ls (hl : lv_has ls 8 [(3, .int (x3 + (1:Int32))), (0, .ref bS), (1, cv (lwO b) (some 1)), (2, .ref x2)]) => ?_)
  refine lv_goto (tgt := 53) hx hb dL_law_154 rfl ?_
  exact hk53 hI hS (by omega) (by omega) (lv_sub hl [1, 2, 3, 0] rfl) h
set_option maxRecDepth 200000 in
set_option maxHeartbeats 4000000 in
theorem N_L_law_132 {p : Program} {l : Launch} {e : Env} {s : State} {m : MethodId} {args : Array Value} {below : List Frame} {meth : Method} {c : Code} {D : cD} {b : Nat × Nat} {k53 : Nat → Int32 → lwS → Prop}  {r53 t53 : Nat} {x2 : Nat} {x3 : Int32} {x4 : Int32} {V : lwS} {H : Heap} {locs : List Loc} {cells slots : Nat} {ls : Array Slot}  {bS L mC mS : Nat} {xs : Nat → Int32} {Q : State → Prop} (X : lwX p s m args meth c cL_law 8 (some .boolean) D b) (hl9 : l.stackTraces = false) (CX : lwC s bS L xs b) (hX : ∀ {v : Int32} {V : lwS} {H : Heap} {locs : List Loc} {cells slots : Nat} {ls : Array Slot}, v = 1 → lwI D b V H → va_S (cReg (lwO b)) s.heap H locs → cells ≤ mC → slots ≤ mS → W p l e (rA 13 mC mS 500) s m args below meth c H locs cells slots Q (F0 m 240 ls [.int v])) (hI : lwI D b V H) (hS : va_S (cReg (lwO b)) s.heap H locs) (hBc : cells + (2915 + r53) ≤ mC) (hBs : slots + (17490 + t53) ≤ mS) (hk53 : ∀ {x2 : Nat} {x3 : Int32} {V : lwS} {H : Heap} {locs : List Loc} {cells slots : Nat} {ls : Array Slot}, lwI D b V H → va_S (cReg (lwO b)) s.heap H locs → cells + r53 ≤ mC → slots + t53 ≤ mS → lv_has ls 8 [(0, .ref bS), (1, cv (lwO b) (some 1)), (2, .ref x2), (3, .int x3)] → k53 x2 x3 V → W p l e (rA 13 mC mS 500) s m args below meth c H locs cells slots Q (F0 m 53 ls [])) (hl : lv_has ls 8 [(0, .ref bS), (1, cv (lwO b) (some 1)), (2, .ref x2), (3, .int x3), (4, .int x4)]) (h : P_L_law_132 L xs k53 x2 x3 x4 V) : W p l e (rA 13 mC mS 500) s m args below meth c H locs cells slots Q (F0 m 132 ls []) := by
  have hx := X.1.1
  have hb := X.1.2.1
  have hown := X.1.2.2.2.1
  have hts := X.1.2.2.2.2.1
  have h : ((∃ v1, (f_L_low (x4) ((4:Int32)) V) = some v1 ∧ if v1.1 = (0:Int32) then ((∃ v2, (f_L_asks (x2) v1.2) = some v2 ∧ if v2.1 = (0:Int32) then ((0:Int32) = 1) else (P_L_law_151 L xs k53 (x2) (x3) v2.2))) else (P_L_law_151 L xs k53 (x2) (x3) v1.2))) := h
  refine lv_iload hx hb dL_law_132 (lv_at hl 4 rfl) ?_
  refine lv_iconst (v := (4:Int32)) hx hb dL_law_134 (by decide) ?_
  obtain ⟨v1, hv1, h⟩ := h
  refine l_after (l_runS X (K_L_low l hl9 D b V (x4) ((4:Int32)) (v := v1.1) (V' := v1.2) hv1) ⟨w_624, ww_L_low⟩ hy_L_low rfl ⟨(Nat.le_of_ble_eq_true rfl), (Nat.le_of_ble_eq_true rfl)⟩ hI hS hl.1 (Nat.le_of_ble_eq_true rfl) dL_law_135 rfl ⟨by omega, by omega⟩) hS (fun H locs hI hS => ?_)
  refine W.eq (g2 := F0 m 138 ls [.int v1.1]) rfl ?_
  refine lv_if_ne (tgt := 151) hx hb dL_law_138 rfl (fun hc => ?_) (fun hc => ?_)
  · have h := ineP hc h
    exact N_L_law_151 (r53 := r53) (t53 := t53) X hl9 CX hX hI hS (by omega) (by omega) hk53 (lv_sub hl [0, 1, 2, 3] rfl) h
  · have h := ipP hc h
    refine c_aload_n hx hb dL_law_141 rfl (lv_at hl 1 rfl) ?_
    refine lv_aload_n hx hb dL_law_142 rfl (lv_at hl 2 rfl) ?_
    obtain ⟨v2, hv2, h⟩ := h
    refine l_after (l_runS X (K_L_asks l hl9 D b v1.2 (x2) (v := v2.1) (V' := v2.2) hv2) ⟨w_1164, ww_L_asks⟩ hy_L_asks rfl ⟨(Nat.le_of_ble_eq_true rfl), (Nat.le_of_ble_eq_true rfl)⟩ hI hS hl.1 (Nat.le_of_ble_eq_true rfl) dL_law_143 rfl ⟨by omega, by omega⟩) hS (fun H locs hI hS => ?_)
    refine W.eq (g2 := F0 m 146 ls [.int v2.1]) rfl ?_
    refine lv_if_ne (tgt := 151) hx hb dL_law_146 rfl (fun hc => ?_) (fun hc => ?_)
    · have h := ineP hc h
      exact N_L_law_151 (r53 := r53) (t53 := t53) X hl9 CX hX hI hS (by omega) (by omega) hk53 (lv_sub hl [0, 1, 2, 3] rfl) h
    · have h := ipP hc h
      refine lv_iconst (v := (0:Int32)) hx hb dL_law_149 (by decide) ?_
      exact absurd h (by decide)
set_option maxRecDepth 200000 in
set_option maxHeartbeats 4000000 in
theorem N_L_law_53 {p : Program} {l : Launch} {e : Env} {s : State} {m : MethodId} {args : Array Value} {below : List Frame} {meth : Method} {c : Code} {D : cD} {b : Nat × Nat}  {n : Nat} {x2 : Nat} {x3 : Int32} {V : lwS} {H : Heap} {locs : List Loc} {cells slots : Nat} {ls : Array Slot}  {bS L mC mS : Nat} {xs : Nat → Int32} {Q : State → Prop} (X : lwX p s m args meth c cL_law 8 (some .boolean) D b) (hl9 : l.stackTraces = false) (CX : lwC s bS L xs b) (hX : ∀ {v : Int32} {V : lwS} {H : Heap} {locs : List Loc} {cells slots : Nat} {ls : Array Slot}, v = 1 → lwI D b V H → va_S (cReg (lwO b)) s.heap H locs → cells ≤ mC → slots ≤ mS → W p l e (rA 13 mC mS 500) s m args below meth c H locs cells slots Q (F0 m 240 ls [.int v])) (hI : lwI D b V H) (hS : va_S (cReg (lwO b)) s.heap H locs) (hBc : cells + (n * 3253 + 3253 + 0) ≤ mC) (hBs : slots + (n * 8000 + n * 8000 + n * 3689 + 19689 + 0) ≤ mS)  (hl : lv_has ls 8 [(0, .ref bS), (1, cv (lwO b) (some 1)), (2, .ref x2), (3, .int x3)]) (h : P_L_law_53 L xs  n x2 x3 V) : W p l e (rA 13 mC mS 500) s m args below meth c H locs cells slots Q (F0 m 53 ls []) := by
  have hx := X.1.1
  have hb := X.1.2.1
  have hown := X.1.2.2.2.1
  have hts := X.1.2.2.2.2.1
  induction n generalizing x2 x3 V H locs cells slots ls with
  | zero => exact h.elim
  | succ n ih =>
    have h : (if (30:Int32) ≤ x3 then ((∃ v1, (f_L_asks (x2) V) = some v1 ∧ if v1.1 = (0:Int32) then (P_L_law_239 L xs v1.2) else ((∃ v2, (ldA v1.2 x2 (0:Int32)) = some v2 ∧ (∃ v3, (f_L_value (v2) ((0:Int32)) v1.2) = some v3 ∧ if v3.1 = ((-2000002):Int32) then ((∃ v4, (f_L_value ((0:Int32)) ((15:Int32)) v3.2) = some v4 ∧ if v4.1 = ((-2000003):Int32) then ((∃ v5, (f_L_takes ((0:Int32)) v4.2) = some v5 ∧ if v5.1 = ((-4):Int32) then ((∃ v6, (f_L_puts ((0:Int32)) ((0:Int32)) ((0:Int32)) v5.2) = some v6 ∧ if v6.1 = ((-4):Int32) then ((∃ v7, (f_L_tests ((10:Int32)) ((0:Int32)) ((0:Int32)) v6.2) = some v7 ∧ if v7.1 = ((-3):Int32) then ((∃ v8, (f_L_joins ((4:Int32)) v7.2) = some v8 ∧ if v8.1 = ((-3):Int32) then (P_L_law_240 L xs ((1:Int32)) v8.2) else (P_L_law_239 L xs v8.2))) else (P_L_law_239 L xs v7.2))) else (P_L_law_239 L xs v6.2))) else (P_L_law_239 L xs v5.2))) else (P_L_law_239 L xs v4.2))) else (P_L_law_239 L xs v3.2)))))) else ((∃ v9, (cellO L xs (((2:Int32) * x3))) = some v9 ∧ (∃ v10, (cellO L xs ((((2:Int32) * x3) + (1:Int32)))) = some v10 ∧ (∃ q11 : Nat → lwS, (∀ a, (V).2.2 a = none → f_L_tell (x2) a V = some (a, q11 a)) ∧ ∀ a11, (V).2.2 a11 = none → (∃ v12, (f_L_low ((v9 >>> ((3:Int32) &&& 31))) ((16:Int32)) (q11 a11)) = some v12 ∧ (∃ v13, (f_L_act (x2) (v10) (v12.1) v12.2) = some v13 ∧ if ((-1):Int32) ≤ v13.1 then (P_L_law_132 L xs (P_L_law_53 L xs n) (x2) (x3) (v9) v13.2) else (if v13.1 ≤ ((-9):Int32) then (P_L_law_132 L xs (P_L_law_53 L xs n) (x2) (x3) (v9) v13.2) else ((∃ q14 : Nat → lwS, (∀ a, (v13.2).2.2 a = none → f_L_tell (x2) a v13.2 = some (a, q14 a)) ∧ ∀ a14, (v13.2).2.2 a14 = none → (∃ v15, (f_L_same (a11) (a14) (q14 a14)) = some v15 ∧ if v15.1 = (0:Int32) then ((0:Int32) = 1) else (P_L_law_132 L xs (P_L_law_53 L xs n) (x2) (x3) (v9) v15.2)))))))))))) := h
    refine lv_iload_n hx hb dL_law_53 rfl (lv_at hl 3 rfl) ?_
    refine lv_bipush (v := (30:Int32)) hx hb dL_law_54 (by decide) ?_
    refine lv_icmp_ge (tgt := 157) hx hb dL_law_56 rfl (fun hc => ?_) (fun hc => ?_)
    · have h := ipP hc h
      refine c_aload_n hx hb dL_law_157 rfl (lv_at hl 1 rfl) ?_
      refine lv_aload_n hx hb dL_law_158 rfl (lv_at hl 2 rfl) ?_
      obtain ⟨v1, hv1, h⟩ := h
      refine l_after (l_runS X (K_L_asks l hl9 D b V (x2) (v := v1.1) (V' := v1.2) hv1) ⟨w_1164, ww_L_asks⟩ hy_L_asks rfl ⟨(Nat.le_of_ble_eq_true rfl), (Nat.le_of_ble_eq_true rfl)⟩ hI hS hl.1 (Nat.le_of_ble_eq_true rfl) dL_law_159 rfl ⟨by omega, by omega⟩) hS (fun H locs hI hS => ?_)
      refine W.eq (g2 := F0 m 162 ls [.int v1.1]) rfl ?_
      refine lv_if_eq (tgt := 239) hx hb dL_law_162 rfl (fun hc => ?_) (fun hc => ?_)
      · have h := ipP hc h
        exact N_L_law_239 X hl9 CX hX hI hS (by omega) (by omega) (lv_sub hl [] rfl) h
      · have h := ineP hc h
        refine c_aload_n hx hb dL_law_165 rfl (lv_at hl 1 rfl) ?_
        refine lv_aload_n hx hb dL_law_166 rfl (lv_at hl 2 rfl) ?_
        refine lv_iconst (v := (0:Int32)) hx hb dL_law_167 (by decide) ?_
        obtain ⟨v2, hv2, h⟩ := h
        refine l_ald X hI hv2 dL_law_168 ?_
        refine lv_iconst (v := (0:Int32)) hx hb dL_law_169 (by decide) ?_
        obtain ⟨v3, hv3, h⟩ := h
        refine l_after (l_runW X (K_L_value l hl9 D b v1.2 (v2) ((0:Int32)) (v := v3.1) (V' := v3.2) hv3) ⟨w_890, ww_L_value⟩ hy_L_value rfl ⟨(Nat.le_of_ble_eq_true rfl), (Nat.le_of_ble_eq_true rfl)⟩ hI hS hl.1 (Nat.le_of_ble_eq_true rfl) dL_law_170 rfl ⟨by omega, by omega⟩) hS (fun H locs hI hS => ?_)
        refine W.eq (g2 := F0 m 173 ls [.int v3.1]) rfl ?_
        refine lv_ldc hx hb hown (hts _ w_1106) dL_law_173 ?_
        refine lv_icmp_ne (tgt := 239) hx hb dL_law_175 rfl (fun hc => ?_) (fun hc => ?_)
        · have h := ineP hc h
          exact N_L_law_239 X hl9 CX hX hI hS (by omega) (by omega) (lv_sub hl [] rfl) h
        · have h := ipP hc h
          refine c_aload_n hx hb dL_law_178 rfl (lv_at hl 1 rfl) ?_
          refine lv_iconst (v := (0:Int32)) hx hb dL_law_179 (by decide) ?_
          refine lv_bipush (v := (15:Int32)) hx hb dL_law_180 (by decide) ?_
          obtain ⟨v4, hv4, h⟩ := h
          refine l_after (l_runW X (K_L_value l hl9 D b v3.2 ((0:Int32)) ((15:Int32)) (v := v4.1) (V' := v4.2) hv4) ⟨w_890, ww_L_value⟩ hy_L_value rfl ⟨(Nat.le_of_ble_eq_true rfl), (Nat.le_of_ble_eq_true rfl)⟩ hI hS hl.1 (Nat.le_of_ble_eq_true rfl) dL_law_182 rfl ⟨by omega, by omega⟩) hS (fun H locs hI hS => ?_)
          refine W.eq (g2 := F0 m 185 ls [.int v4.1]) rfl ?_
          refine lv_ldc hx hb hown (hts _ w_1107) dL_law_185 ?_
          refine lv_icmp_ne (tgt := 239) hx hb dL_law_187 rfl (fun hc => ?_) (fun hc => ?_)
          · have h := ineP hc h
            exact N_L_law_239 X hl9 CX hX hI hS (by omega) (by omega) (lv_sub hl [] rfl) h
          · have h := ipP hc h
            refine c_aload_n hx hb dL_law_190 rfl (lv_at hl 1 rfl) ?_
            refine lv_iconst (v := (0:Int32)) hx hb dL_law_191 (by decide) ?_
            obtain ⟨v5, hv5, h⟩ := h
            refine l_after (l_runW X (K_L_takes l hl9 D b v4.2 ((0:Int32)) (v := v5.1) (V' := v5.2) hv5) ⟨w_838, ww_L_takes⟩ hy_L_takes rfl ⟨(Nat.le_of_ble_eq_true rfl), (Nat.le_of_ble_eq_true rfl)⟩ hI hS hl.1 (Nat.le_of_ble_eq_true rfl) dL_law_192 rfl ⟨by omega, by omega⟩) hS (fun H locs hI hS => ?_)
            refine W.eq (g2 := F0 m 195 ls [.int v5.1]) rfl ?_
            refine lv_bipush (v := ((-4):Int32)) hx hb dL_law_195 (by decide) ?_
            refine lv_icmp_ne (tgt := 239) hx hb dL_law_197 rfl (fun hc => ?_) (fun hc => ?_)
            · have h := ineP hc h
              exact N_L_law_239 X hl9 CX hX hI hS (by omega) (by omega) (lv_sub hl [] rfl) h
            · have h := ipP hc h
              refine c_aload_n hx hb dL_law_200 rfl (lv_at hl 1 rfl) ?_
              refine lv_iconst (v := (0:Int32)) hx hb dL_law_201 (by decide) ?_
              refine lv_iconst (v := (0:Int32)) hx hb dL_law_202 (by decide) ?_
              refine lv_iconst (v := (0:Int32)) hx hb dL_law_203 (by decide) ?_
              obtain ⟨v6, hv6, h⟩ := h
              refine l_after (l_runW X (K_L_puts l hl9 D b v5.2 ((0:Int32)) ((0:Int32)) ((0:Int32)) (v := v6.1) (V' := v6.2) hv6) ⟨w_726, ww_L_puts⟩ hy_L_puts rfl ⟨(Nat.le_of_ble_eq_true rfl), (Nat.le_of_ble_eq_true rfl)⟩ hI hS hl.1 (Nat.le_of_ble_eq_true rfl) dL_law_204 rfl ⟨by omega, by omega⟩) hS (fun H locs hI hS => ?_)
              refine W.eq (g2 := F0 m 207 ls [.int v6.1]) rfl ?_
              refine lv_bipush (v := ((-4):Int32)) hx hb dL_law_207 (by decide) ?_
              refine lv_icmp_ne (tgt := 239) hx hb dL_law_209 rfl (fun hc => ?_) (fun hc => ?_)
              · have h := ineP hc h
                exact N_L_law_239 X hl9 CX hX hI hS (by omega) (by omega) (lv_sub hl [] rfl) h
              · have h := ipP hc h
                refine c_aload_n hx hb dL_law_212 rfl (lv_at hl 1 rfl) ?_
                refine lv_bipush (v := (10:Int32)) hx hb dL_law_213 (by decide) ?_
                refine lv_iconst (v := (0:Int32)) hx hb dL_law_215 (by decide) ?_
                refine lv_iconst (v := (0:Int32)) hx hb dL_law_216 (by decide) ?_
                obtain ⟨v7, hv7, h⟩ := h
                refine l_after (l_runW X (K_L_tests l hl9 D b v6.2 ((10:Int32)) ((0:Int32)) ((0:Int32)) (v := v7.1) (V' := v7.2) hv7) ⟨w_849, ww_L_tests⟩ hy_L_tests rfl ⟨(Nat.le_of_ble_eq_true rfl), (Nat.le_of_ble_eq_true rfl)⟩ hI hS hl.1 (Nat.le_of_ble_eq_true rfl) dL_law_217 rfl ⟨by omega, by omega⟩) hS (fun H locs hI hS => ?_)
                refine W.eq (g2 := F0 m 220 ls [.int v7.1]) rfl ?_
                refine lv_bipush (v := ((-3):Int32)) hx hb dL_law_220 (by decide) ?_
                refine lv_icmp_ne (tgt := 239) hx hb dL_law_222 rfl (fun hc => ?_) (fun hc => ?_)
                · have h := ineP hc h
                  exact N_L_law_239 X hl9 CX hX hI hS (by omega) (by omega) (lv_sub hl [] rfl) h
                · have h := ipP hc h
                  refine c_aload_n hx hb dL_law_225 rfl (lv_at hl 1 rfl) ?_
                  refine lv_iconst (v := (4:Int32)) hx hb dL_law_226 (by decide) ?_
                  obtain ⟨v8, hv8, h⟩ := h
                  refine l_after (l_runW X (K_L_joins l hl9 D b v7.2 ((4:Int32)) (v := v8.1) (V' := v8.2) hv8) ⟨w_879, ww_L_joins⟩ hy_L_joins rfl ⟨(Nat.le_of_ble_eq_true rfl), (Nat.le_of_ble_eq_true rfl)⟩ hI hS hl.1 (Nat.le_of_ble_eq_true rfl) dL_law_227 rfl ⟨by omega, by omega⟩) hS (fun H locs hI hS => ?_)
                  refine W.eq (g2 := F0 m 230 ls [.int v8.1]) rfl ?_
                  refine lv_bipush (v := ((-3):Int32)) hx hb dL_law_230 (by decide) ?_
                  refine lv_icmp_ne (tgt := 239) hx hb dL_law_232 rfl (fun hc => ?_) (fun hc => ?_)
                  · have h := ineP hc h
                    exact N_L_law_239 X hl9 CX hX hI hS (by omega) (by omega) (lv_sub hl [] rfl) h
                  · have h := ipP hc h
                    refine lv_iconst (v := (1:Int32)) hx hb dL_law_235 (by decide) ?_
                    refine lv_goto (tgt := 240) hx hb dL_law_236 rfl ?_
                    exact N_L_law_240 X hl9 CX hX hI hS (by omega) (by omega) (lv_sub hl [] rfl) h
    · have h := ineP hc h
      refine lv_aload_n hx hb dL_law_59 rfl (lv_at hl 0 rfl) ?_
      refine lv_iconst (v := (2:Int32)) hx hb dL_law_60 (by decide) ?_
      refine lv_iload_n hx hb dL_law_61 rfl (lv_at hl 3 rfl) ?_
      refine lv_imul hx hb dL_law_62 ?_
      obtain ⟨v9, hv9, h⟩ := h
      refine l_after (l_runP X (K_L_cell l D b V bS L xs (((2:Int32) * x3)) CX.2.2.2 hv9) CX ⟨w_620, ww_L_cell⟩ hy_L_cell rfl ⟨(Nat.le_of_ble_eq_true rfl), (Nat.le_of_ble_eq_true rfl)⟩ hI hS hl.1 (Nat.le_of_ble_eq_true rfl) dL_law_63 rfl ⟨by omega, by omega⟩) hS (fun H locs hI hS => ?_)
      refine W.eq (g2 := F0 m 66 ls [.int v9]) rfl ?_
      refine c_istore hx hb dL_law_66 hl (Nat.le_of_ble_eq_true rfl) (lvKa rfl (lvKa rfl (lvKa rfl (lvKi lvK0)))) rfl (fun ls (hl : lv_has ls 8 [(4, .int v9), (0, .ref bS), (1, cv (lwO b) (some 1)), (2, .ref x2), (3, .int x3)]) => ?_)
      refine lv_aload_n hx hb dL_law_68 rfl (lv_at hl 1 rfl) ?_
      refine lv_iconst (v := (2:Int32)) hx hb dL_law_69 (by decide) ?_
      refine lv_iload_n hx hb dL_law_70 rfl (lv_at hl 4 rfl) ?_
      refine lv_imul hx hb dL_law_71 ?_
      refine lv_iconst (v := (1:Int32)) hx hb dL_law_72 (by decide) ?_
      refine lv_iadd hx hb dL_law_73 ?_
      obtain ⟨v10, hv10, h⟩ := h
      refine l_after (l_runP X (K_L_cell l D b V bS L xs ((((2:Int32) * x3) + (1:Int32))) CX.2.2.2 hv10) CX ⟨w_620, ww_L_cell⟩ hy_L_cell rfl ⟨(Nat.le_of_ble_eq_true rfl), (Nat.le_of_ble_eq_true rfl)⟩ hI hS hl.1 (Nat.le_of_ble_eq_true rfl) dL_law_74 rfl ⟨by omega, by omega⟩) hS (fun H locs hI hS => ?_)
      refine W.eq (g2 := F0 m 77 ls [.int v10]) rfl ?_
      refine c_istore hx hb dL_law_77 hl (Nat.le_of_ble_eq_true rfl) (lvKi (lvKa rfl (lvKa rfl (lvKa rfl (lvKa rfl lvK0))))) rfl (fun ls (hl : lv_has ls 8 [(5, .int v10), (4, .int v9), (0, .ref bS), (1, cv (lwO b) (some 1)), (2, .ref x2), (3, .int x3)]) => ?_)
      refine c_aload_n hx hb dL_law_79 rfl (lv_at hl 3 rfl) ?_
      refine lv_aload_n hx hb dL_law_80 rfl (lv_at hl 4 rfl) ?_
      obtain ⟨q11, hq11, h⟩ := h
      refine l_afterT (l_runS X (K_L_tell l hl9 D b V (x2) hq11) ⟨w_1109, ww_L_tell⟩ hy_L_tell rfl ⟨(Nat.le_of_ble_eq_true rfl), (Nat.le_of_ble_eq_true rfl)⟩ hI hS hl.1 (Nat.le_of_ble_eq_true rfl) dL_law_81 rfl ⟨by omega, by omega⟩) hS (fun a11 H locs hna11 hI hS => ?_)
      have h := h a11 hna11
      refine W.eq (g2 := F0 m 84 ls [.ref a11]) rfl ?_
      refine lx_astore hx hb dL_law_84 hl (Nat.le_of_ble_eq_true rfl) (lvKi (lvKa rfl (lvKa rfl (lvKa rfl (lvKa rfl (lvKa rfl lvK0)))))) rfl (fun ls (hl : lv_has ls 8 [(6, .ref a11), (5, .int v10), (4, .int v9), (0, .ref bS), (1, cv (lwO b) (some 1)), (2, .ref x2), (3, .int x3)]) => ?_)
      refine c_aload_n hx hb dL_law_86 rfl (lv_at hl 4 rfl) ?_
      refine lv_aload_n hx hb dL_law_87 rfl (lv_at hl 5 rfl) ?_
      refine lv_iload hx hb dL_law_88 (lv_at hl 1 rfl) ?_
      refine lv_iload hx hb dL_law_90 (lv_at hl 2 rfl) ?_
      refine lv_iconst (v := (3:Int32)) hx hb dL_law_92 (by decide) ?_
      refine lv_ishr hx hb dL_law_93 ?_
      refine lv_bipush (v := (16:Int32)) hx hb dL_law_94 (by decide) ?_
      obtain ⟨v12, hv12, h⟩ := h
      refine l_after (l_runS X (K_L_low l hl9 D b (q11 a11) ((v9 >>> ((3:Int32) &&& 31))) ((16:Int32)) (v := v12.1) (V' := v12.2) hv12) ⟨w_624, ww_L_low⟩ hy_L_low rfl ⟨(Nat.le_of_ble_eq_true rfl), (Nat.le_of_ble_eq_true rfl)⟩ hI hS hl.1 (Nat.le_of_ble_eq_true rfl) dL_law_96 rfl ⟨by omega, by omega⟩) hS (fun H locs hI hS => ?_)
      refine W.eq (g2 := F0 m 99 ls [.int v12.1, .int v10, .ref x2, cv (lwO b) (some 1)]) rfl ?_
      obtain ⟨v13, hv13, h⟩ := h
      refine l_after (l_runS X (K_L_act l hl9 D b v12.2 (x2) (v10) (v12.1) (v := v13.1) (V' := v13.2) hv13) ⟨w_1196, ww_L_act⟩ hy_L_act rfl ⟨(Nat.le_of_ble_eq_true rfl), (Nat.le_of_ble_eq_true rfl)⟩ hI hS hl.1 (Nat.le_of_ble_eq_true rfl) dL_law_99 rfl ⟨by omega, by omega⟩) hS (fun H locs hI hS => ?_)
      refine W.eq (g2 := F0 m 102 ls [.int v13.1]) rfl ?_
      refine c_istore hx hb dL_law_102 hl (Nat.le_of_ble_eq_true rfl) (lvKx (lvKa rfl (lvKa rfl (lvKa rfl (lvKa rfl (lvKa rfl (lvKa rfl lvK0))))))) rfl (fun ls (hl : lv_has ls 8 [(7, .int v13.1), (6, .ref a11), (5, .int v10), (4, .int v9), (0, .ref bS), (1, cv (lwO b) (some 1)), (2, .ref x2), (3, .int x3)]) => ?_)
      refine lv_iload hx hb dL_law_104 (lv_at hl 0 rfl) ?_
      refine lv_iconst (v := ((-1):Int32)) hx hb dL_law_106 (by decide) ?_
      refine lv_icmp_ge (tgt := 132) hx hb dL_law_107 rfl (fun hc => ?_) (fun hc => ?_)
      · have h := ipP hc h
        exact N_L_law_132 (r53 := (n * 3253 + 3253 + 0)) (t53 := (n * 8000 + n * 8000 + n * 3689 + 19689 + 0)) X hl9 CX hX hI hS (by omega) (by omega) (fun hI hS h1 h2 hl h => ih hI hS (by omega) (by omega) hl h) (lv_sub hl [4, 5, 6, 7, 3] rfl) h
      · have h := ineP hc h
        refine lv_iload hx hb dL_law_110 (lv_at hl 0 rfl) ?_
        refine lv_bipush (v := ((-9):Int32)) hx hb dL_law_112 (by decide) ?_
        refine lv_icmp_le (tgt := 132) hx hb dL_law_114 rfl (fun hc => ?_) (fun hc => ?_)
        · have h := ipP hc h
          exact N_L_law_132 (r53 := (n * 3253 + 3253 + 0)) (t53 := (n * 8000 + n * 8000 + n * 3689 + 19689 + 0)) X hl9 CX hX hI hS (by omega) (by omega) (fun hI hS h1 h2 hl h => ih hI hS (by omega) (by omega) hl h) (lv_sub hl [4, 5, 6, 7, 3] rfl) h
        · have h := ineP hc h
          refine lv_aload hx hb dL_law_117 (lv_at hl 1 rfl) ?_
          refine c_aload_n hx hb dL_law_119 rfl (lv_at hl 5 rfl) ?_
          refine lv_aload_n hx hb dL_law_120 rfl (lv_at hl 6 rfl) ?_
          obtain ⟨q14, hq14, h⟩ := h
          refine l_afterT (l_runS X (K_L_tell l hl9 D b v13.2 (x2) hq14) ⟨w_1109, ww_L_tell⟩ hy_L_tell rfl ⟨(Nat.le_of_ble_eq_true rfl), (Nat.le_of_ble_eq_true rfl)⟩ hI hS hl.1 (Nat.le_of_ble_eq_true rfl) dL_law_121 rfl ⟨by omega, by omega⟩) hS (fun a14 H locs hna14 hI hS => ?_)
          have h := h a14 hna14
          refine W.eq (g2 := F0 m 124 ls [.ref a14, .ref a11]) rfl ?_
          obtain ⟨v15, hv15, h⟩ := h
          refine l_after (l_runS X (K_L_same l hl9 D b (q14 a14) (a11) (a14) (v := v15.1) (V' := v15.2) hv15) ⟨w_1161, ww_L_same⟩ hy_L_same rfl ⟨(Nat.le_of_ble_eq_true rfl), (Nat.le_of_ble_eq_true rfl)⟩ hI hS hl.1 (Nat.le_of_ble_eq_true rfl) dL_law_124 rfl ⟨by omega, by omega⟩) hS (fun H locs hI hS => ?_)
          refine W.eq (g2 := F0 m 127 ls [.int v15.1]) rfl ?_
          refine lv_if_ne (tgt := 132) hx hb dL_law_127 rfl (fun hc => ?_) (fun hc => ?_)
          · have h := ineP hc h
            exact N_L_law_132 (r53 := (n * 3253 + 3253 + 0)) (t53 := (n * 8000 + n * 8000 + n * 3689 + 19689 + 0)) X hl9 CX hX hI hS (by omega) (by omega) (fun hI hS h1 h2 hl h => ih hI hS (by omega) (by omega) hl h) (lv_sub hl [4, 5, 6, 7, 3] rfl) h
          · have h := ipP hc h
            refine lv_iconst (v := (0:Int32)) hx hb dL_law_130 (by decide) ?_
            exact absurd h (by decide)
set_option maxRecDepth 200000 in
set_option maxHeartbeats 4000000 in
theorem N_L_law_19 {p : Program} {l : Launch} {e : Env} {s : State} {m : MethodId} {args : Array Value} {below : List Frame} {meth : Method} {c : Code} {D : cD} {b : Nat × Nat}  {n : Nat} {x2 : Nat} {x3 : Int32} {V : lwS} {H : Heap} {locs : List Loc} {cells slots : Nat} {ls : Array Slot}  {bS L mC mS : Nat} {xs : Nat → Int32} {Q : State → Prop} (X : lwX p s m args meth c cL_law 8 (some .boolean) D b) (hl9 : l.stackTraces = false) (CX : lwC s bS L xs b) (hX : ∀ {v : Int32} {V : lwS} {H : Heap} {locs : List Loc} {cells slots : Nat} {ls : Array Slot}, v = 1 → lwI D b V H → va_S (cReg (lwO b)) s.heap H locs → cells ≤ mC → slots ≤ mS → W p l e (rA 13 mC mS 500) s m args below meth c H locs cells slots Q (F0 m 240 ls [.int v])) (hI : lwI D b V H) (hS : va_S (cReg (lwO b)) s.heap H locs) (hBc : cells + (n * 17 + 104096 + 0) ≤ mC) (hBs : slots + (n * 175 + 630048 + 0) ≤ mS)  (hl : lv_has ls 8 [(0, .ref bS), (1, cv (lwO b) (some 1)), (2, .ref x2), (3, .int x3)]) (h : P_L_law_19 L xs  n x2 x3 V) : W p l e (rA 13 mC mS 500) s m args below meth c H locs cells slots Q (F0 m 19 ls []) := by
  have hx := X.1.1
  have hb := X.1.2.1
  have hown := X.1.2.2.2.1
  have hts := X.1.2.2.2.2.1
  induction n generalizing x2 x3 V H locs cells slots ls with
  | zero => exact h.elim
  | succ n ih =>
    have h : (if (4:Int32) ≤ x3 then (P_L_law_53 L xs 31 (x2) ((0:Int32)) V) else ((∃ v1, (f_L_make (x2) (((1:Int32) + x3)) V) = some v1 ∧ (∃ v2, (dv x3 (2:Int32)) = some v2 ∧ (∃ v3, (f_L_puts ((x3 + (1:Int32))) (v2) ((0:Int32)) v1.2) = some v3 ∧ P_L_law_19 L xs n (x2) ((x3 + (1:Int32))) v3.2))))) := h
    refine lv_iload_n hx hb dL_law_19 rfl (lv_at hl 3 rfl) ?_
    refine lv_iconst (v := (4:Int32)) hx hb dL_law_20 (by decide) ?_
    refine lv_icmp_ge (tgt := 51) hx hb dL_law_21 rfl (fun hc => ?_) (fun hc => ?_)
    · have h := ipP hc h
      refine lv_iconst (v := (0:Int32)) hx hb dL_law_51 (by decide) ?_
      refine c_istore_n hx hb dL_law_52 rfl hl (Nat.le_of_ble_eq_true rfl) (lvKa rfl (lvKa rfl (lvKx (lvKa rfl lvK0)))) rfl (fun ls (hl : lv_has ls 8 [(3, .int (0:Int32)), (0, .ref bS), (1, cv (lwO b) (some 1)), (2, .ref x2)]) => ?_)
      exact N_L_law_53 X hl9 CX hX hI hS (bdA (Nat.le_of_ble_eq_true rfl) hBc) (bdA (Nat.le_of_ble_eq_true rfl) hBs) (lv_sub hl [1, 2, 3, 0] rfl) h
    · have h := ineP hc h
      refine c_aload_n hx hb dL_law_24 rfl (lv_at hl 1 rfl) ?_
      refine lv_aload_n hx hb dL_law_25 rfl (lv_at hl 2 rfl) ?_
      refine lv_iconst (v := (1:Int32)) hx hb dL_law_26 (by decide) ?_
      refine lv_iload_n hx hb dL_law_27 rfl (lv_at hl 3 rfl) ?_
      refine lv_iadd hx hb dL_law_28 ?_
      obtain ⟨v1, hv1, h⟩ := h
      refine l_after (l_runS X (K_L_make l hl9 D b V (x2) (((1:Int32) + x3)) (v := v1.1) (V' := v1.2) hv1) ⟨w_628, ww_L_make⟩ hy_L_make rfl ⟨(Nat.le_of_ble_eq_true rfl), (Nat.le_of_ble_eq_true rfl)⟩ hI hS hl.1 (Nat.le_of_ble_eq_true rfl) dL_law_29 rfl ⟨by omega, by omega⟩) hS (fun H locs hI hS => ?_)
      refine W.eq (g2 := F0 m 32 ls [.int v1.1]) rfl ?_
      refine lv_pop hx hb dL_law_32 rfl ?_
      refine c_aload_n hx hb dL_law_33 rfl (lv_at hl 1 rfl) ?_
      refine lv_iload_n hx hb dL_law_34 rfl (lv_at hl 3 rfl) ?_
      refine lv_iconst (v := (1:Int32)) hx hb dL_law_35 (by decide) ?_
      refine lv_iadd hx hb dL_law_36 ?_
      refine lv_iload_n hx hb dL_law_37 rfl (lv_at hl 3 rfl) ?_
      refine lv_iconst (v := (2:Int32)) hx hb dL_law_38 (by decide) ?_
      obtain ⟨v2, hv2, h⟩ := h
      obtain ⟨hnv2, hev2⟩ := dv_spec hv2
      refine lv_idiv hx hb dL_law_39 hnv2 ?_
      rw [hev2]
      refine lv_iconst (v := (0:Int32)) hx hb dL_law_40 (by decide) ?_
      obtain ⟨v3, hv3, h⟩ := h
      refine l_after (l_runW X (K_L_puts l hl9 D b v1.2 ((x3 + (1:Int32))) (v2) ((0:Int32)) (v := v3.1) (V' := v3.2) hv3) ⟨w_726, ww_L_puts⟩ hy_L_puts rfl ⟨(Nat.le_of_ble_eq_true rfl), (Nat.le_of_ble_eq_true rfl)⟩ hI hS hl.1 (Nat.le_of_ble_eq_true rfl) dL_law_41 rfl ⟨by omega, by omega⟩) hS (fun H locs hI hS => ?_)
      refine W.eq (g2 := F0 m 44 ls [.int v3.1]) rfl ?_
      refine lv_pop hx hb dL_law_44 rfl ?_
      refine c_iinc (v := (x3 + (1:Int32))) hx hb dL_law_45 hl (k := 3) rfl rfl (Nat.le_of_ble_eq_true rfl) (lvKa rfl (lvKa rfl (lvKx (lvKa rfl lvK0)))) rfl (fun ls (hl : lv_has ls 8 [(3, .int (x3 + (1:Int32))), (0, .ref bS), (1, cv (lwO b) (some 1)), (2, .ref x2)]) => ?_)
      refine lv_goto (tgt := 19) hx hb dL_law_48 rfl ?_
      exact ih hI hS (bdB (Nat.le_of_ble_eq_true rfl) hBc) (bdB (Nat.le_of_ble_eq_true rfl) hBs) (lv_sub hl [1, 2, 3, 0] rfl) h
