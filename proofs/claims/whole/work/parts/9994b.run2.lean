/-! THE RUN OF THE LAW: 9994b.run2 -/
def lz (x : Int32) : Int32 := if x = 0 then 0 else 1
theorem lz_01 (x : Int32) : lz x = 0 ∨ lz x = 1 := by
  unfold lz
  by_cases h : x = 0
  · rw [if_pos h]; exact Or.inl rfl
  · rw [if_neg h]; exact Or.inr rfl
theorem lg_cmp_self (x : Int64) : lg_cmp x x = 0 := by
  unfold lg_cmp
  rw [if_neg (by simp [gt_iff_lt, Int64.lt_iff_toInt_lt]), if_pos rfl]
def lWd (D : cD) (Φ : cG) (Dm : mD) (mb o : Nat) (cL : ClassId) (H0 : Heap) (S : cS) (σ : mS) (w : Int64) (H : Heap) : Prop := cP D Φ S H ∧ mP Dm mb σ H ∧ lO o cL w H ∧ H0.size ≤ H.size ∧ ∀ q, q < H0.size → H[q]? = H0[q]?
def lX (p : Program) (s : State) (m : MethodId) (args : Array Value) (meth : Method) (c : Code) (D : cD) (Φ : cG) (Dm : mD) (mb o : Nat) (cL : ClassId) (b L : Nat) (xs : Nat → Int32) : Prop :=
  cX p s m args meth c cL_law 7 (some .boolean) "CascaderyLaw" D Φ ∧ mK Dm s ∧ ArrOfT s cL .long ∧ lNc s ∧ va_X b L xs s s.heap ∧ b < s.heap.size ∧ Φ.2.1 = s.heap.size ∧ Φ.2.1 ≤ Φ.2.2.1 ∧ Φ.2.2.1 = mb ∧ o = mb + 70 ∧ Φ.2.2.2 = mb + 71
theorem mP.kept {Dm : mD} {mb : Nat} {σ : mS} {H H1 : Heap} (h : mP Dm mb σ H) (e : ∀ q, mb ≤ q → q < mb + 70 → q < H.size → H1[q]? = H[q]?) : mP Dm mb σ H1 := by
  obtain ⟨h1, h2⟩ := h
  refine ⟨?_, fun f hf => ?_⟩
  · have h9 := h1
    obtain ⟨cell, q1, -⟩ := h9
    exact h1.kept (e mb (Nat.le_refl _) (by omega) (Array.getElem?_eq_some_iff.mp q1).1)
  · have hr := mA_reg (mb := mb) hf
    rw [e _ hr.1 hr.2 (Array.getElem?_eq_some_iff.mp (h2 f hf)).1]
    exact h2 f hf
section LB
variable {p : Program} {l : Launch} {e : Env} {s : State} {m : MethodId} {args : Array Value} {below : List Frame} {meth : Method} {c : Code} {H : Heap} {cells slots : Nat} {Q : State → Prop} {pc : Nat} {ls : Array Slot} {rest : List Value} {D : cD} {Φ : cG} {Dm : mD} {mb o : Nat} {cL : ClassId} {b L : Nat} {xs : Nat → Int32} {S : cS} {σ : mS} {w : Int64}
theorem lX.lo (X : lX p s m args meth c D Φ Dm mb o cL b L xs) : s.heap.size ≤ mb ∧ o = mb + 70 := by
  obtain ⟨-, -, -, -, -, -, h1, h2, h3, h4, h5⟩ := X
  omega
theorem lX.reg (X : lX p s m args meth c D Φ Dm mb o cL b L xs) {q : Nat} (h : cReg Φ q) : s.heap.size ≤ q ∧ ¬ (mb ≤ q ∧ q < mb + 71) := by
  obtain ⟨-, -, -, -, -, -, h1, h2, h3, h4, h5⟩ := X
  obtain ⟨g1, g2⟩ := h
  rw [h3, h5] at g2
  exact ⟨by omega, g2⟩
theorem lWd.cls (X : lX p s m args meth c D Φ Dm mb o cL b L xs) (Wd : lWd D Φ Dm mb o cL s.heap S σ w H) {S1 : cS} {w1 : Int64} {H1 : Heap} (hP : cP D Φ S1 H1) (hO : lO o cL w1 H1) (z : H.size ≤ H1.size) (hq : ∀ q, q < H.size → ¬ lA Φ o q → H1[q]? = H[q]?) : lWd D Φ Dm mb o cL s.heap S1 σ w1 H1 := by
  obtain ⟨g1, g2, g3, g4, g5⟩ := Wd
  have hlo := X.lo
  refine ⟨hP, g2.kept (fun q h1 h2 h3 => hq q h3 (fun h => ?_)), hO, Nat.le_trans g4 z, fun q h => (hq q (Nat.lt_of_lt_of_le h g4) (fun h9 => ?_)).trans (g5 q h)⟩
  · rcases h with h | h
    · exact (X.reg h).2 ⟨h1, by omega⟩
    · omega
  · rcases h9 with h9 | h9
    · have := (X.reg h9).1
      omega
    · omega
theorem lWd.mod (X : lX p s m args meth c D Φ Dm mb o cL b L xs) (Wd : lWd D Φ Dm mb o cL s.heap S σ w H) {σ1 : mS} {H1 : Heap} (hP : mP Dm mb σ1 H1) (z : H1.size = H.size) (hq : ∀ q, ¬ mReg mb q → H1[q]? = H[q]?) : lWd D Φ Dm mb o cL s.heap S σ1 w H1 := by
  have hlo := X.lo
  obtain ⟨g1, g2, g3, g4, g5⟩ := Wd
  obtain ⟨-, -, -, -, -, -, h1, h2, h3, h4, h5⟩ := X
  refine ⟨g1.other z (fun q hq9 => hq q (fun h => hq9 ?_)) h2, hP, g3.kept (hq o (fun h => ?_)), by rw [z]; exact g4, fun q h => (hq q (fun h9 => ?_)).trans (g5 q h)⟩
  · obtain ⟨k1, k2⟩ := h
    exact ⟨by omega, by omega⟩
  · obtain ⟨k1, k2⟩ := h
    omega
  · obtain ⟨k1, k2⟩ := h9
    omega
theorem lWd_S (X : lX p s m args meth c D Φ Dm mb o cL b L xs) (Wd : lWd D Φ Dm mb o cL s.heap S σ w H) : va_S (cReg Φ) s.heap H [] := ⟨Wd.2.2.2.1, fun q h1 _ => Wd.2.2.2.2 q h1, fun z hz => by cases hz⟩
theorem lX.pre (X : lX p s m args meth c D Φ Dm mb o cL b L xs) (Wd : lWd D Φ Dm mb o cL s.heap S σ w H) : ∀ U : State, U.heap = H → s.WarmedH U.vm → lPre D Φ S U := fun U hU hW => ⟨by rw [hU]; exact Wd.1, X.1.2.2.2.2.2.1.warm hW, by rw [hU]; exact cZ.moved hW.alike (cZ_at X.1.2.2.2.2.2.2.1 (lWd_S X Wd)), X.2.2.2.1.moved hW.alike⟩
abbrev lR : Room := rA 19 601024 7293034 872
theorem l_w1 {T : Type} {q : (Nat ⊕ T) × cS} {vl : T → Int64} {v : Int32} {y : MethodName} {cy : ByteArray} {maxL : Nat} {hh : List (Nat × Nat × Nat × Nat)} {fr mc ms lo idx n : Nat} {As st0 : List Value} (X : lX p s m args meth c D Φ Dm mb o cL b L xs) (Wd : lWd D Φ Dm mb o cL s.heap S σ w H) (hM : Met l y (Cond.codeWith y cy maxL (some .int) hh :: BG) (rA fr mc ms lo) (lPc D Φ S o cL w As) (lQ D Φ q o cL vl v) mc ms (lA Φ o)) (hw : Cond.methodLink "CascaderyLaw" idx y ∈ BG ∧ Cond.static y ∈ BG ∧ Cond.initialized y.cls ∈ BG ∧ Cond.codeWith y cy maxL (some .int) hh ∈ BG)
    (hy : y.cls ≠ "java/lang/invoke/MethodHandle" ∧ y.cls ≠ "java/lang/invoke/VarHandle" ∧ (parseMethodDescriptor y.desc).map (fun d => d.parameters.length) = some n) (hn : As.length = n) (hr : fr + 1 ≤ 19 ∧ 8 + (maxL + 11) + lo ≤ 872) (hls : ls.size = 7) (hW : rest.length ≤ 4) (hdg : decode cL_law pc = .ok (.invokestatic idx, 3)) (hst : st0 = As.reverse ++ rest) (hf : cells + mc ≤ 601024 ∧ slots + ms ≤ 7293034)
    (kk : ∀ (n9 : Nat) (w1 : Int64) (H1 : Heap), q.2.2 ≤ n9 → (∀ x, q.1 = .inr x → w1 = vl x) → lWd D Φ Dm mb o cL s.heap (q.2.1, n9) σ w1 H1 → W p l e lR s m args below meth c H1 [] (cells + mc) (slots + ms) Q (F0 m (pc + 3) ls (.int v :: rest))) : W p l e lR s m args below meth c H [] cells slots Q (F0 m pc ls st0) := by
  subst hst
  have hlo := X.lo
  have hG : GoodIn BG (va_wsS "CascaderyLaw" idx y (Cond.codeWith y cy maxL (some .int) hh :: BG)) := bg_all (fun w h => by
    rcases List.mem_append.mp h with h | h
    · rcases List.mem_cons.mp h with rfl | h
      · exact hw.1
      · rcases List.mem_cons.mp h with rfl | h
        · exact hw.2.1
        · rw [List.mem_singleton.mp h]
          exact hw.2.2.1
    · rcases List.mem_cons.mp h with rfl | h
      · exact hw.2.2.2
      · exact h)
  have hpre := X.pre Wd
  have X9 := X
  obtain ⟨⟨hx, hb, hml, hown, hts, -⟩, hmK, hAr, hN, hXs, hbl, i1, i2, i3, i4, i5⟩ := X9
  have hr9 := vx_runSW (e := e) (H := H) (locs := []) (cells := cells) (slots := slots) (below := below) (meth := meth) (R := lR) (As := As) (rest := rest) (n := n) (g := F0 m pc ls (As.reverse ++ rest)) ⟨hx, hb, hml, hown, hts⟩ hM (vx_cwSW n hts hG rfl rfl rfl hy hr) ⟨lPc_blind, fun U hU hW => ⟨rfl, hpre U hU hW, arrOfT_moved hW.alike hAr, by rw [hU]; exact Wd.2.2.1, ⟨by omega, by omega⟩, i2⟩⟩ rfl hn hls rfl (lv_room (c_sum rest hW)) hdg hf
  intro T hT XX
  obtain ⟨v', st₀, t, T', L9, h0, X', hL, e1, e2, ⟨n9, w1, hv, hn9, hp, ho, hx9, hF⟩, st⟩ := hr9 T hT XX
  cases hv
  have X2 := X'.dropFresh (locs := []) (J := L9) (fun z hz => by
    rcases hL z hz with h | h
    · exact (X.reg h).1
    · omega)
  obtain ⟨hz, hk⟩ := hF
  rw [h0] at hz hk
  obtain ⟨t2, a1, b1⟩ := kk n9 w1 T'.heap hn9 hx9 (Wd.cls X (by rw [e1]; exact hp) (by rw [e1]; exact ho) (by rw [e1]; exact hz) (fun q h1 h2 => by rw [e1]; exact hk q h1 h2)) T' rfl X2
  exact ⟨t2, st t2 a1, b1⟩
theorem l_w0 {T : Type} {q : (Nat ⊕ T) × cS} {v : Int32} {y : MethodName} {cy : ByteArray} {maxL : Nat} {hh : List (Nat × Nat × Nat × Nat)} {fr mc ms lo idx n : Nat} {As st0 : List Value} (X : lX p s m args meth c D Φ Dm mb o cL b L xs) (Wd : lWd D Φ Dm mb o cL s.heap S σ w H) (hM : Met l y (Cond.codeWith y cy maxL (some .int) hh :: BG) (rA fr mc ms lo) (lPc0 D Φ S As) (lQ0 D Φ q v) mc ms (cReg Φ)) (hw : Cond.methodLink "CascaderyLaw" idx y ∈ BG ∧ Cond.static y ∈ BG ∧ Cond.initialized y.cls ∈ BG ∧ Cond.codeWith y cy maxL (some .int) hh ∈ BG)
    (hy : y.cls ≠ "java/lang/invoke/MethodHandle" ∧ y.cls ≠ "java/lang/invoke/VarHandle" ∧ (parseMethodDescriptor y.desc).map (fun d => d.parameters.length) = some n) (hn : As.length = n) (hr : fr + 1 ≤ 19 ∧ 8 + (maxL + 11) + lo ≤ 872) (hls : ls.size = 7) (hW : rest.length ≤ 4) (hdg : decode cL_law pc = .ok (.invokestatic idx, 3)) (hst : st0 = As.reverse ++ rest) (hf : cells + mc ≤ 601024 ∧ slots + ms ≤ 7293034)
    (kk : ∀ (n9 : Nat) (H1 : Heap), q.2.2 ≤ n9 → lWd D Φ Dm mb o cL s.heap (q.2.1, n9) σ w H1 → W p l e lR s m args below meth c H1 [] (cells + mc) (slots + ms) Q (F0 m (pc + 3) ls (.int v :: rest))) : W p l e lR s m args below meth c H [] cells slots Q (F0 m pc ls st0) := by
  subst hst
  have hlo := X.lo
  have hG : GoodIn BG (va_wsS "CascaderyLaw" idx y (Cond.codeWith y cy maxL (some .int) hh :: BG)) := bg_all (fun w h => by
    rcases List.mem_append.mp h with h | h
    · rcases List.mem_cons.mp h with rfl | h
      · exact hw.1
      · rcases List.mem_cons.mp h with rfl | h
        · exact hw.2.1
        · rw [List.mem_singleton.mp h]
          exact hw.2.2.1
    · rcases List.mem_cons.mp h with rfl | h
      · exact hw.2.2.2
      · exact h)
  have hpre := X.pre Wd
  have X9 := X
  obtain ⟨⟨hx, hb, hml, hown, hts, -⟩, hmK, hAr, hN, hXs, hbl, i1, i2, i3, i4, i5⟩ := X9
  have hr9 := vx_runSW (e := e) (H := H) (locs := []) (cells := cells) (slots := slots) (below := below) (meth := meth) (R := lR) (As := As) (rest := rest) (n := n) (g := F0 m pc ls (As.reverse ++ rest)) ⟨hx, hb, hml, hown, hts⟩ hM (vx_cwSW n hts hG rfl rfl rfl hy hr) ⟨lPc0_blind, fun U hU hW => ⟨rfl, hpre U hU hW⟩⟩ rfl hn hls rfl (lv_room (c_sum rest hW)) hdg hf
  intro T hT XX
  obtain ⟨v', st₀, t, T', L9, h0, X', hL, e1, e2, ⟨n9, hv, hn9, hp, hF⟩, st⟩ := hr9 T hT XX
  cases hv
  have X2 := X'.dropFresh (locs := []) (J := L9) (fun z hz => (X.reg (hL z hz)).1)
  obtain ⟨hz, hk⟩ := hF
  rw [h0] at hz hk
  have hOl := Wd.2.2.1.lt
  obtain ⟨t2, a1, b1⟩ := kk n9 T'.heap hn9 (Wd.cls X (by rw [e1]; exact hp) (Wd.2.2.1.kept (by rw [e1]; exact hk o hOl (fun h => (X.reg h).2 ⟨by omega, by omega⟩))) (by rw [e1]; exact hz) (fun q h1 h2 => by rw [e1]; exact hk q h1 (fun h => h2 (Or.inl h)))) T' rfl X2
  exact ⟨t2, st t2 a1, b1⟩
theorem l_mrun {y : MethodName} {cy : ByteArray} {maxL : Nat} {rt : Option FieldType} {fr lo idx n : Nat} {Qc : Array Value → State → Outcome → State → Prop} {free : Addr → Prop} {As st0 : List Value} (X : lX p s m args meth c D Φ Dm mb o cL b L xs) (Wd : lWd D Φ Dm mb o cL s.heap S σ w H) (hM : Met l y (Cond.code y cy maxL rt :: BG) (rM fr lo) (mPc Dm mb σ As) Qc 0 0 free)
    (hw : Cond.methodLink "CascaderyLaw" idx y ∈ BG ∧ Cond.instanceMethod y ∈ BG ∧ Cond.selects RX12 y y ∈ BG ∧ Cond.code y cy maxL rt ∈ BG)
    (hy : y.cls = RX12 ∧ y.cls ≠ "java/lang/invoke/MethodHandle" ∧ y.cls ≠ "java/lang/invoke/VarHandle" ∧ (parseMethodDescriptor y.desc).map (fun d => d.parameters.length) = some n) (hn : As.length = n)
    (hr : fr + 1 ≤ 19 ∧ 8 + (maxL + 11) + lo ≤ 872) (hls : ls.size = 7) (hW : rest.length ≤ 4) (hdg : decode cL_law pc = .ok (.invokevirtual idx, 3)) (hst : st0 = As.reverse ++ .ref mb :: rest) (hf : cells + 0 ≤ 601024 ∧ slots + 0 ≤ 7293034) :
    va_Run p l e lR s m args below meth c H [] cells slots 0 0 (F0 m pc ls st0) rest (Qc (Value.ref mb :: As).toArray) free := by
  obtain ⟨⟨hx, hb, hml, hown, hts, -⟩, hK, -⟩ := X
  subst hst
  have hG : GoodIn BG (wsV "CascaderyLaw" idx RX12 y (Cond.code y cy maxL rt :: BG)) := bg_all (fun w h => by
    rcases List.mem_append.mp h with h | h
    · rcases List.mem_cons.mp h with rfl | h
      · exact hw.1
      · rcases List.mem_cons.mp h with rfl | h
        · exact hw.2.1
        · rcases List.mem_cons.mp h with rfl | h
          · exact hw.2.2.1
          · rw [List.mem_singleton.mp h]
            exact w_154
    · rcases List.mem_cons.mp h with rfl | h
      · exact hw.2.2.2
      · exact h)
  have hrec : ∃ cellB : Cell, H[mb]? = some cellB ∧ cellB.vm.isStatics = false ∧ s.vm.findClass RX12 = some cellB.cls := by
    obtain ⟨⟨cell, q1, q2, q3, -⟩, -⟩ := Wd.2.1
    exact ⟨cell, q1, by rw [q3]; rfl, by rw [q2]; exact hK.1.2.1⟩
  exact va_runV (As := As) (rest := rest) (C := RX12) (n := n) ⟨hx, hb, hml, hown, hts⟩ hM (cwV n hts hG rfl rfl rfl hy hr) ⟨m_blind, hrec, fun U hU hW => ⟨rfl, by rw [hU]; exact Wd.2.1, mK.moved hW.alike hK⟩⟩ rfl hn hls rfl (lv_room (c_sum rest hW)) hdg hf
theorem l_mr {r : Int32} {st0 : List Value} {a : Array Value} (hr : va_Run p l e lR s m args below meth c H [] cells slots 0 0 (F0 m pc ls st0) rest (mQr (some (.int r)) a) (fun _ => False))
    (kk : W p l e lR s m args below meth c H [] cells slots Q (F0 m (pc + 3) ls (.int r :: rest))) : W p l e lR s m args below meth c H [] cells slots Q (F0 m pc ls st0) := by
  intro T hT X
  obtain ⟨v, st₀, t, T', L, h0, X', hL, e1, e2, ⟨hv, hh⟩, st⟩ := hr T hT X
  cases hv
  have X2 := X'.dropFresh (locs := []) (J := L) (fun z hz => (hL z hz).elim)
  obtain ⟨t2, a1, b1⟩ := kk T' (by rw [e1, hh, h0]) X2
  exact ⟨t2, st t2 a1, b1⟩
theorem l_mw {r : Option Value} {σ1 : mS} {st0 : List Value} {a : Array Value} (X : lX p s m args meth c D Φ Dm mb o cL b L xs) (Wd : lWd D Φ Dm mb o cL s.heap S σ w H) (hr : va_Run p l e lR s m args below meth c H [] cells slots 0 0 (F0 m pc ls st0) rest (mQw Dm mb σ1 r a) (mReg mb))
    (kk : ∀ H1 : Heap, lWd D Φ Dm mb o cL s.heap S σ1 w H1 → W p l e lR s m args below meth c H1 [] cells slots Q (F0 m (pc + 3) ls (r.toList ++ rest))) : W p l e lR s m args below meth c H [] cells slots Q (F0 m pc ls st0) := by
  intro T hT XX
  obtain ⟨v, st₀, t, T', L9, h0, X', hL, e1, e2, ⟨hv, hp, hz, hk⟩, st⟩ := hr T hT XX
  cases hv
  have hlo := X.lo
  have X2 := X'.dropFresh (locs := []) (J := L9) (fun z hz => by
    have := (hL z hz).1
    omega)
  rw [h0] at hz hk
  obtain ⟨t2, a1, b1⟩ := kk T'.heap (Wd.mod X (by rw [e1]; exact hp) (by rw [e1]; exact hz) (fun q hq => by rw [e1]; exact hk q hq)) T' rfl X2
  exact ⟨t2, st t2 a1, b1⟩
theorem l_tern (hx : p.tables.exec = Jvm.exec) (hb : c.code = cL_law) {x : Int32} (d1 : decode cL_law pc = .ok (.ifCond .eq 7, 3)) (d2 : decode cL_law (pc + 3) = .ok (.iconst 1, 1)) (d3 : decode cL_law (pc + 4) = .ok (.goto 4, 3)) (d4 : decode cL_law (pc + 7) = .ok (.iconst 0, 1)) (kk : W p l e lR s m args below meth c H [] cells slots Q (F0 m (pc + 8) ls (.int (lz x) :: rest))) : W p l e lR s m args below meth c H [] cells slots Q (F0 m pc ls (.int x :: rest)) := by
  refine lv_if_eq (tgt := pc + 7) hx hb d1 (by omega) (fun h => ?_) (fun h => ?_)
  · refine lv_iconst (v := 0) hx hb d4 (by decide) ?_
    have e1 : lz x = 0 := if_pos h
    rw [e1] at kk
    exact kk
  · refine lv_iconst (v := 1) hx hb d2 (by decide) ?_
    refine lv_goto (tgt := pc + 8) hx hb d3 (by omega) ?_
    have e1 : lz x = 1 := if_neg h
    rw [e1] at kk
    exact kk
theorem l_ternL (hx : p.tables.exec = Jvm.exec) (hb : c.code = cL_law) {x : Int32} (d1 : decode cL_law pc = .ok (.ifCond .eq 7, 3)) (d2 : decode cL_law (pc + 3) = .ok (.lconst 1, 1)) (d3 : decode cL_law (pc + 4) = .ok (.goto 4, 3)) (d4 : decode cL_law (pc + 7) = .ok (.lconst 0, 1)) (kk : W p l e lR s m args below meth c H [] cells slots Q (F0 m (pc + 8) ls (.long (lvZ x) :: rest))) : W p l e lR s m args below meth c H [] cells slots Q (F0 m pc ls (.int x :: rest)) := by
  refine lv_if_eq (tgt := pc + 7) hx hb d1 (by omega) (fun h => ?_) (fun h => ?_)
  · refine lv_lconst (v := 0) hx hb d4 (by decide) ?_
    have e1 : lvZ x = 0 := if_pos h
    rw [e1] at kk
    exact kk
  · refine lv_lconst (v := 1) hx hb d2 (by decide) ?_
    refine lv_goto (tgt := pc + 8) hx hb d3 (by omega) ?_
    have e1 : lvZ x = 1 := if_neg h
    rw [e1] at kk
    exact kk
theorem l_lald (X : lX p s m args meth c D Φ Dm mb o cL b L xs) (Wd : lWd D Φ Dm mb o cL s.heap S σ w H) (hdg : decode cL_law pc = .ok (.laload, 1)) (kk : W p l e lR s m args below meth c H [] cells slots Q (F0 m (pc + 1) ls (.long w :: rest))) : W p l e lR s m args below meth c H [] cells slots Q (F0 m pc ls (.int 0 :: .ref o :: rest)) := by
  obtain ⟨f, hf, hc⟩ := Wd.2.2.1
  exact W.lald (v := .long w) X.1.1 X.1.2.1 hc (X.2.2.1 1 (fun j => .long (f j))) (fun z => by cases z) (by rw [arrV_size]; decide) (by show (arrV _ _ _).slots[0]? = _; rw [arrV_read _ _ (by decide), hf]) rfl rfl hdg kk
theorem l_sld (X : lX p s m args meth c D Φ Dm mb o cL b L xs) (Wd : lWd D Φ Dm mb o cL s.heap S σ w H) {i : Int32} (hin : vp_in i L) (hdg : decode cL_law pc = .ok (.iaload, 1)) (kk : W p l e lR s m args below meth c H [] cells slots Q (F0 m (pc + 1) ls (.int (xs i.toNatClampNeg) :: rest))) : W p l e lR s m args below meth c H [] cells slots Q (F0 m pc ls (.int i :: .ref b :: rest)) :=
  va_sld (A := cReg Φ) X.1.1 X.1.2.1 X.2.2.2.2.1 X.2.2.2.2.2.1 (fun h => by have := (X.reg h).1; have := X.2.2.2.2.2.1; omega) (lWd_S X Wd) hin hdg kk
end LB
