set_option maxRecDepth 100000 in
theorem w_641 : Cond.classLink "Cascadery" 203 "java/lang/IllegalArgumentException" ∈ BG := bg_in 641 (by decide +kernel) (by decide +kernel)
set_option maxRecDepth 100000 in
theorem w_69 : Cond.initialized "java/lang/IllegalArgumentException" ∈ BG := bg_in 69 (by decide +kernel) (by decide +kernel)
set_option maxRecDepth 100000 in
theorem w_707 : Cond.classLink "Cascadery" 404 "java/lang/IllegalStateException" ∈ BG := bg_in 707 (by decide +kernel) (by decide +kernel)
set_option maxRecDepth 100000 in
theorem w_70 : Cond.initialized "java/lang/IllegalStateException" ∈ BG := bg_in 70 (by decide +kernel) (by decide +kernel)
set_option maxRecDepth 100000 in
theorem w_743 : Cond.classLink "Cascadery" 206 "java/lang/IndexOutOfBoundsException" ∈ BG := bg_in 743 (by decide +kernel) (by decide +kernel)
set_option maxRecDepth 100000 in
theorem w_71 : Cond.initialized "java/lang/IndexOutOfBoundsException" ∈ BG := bg_in 71 (by decide +kernel) (by decide +kernel)
def excN (k : Nat) : String := match k with
  | 0 => "java/lang/IllegalArgumentException"
  | 1 => "java/lang/IllegalStateException"
  | _ => "java/lang/IndexOutOfBoundsException"
def cQt {T : Type} (vl : T → Option Value) (D : cD) (Φ : cG) (q : (Nat ⊕ T) × cS) : Array Value → State → Outcome → State → Prop := fun _ st o t => ∃ v, q.1 = .inr v ∧ o = .returned (vl v) ∧ cP D Φ q.2 t.heap ∧ va_F (cReg Φ) st t
def cXC {T : Type} (D : cD) (Φ : cG) (q : (Nat ⊕ T) × cS) : String → State → State → Prop := fun E st t => ∃ k n, q.1 = .inl k ∧ E = excN k ∧ q.2.2 ≤ n ∧ cP D Φ (q.2.1, n) t.heap ∧ va_F (cReg Φ) st t
def vlI : Int32 → Option Value := fun v => some (.int v)
def vlR (Φ : cG) : Option Nat → Option Value := fun r => some (cv Φ r)
def vlU : Unit → Option Value := fun _ => none
def lrzt (v : Int32) (S : cS) : Option ((Nat ⊕ Int32) × cS) := if v = 0 ∨ v = 1 then some (.inr v, S) else none
theorem lrzt_spec {v : Int32} {S : cS} {r : (Nat ⊕ Int32) × cS} (h : lrzt v S = some r) : (v = 0 ∨ v = 1) ∧ r = (.inr v, S) := by
  unfold lrzt at h
  by_cases hc : v = 0 ∨ v = 1
  · rw [if_pos hc] at h; exact ⟨hc, (Option.some.inj h).symm⟩
  · rw [if_neg hc] at h; cases h
theorem el_l {α β γ : Type} {v : α ⊕ β} {k : α} {f : α → γ} {g : β → γ} {r : γ} (e : v = .inl k) (h : v.elim f g = r) : f k = r := by subst e; exact h
theorem el_r {α β γ : Type} {v : α ⊕ β} {k : β} {f : α → γ} {g : β → γ} {r : γ} (e : v = .inr k) (h : v.elim f g = r) : g k = r := by subst e; exact h
theorem cP.grow {D : cD} {Φ : cG} {S : cS} {H H1 : Heap} (hP : cP D Φ S H) (z : H.size ≤ H1.size) (o : ∀ q, q < H.size → H1[q]? = H[q]?) : cP D Φ (S.1, S.2 + (H1.size - H.size)) H1 := by
  obtain ⟨h1, h2, h3, h4, h5⟩ := hP
  have e : ph Φ S.2 = Φ.2.1 + (S.2 - 1) := by unfold ph; rw [if_neg (by omega)]
  refine ⟨fun a c hc => ⟨(h1 a c hc).1.push o, (h1 a c hc).2⟩, ?_, ?_, h4, fun q hq => by have := h5 q hq; omega⟩
  · show 1 ≤ S.2 + (H1.size - H.size)
    omega
  · show H1.size = ph Φ (S.2 + (H1.size - H.size))
    unfold ph
    rw [if_neg (by omega)]
    omega
section CT
variable {p : Program} {l : Launch} {e : Env} {R : Room} {s : State} {m : MethodId} {args : Array Value} {below : List Frame} {meth : Method} {c : Code} {H : Heap} {locs : List Loc} {cells slots : Nat} {Q : State → Prop} {cc : ByteArray} {pc : Nat} {ls : Array Slot} {rest : List Value} {D : cD} {Φ : cG} {nL : Nat} {S : cS} {ret : Option FieldType} {own : String} {T : Type} {vl : T → Option Value} {q : (Nat ⊕ T) × cS} {mC mS fR lR : Nat}
abbrev cWt (p : Program) (l : Launch) (e : Env) (fr mc ms lo : Nat) (s : State) (m : MethodId) (args : Array Value) (below : List Frame) (meth : Method) (c : Code) (D : cD) (Φ : cG) {T : Type} (vl : T → Option Value) (q : (Nat ⊕ T) × cS) (H : Heap) (locs : List Loc) (cells slots : Nat) (g : JFrame) : Prop :=
  W p l e (rA fr mc ms lo) s m args below meth c H locs cells slots (vx_MQ below (cQt vl D Φ q) (cXC D Φ q) args s mc ms (cReg Φ)) g
theorem c_tq {v : T} (hP : cP D Φ S H) (hS : va_S (cReg Φ) s.heap H locs) (hq : q = (.inr v, S)) {t : State} (ht : t.heap = H) : cQt vl D Φ q args s (.returned (vl v)) t := ⟨v, by rw [hq], rfl, by rw [hq, ht]; exact hP, hS.F ht⟩
theorem c_ti {v : Int32} {q : (Nat ⊕ Int32) × cS} (X : cX p s m args meth c cc nL (some .int) own D Φ) (hP : cP D Φ S H) (hS : va_S (cReg Φ) s.heap H locs) (hq : q = (.inr v, S)) (h1 : cells ≤ mC) (h2 : slots ≤ mS) (hdg : decode cc pc = .ok (.ireturn, 1)) : cWt p l e fR mC mS lR s m args below meth c D Φ vlI q H locs cells slots (F0 m pc ls [.int v]) :=
  W.widen h1 h2 (vx_ret (W.iret X.1 X.2.1 X.2.2.2.2.2.2.2.1 (fun t ht _ => c_tq (vl := vlI) hP hS hq ht) hS.2.2 hdg X.2.2.2.2.2.2.2.2))
theorem c_tz {v : Int32} {q : (Nat ⊕ Int32) × cS} (X : cX p s m args meth c cc nL (some .boolean) own D Φ) (h : v = 0 ∨ v = 1) (hP : cP D Φ S H) (hS : va_S (cReg Φ) s.heap H locs) (hq : q = (.inr v, S)) (h1 : cells ≤ mC) (h2 : slots ≤ mS) (hdg : decode cc pc = .ok (.ireturn, 1)) : cWt p l e fR mC mS lR s m args below meth c D Φ vlI q H locs cells slots (F0 m pc ls [.int v]) :=
  W.widen h1 h2 (vx_ret (W.zret X.1 X.2.1 X.2.2.2.2.2.2.2.1 (nz h) (fun t ht _ => c_tq (vl := vlI) hP hS hq ht) hS.2.2 hdg X.2.2.2.2.2.2.2.2))
theorem c_ta {r : Option Nat} {C : String} {q : (Nat ⊕ Option Nat) × cS} (X : cX p s m args meth c cc nL (some (.object C)) own D Φ) (hP : cP D Φ S H) (hS : va_S (cReg Φ) s.heap H locs) (hq : q = (.inr r, S)) (h1 : cells ≤ mC) (h2 : slots ≤ mS) (hdg : decode cc pc = .ok (.areturn, 1)) : cWt p l e fR mC mS lR s m args below meth c D Φ (vlR Φ) q H locs cells slots (F0 m pc ls [cv Φ r]) :=
  W.widen h1 h2 (vx_ret (W.aret X.1 X.2.1 X.2.2.2.2.2.2.2.1 (Or.inl ⟨C, rfl⟩) (cv_or Φ r) (fun t ht _ => c_tq (vl := vlR Φ) hP hS hq ht) hS.2.2 hdg X.2.2.2.2.2.2.2.2))
theorem c_tv {q : (Nat ⊕ Unit) × cS} (X : cX p s m args meth c cc nL none own D Φ) (hP : cP D Φ S H) (hS : va_S (cReg Φ) s.heap H locs) (hq : q = (.inr (), S)) (h1 : cells ≤ mC) (h2 : slots ≤ mS) (hdg : decode cc pc = .ok (.return_, 1)) : cWt p l e fR mC mS lR s m args below meth c D Φ vlU q H locs cells slots (F0 m pc ls []) :=
  W.widen h1 h2 (vx_ret (W.vret X.1 X.2.1 X.2.2.2.2.2.2.2.1 (fun t ht _ => c_tq (vl := vlU) hP hS hq ht) hS.2.2 hdg X.2.2.2.2.2.2.2.2))
def cNames : List String := ["java/lang/RuntimeException", "java/lang/Exception"]
theorem c_thr (hl9 : l.stackTraces = false) (X : cX p s m args meth c cc nL ret RX11 D Φ) (hnt : ∀ x ∈ c.exceptionTable.toList, False) (hP : cP D Φ S H) (hS : va_S (cReg Φ) s.heap H locs) (hl : ls.size = nL) {k ik ic : Nat} (hfit : Bundle.fit (excN k) = true) (hk : Cond.classLink RX11 ik (excN k) ∈ BG) (hi : Cond.initialized (excN k) ∈ BG) (hat : ∀ w ∈ vx_at0 RX11 ic (excN k) cNames, w ∈ BG ∨ w ∈ cNest) (hgood : ∀ w ∈ vx_at0 RX11 ic (excN k) cNames, vx_ot w = true)
    (d0 : decode cc pc = .ok (.new ik, 3)) (d3 : decode cc (pc + 3) = .ok (.dup, 1)) (d4 : decode cc (pc + 4) = .ok (.invokespecial ic, 3)) (d7 : decode cc (pc + 7) = .ok (.athrow, 1)) (hq : q = (.inl k, S))
    (hfr : 5 < fR) (hlo : 89 ≤ lR) (hrest : rest.length ≤ 4) (hc : cells + 1 ≤ mC) (hs : slots + 6 ≤ mS) : cWt p l e fR mC mS lR s m args below meth c D Φ vl q H locs cells slots (F0 m pc ls rest) := by
  have hts := X.2.2.2.2.1
  have hK := X.2.2.2.2.2.1
  have hsum := c_sum rest hrest
  refine vx_throw0 (own := RX11) (cls := excN k) (names := cNames) (ik := ik) (ic := ic) X.1 X.2.1 hl9 X.2.2.2.1 hfit (by decide) (hts _ hk) (hts _ hi) (fun w hw => ?_) (fun w hw => ?_) X.2.2.2.2.2.2.1.2.1 X.2.2.2.2.2.2.1.2.2 hS (hl.trans X.2.2.1.symm) d0 d3 d4 d7 (fun x hx => (hnt x hx).elim) ?_ ?_ ?_ ?_ X.2.2.2.2.2.2.2.2 (fun t ha hz ho => ?_) hS.2.2 hc hs
  · rcases hat w hw with h | h
    · exact hts w h
    · exact va_Nw.use (cNest_on w h) (hK.2.2.1 w h)
  · rcases List.mem_cons.mp hw with rfl | hw
    · rfl
    · rcases List.mem_cons.mp hw with rfl | hw
      · rfl
      · exact hgood w hw
  · exact hfr
  · show _ + (13 * (2 + 1) + 42) ≤ lR
    omega
  · exact hc
  · exact hs
  · refine ⟨k, S.2 + (t.heap.size - H.size), by rw [hq], rfl, by rw [hq]; exact Nat.le_add_right _ _, by rw [hq]; exact hP.grow hz ho, ⟨Nat.le_trans hS.1 hz, fun z h1 h2 => (ho z (Nat.lt_of_lt_of_le h1 hS.1)).trans (hS.2.1 z h1 h2)⟩⟩
def cIn (w : Cond) : Bool := (lw_tbl.contains w && goodWord w) || cNest.contains w
theorem c_atw {L : List Cond} (h : L.all cIn = true) : ∀ w ∈ L, w ∈ BG ∨ w ∈ cNest := fun w hw => by
  have h1 := List.all_eq_true.mp h w hw
  unfold cIn at h1
  rcases (Bool.or_eq_true _ _).mp h1 with h2 | h2
  · obtain ⟨h3, h4⟩ := (Bool.and_eq_true _ _).mp h2
    exact Or.inl (List.mem_filter.mpr ⟨List.contains_iff_mem.mp h3, h4⟩)
  · exact Or.inr (List.contains_iff_mem.mp h2)
set_option maxRecDepth 100000 in
theorem c_at0 : ∀ w ∈ vx_at0 RX11 205 (excN 0) cNames, w ∈ BG ∨ w ∈ cNest := c_atw (by decide +kernel)
set_option maxRecDepth 100000 in
theorem c_gd0 : ∀ w ∈ vx_at0 RX11 205 (excN 0) cNames, vx_ot w = true := by decide +kernel
set_option maxRecDepth 100000 in
theorem c_at1 : ∀ w ∈ vx_at0 RX11 406 (excN 1) cNames, w ∈ BG ∨ w ∈ cNest := c_atw (by decide +kernel)
set_option maxRecDepth 100000 in
theorem c_gd1 : ∀ w ∈ vx_at0 RX11 406 (excN 1) cNames, vx_ot w = true := by decide +kernel
set_option maxRecDepth 100000 in
theorem c_at2 : ∀ w ∈ vx_at0 RX11 208 (excN 2) cNames, w ∈ BG ∨ w ∈ cNest := c_atw (by decide +kernel)
set_option maxRecDepth 100000 in
theorem c_gd2 : ∀ w ∈ vx_at0 RX11 208 (excN 2) cNames, vx_ot w = true := by decide +kernel
theorem c_thr0 (hl9 : l.stackTraces = false) (X : cX p s m args meth c cc nL ret RX11 D Φ) (hnt : ∀ x ∈ c.exceptionTable.toList, False) (hP : cP D Φ S H) (hS : va_S (cReg Φ) s.heap H locs) (hl : ls.size = nL) (d0 : decode cc pc = .ok (.new 203, 3)) (d3 : decode cc (pc + 3) = .ok (.dup, 1)) (d4 : decode cc (pc + 4) = .ok (.invokespecial 205, 3)) (d7 : decode cc (pc + 7) = .ok (.athrow, 1)) (hq : q = (.inl 0, S))
    (hfr : 5 < fR) (hlo : 89 ≤ lR) (hrest : rest.length ≤ 4) (hc : cells + 1 ≤ mC) (hs : slots + 6 ≤ mS) : cWt p l e fR mC mS lR s m args below meth c D Φ vl q H locs cells slots (F0 m pc ls rest) :=
  c_thr hl9 X hnt hP hS hl (k := 0) (by decide) w_641 w_69 c_at0 c_gd0 d0 d3 d4 d7 hq hfr hlo hrest hc hs
theorem c_thr1 (hl9 : l.stackTraces = false) (X : cX p s m args meth c cc nL ret RX11 D Φ) (hnt : ∀ x ∈ c.exceptionTable.toList, False) (hP : cP D Φ S H) (hS : va_S (cReg Φ) s.heap H locs) (hl : ls.size = nL) (d0 : decode cc pc = .ok (.new 404, 3)) (d3 : decode cc (pc + 3) = .ok (.dup, 1)) (d4 : decode cc (pc + 4) = .ok (.invokespecial 406, 3)) (d7 : decode cc (pc + 7) = .ok (.athrow, 1)) (hq : q = (.inl 1, S))
    (hfr : 5 < fR) (hlo : 89 ≤ lR) (hrest : rest.length ≤ 4) (hc : cells + 1 ≤ mC) (hs : slots + 6 ≤ mS) : cWt p l e fR mC mS lR s m args below meth c D Φ vl q H locs cells slots (F0 m pc ls rest) :=
  c_thr hl9 X hnt hP hS hl (k := 1) (by decide) w_707 w_70 c_at1 c_gd1 d0 d3 d4 d7 hq hfr hlo hrest hc hs
theorem c_thr2 (hl9 : l.stackTraces = false) (X : cX p s m args meth c cc nL ret RX11 D Φ) (hnt : ∀ x ∈ c.exceptionTable.toList, False) (hP : cP D Φ S H) (hS : va_S (cReg Φ) s.heap H locs) (hl : ls.size = nL) (d0 : decode cc pc = .ok (.new 206, 3)) (d3 : decode cc (pc + 3) = .ok (.dup, 1)) (d4 : decode cc (pc + 4) = .ok (.invokespecial 208, 3)) (d7 : decode cc (pc + 7) = .ok (.athrow, 1)) (hq : q = (.inl 2, S))
    (hfr : 5 < fR) (hlo : 89 ≤ lR) (hrest : rest.length ≤ 4) (hc : cells + 1 ≤ mC) (hs : slots + 6 ≤ mS) : cWt p l e fR mC mS lR s m args below meth c D Φ vl q H locs cells slots (F0 m pc ls rest) :=
  c_thr hl9 X hnt hP hS hl (k := 2) (by decide) w_743 w_71 c_at2 c_gd2 d0 d3 d4 d7 hq hfr hlo hrest hc hs
theorem c_tV {y : MethodName} {cy : ByteArray} {maxL : Nat} {rt : Option FieldType} {fr mc ms lo idx n ci a : Nat} {r : Option Nat} {Qc : Array Value → State → Outcome → State → Prop} {XC : String → State → State → Prop} {free : Addr → Prop} {As st0 : List Value} (X : cX p s m args meth c cc nL ret own D Φ) (hM : vx_Met l y (Cond.code y cy maxL rt :: BG) (rA fr mc ms lo) (cPc D Φ S (cv Φ (some a) :: As)) Qc XC mc ms free) (hrc : rc S r ci = some a) (hci : ci < 12 ∧ ci ≠ 4)
    (hw : Cond.methodLink own idx y ∈ BG ∧ Cond.instanceMethod y ∈ BG ∧ Cond.selects y.cls y y ∈ BG ∧ Cond.initialized y.cls ∈ BG ∧ Cond.code y cy maxL rt ∈ BG) (hcl : y.cls = (cRow ci).1)
    (hy : y.cls ≠ "java/lang/invoke/MethodHandle" ∧ y.cls ≠ "java/lang/invoke/VarHandle" ∧ (parseMethodDescriptor y.desc).map (fun d => d.parameters.length) = some n) (hn : As.length = n)
    (hr : fr + 1 ≤ fR ∧ 8 + (maxL + 11) + lo ≤ lR) (hP : cP D Φ S H) (hS : va_S (cReg Φ) s.heap H locs) (hl : ls.size = nL) (hW : rest.length ≤ 4) (hdg : decode cc pc = .ok (.invokevirtual idx, 3)) (hst : st0 = As.reverse ++ cv Φ r :: rest) (hf : cells + mc ≤ mC ∧ slots + ms ≤ mS) :
    vx_Run p l e (rA fR mC mS lR) s m args below meth c H locs cells slots mc ms (F0 m pc ls st0) rest (Qc (cv Φ (some a) :: As).toArray) XC free := by
  obtain ⟨q, hq, hqa⟩ := ob hrc
  have hqa := Option.some.inj hqa
  subst hqa
  obtain ⟨rfl, h2, h3⟩ := gc_spec hq
  subst hst
  have hG : GoodIn BG (wsV own idx y.cls y (Cond.code y cy maxL rt :: BG)) := bg_all (fun w h => by
    rcases List.mem_append.mp h with h | h
    · rcases List.mem_cons.mp h with rfl | h
      · exact hw.1
      · rcases List.mem_cons.mp h with rfl | h
        · exact hw.2.1
        · rcases List.mem_cons.mp h with rfl | h
          · exact hw.2.2.1
          · rw [List.mem_singleton.mp h]
            exact hw.2.2.2.1
    · rcases List.mem_cons.mp h with rfl | h
      · exact hw.2.2.2.2
      · exact h)
  have hrec : ∃ cellB : Cell, H[ph Φ q.1]? = some cellB ∧ cellB.vm.isStatics = false ∧ s.vm.findClass y.cls = some cellB.cls := by
    obtain ⟨cell, q1, q2, q3, -⟩ := (hP.1 _ _ h2).1.1 (by rw [h3]; exact hci.1)
    exact ⟨cell, q1, by rw [q3]; rfl, by rw [q2, hcl, h3]; exact (X.2.2.2.2.2.1.1 ci hci.1 hci.2).2.1⟩
  exact vx_runV (As := As) (rest := rest) (C := y.cls) (n := n) ⟨X.1, X.2.1, X.2.2.1, X.2.2.2.1, X.2.2.2.2.1⟩ hM (cwV n X.2.2.2.2.1 hG rfl rfl rfl ⟨rfl, hy⟩ hr) ⟨c_blind, hrec, c_pre X hP hS⟩ rfl hn hl rfl (lv_room (c_sum rest hW)) hdg hf
theorem c_tS {y : MethodName} {cy : ByteArray} {maxL : Nat} {rt : Option FieldType} {fr mc ms lo idx n : Nat} {Qc : Array Value → State → Outcome → State → Prop} {XC : String → State → State → Prop} {free : Addr → Prop} {As st0 : List Value} (X : cX p s m args meth c cc nL ret own D Φ) (hM : vx_Met l y (Cond.code y cy maxL rt :: BG) (rA fr mc ms lo) (cPc D Φ S As) Qc XC mc ms free)
    (hw : Cond.methodLink own idx y ∈ BG ∧ Cond.static y ∈ BG ∧ Cond.initialized y.cls ∈ BG ∧ Cond.code y cy maxL rt ∈ BG)
    (hy : y.cls ≠ "java/lang/invoke/MethodHandle" ∧ y.cls ≠ "java/lang/invoke/VarHandle" ∧ (parseMethodDescriptor y.desc).map (fun d => d.parameters.length) = some n) (hn : As.length = n)
    (hr : fr + 1 ≤ fR ∧ 8 + (maxL + 11) + lo ≤ lR) (hP : cP D Φ S H) (hS : va_S (cReg Φ) s.heap H locs) (hl : ls.size = nL) (hW : rest.length ≤ 4) (hdg : decode cc pc = .ok (.invokestatic idx, 3)) (hst : st0 = As.reverse ++ rest) (hf : cells + mc ≤ mC ∧ slots + ms ≤ mS) :
    vx_Run p l e (rA fR mC mS lR) s m args below meth c H locs cells slots mc ms (F0 m pc ls st0) rest (Qc As.toArray) XC free := by
  subst hst
  have hG : GoodIn BG (va_wsS own idx y (Cond.code y cy maxL rt :: BG)) := bg_all (fun w h => by
    rcases List.mem_append.mp h with h | h
    · rcases List.mem_cons.mp h with rfl | h
      · exact hw.1
      · rcases List.mem_cons.mp h with rfl | h
        · exact hw.2.1
        · rw [List.mem_singleton.mp h]
          exact hw.2.2.1
    · rcases List.mem_cons.mp h with rfl | h
      · exact hw.2.2.2
      · exact h)
  exact vx_runS (As := As) (rest := rest) (n := n) ⟨X.1, X.2.1, X.2.2.1, X.2.2.2.1, X.2.2.2.2.1⟩ hM (va_cwS n X.2.2.2.2.1 hG rfl rfl rfl hy hr) ⟨c_blind, c_pre X hP hS⟩ rfl hn hl rfl (lv_room (c_sum rest hW)) hdg hf
theorem c_ct {U : Type} {vu : U → Option Value} {v : (Nat ⊕ U) × cS} {mc ms : Nat} {st0 : List Value} {a : Array Value} (hr : vx_Run p l e (rA fR mC mS lR) s m args below meth c H locs cells slots mc ms (F0 m pc ls st0) rest (cQt vu D Φ v a) (cXC D Φ v) (cReg Φ)) (X : cX p s m args meth c cc nL ret own D Φ) (hnt : ∀ x ∈ c.exceptionTable.toList, False) (hS : va_S (cReg Φ) s.heap H locs) (hf : cells + mc ≤ mC ∧ slots + ms ≤ mS)
    (kx : ∀ k, v.1 = .inl k → q = (.inl k, v.2))
    (kk : ∀ (w : U) (H1 : Heap) (locs1 : List Loc), v.1 = .inr w → cP D Φ v.2 H1 → va_S (cReg Φ) s.heap H1 locs1 → cWt p l e fR mC mS lR s m args below meth c D Φ vl q H1 locs1 (cells + mc) (slots + ms) (F0 m (pc + 3) ls ((vu w).toList ++ rest))) : cWt p l e fR mC mS lR s m args below meth c D Φ vl q H locs cells slots (F0 m pc ls st0) := by
  intro T hT XX
  rcases hr T hT XX with ⟨v', st₀, t, T', L, h0, X', hL, e1, e2, ⟨w, hw, hv, hp, hF⟩, st⟩ | ⟨q9, st₀, t, T', L, E, ce, h0, X', hL, e1, e2, ⟨k, n, hk, hE, hn, hp, hF⟩, hce, hcv, hcl, st⟩
  · cases hv
    obtain ⟨k1, k2, k3⟩ := vx_keep h0 e1 hS (fun _ _ h => h) (fun _ h => h) hL hF
    obtain ⟨t2, a1, b1⟩ := kk w T'.heap (locs ++ L) hw (by rw [e1]; exact hp) k3 T' rfl X'
    exact ⟨t2, st t2 a1, b1⟩
  · obtain ⟨k1, k2, k3⟩ := vx_keep h0 e1 hS (fun _ _ h => h) (fun _ h => h) hL hF
    have hq := kx k hk
    obtain ⟨t2, a1, b1⟩ := vx_out (Qc := cQt vl D Φ q) (XC := cXC D Φ q) (free := cReg Φ) (mc := mC) (ms := mS) (rest := rest) (fun x hx => (hnt x hx).elim) X.2.2.2.2.2.2.2.2 (H := T'.heap) (by rw [e1]; exact hce) hcv hcl (fun t' ht' ha' => ⟨k, n, by rw [hq], hE, by rw [hq]; exact hn, by rw [hq, ht', e1]; exact hp, k3.F ht'⟩) k3.2.2 hf.1 hf.2 T' rfl X'
    exact ⟨t2, st.trans a1, b1⟩
theorem cX_ofx {y : MethodName} {rm : Room} {maxL : Nat} {s₁ : State} (B : BodyLoose p l y (headSpec (Cond.code y cc maxL ret :: BG) rm) cc maxL ret e s m args below meth c s₁) (hml : c.maxLocals = maxL) (hK : cK D s) (hZ : cZ Φ s s.heap) : cX p s m args meth c cc maxL ret y.cls D Φ := cX_of B hml hK hZ
end CT
