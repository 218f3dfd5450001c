def lNc (U : State) : Prop := ∀ i, i < 3 → ∀ j, j < 3 → i ≠ j → va_Nc (excN i) (excN j) U
theorem lNc.moved {u U : State} (hvm : u.vm.Alike U.vm) (h : lNc u) : lNc U := fun i hi j hj hij => (h i hi j hj hij).moved hvm
abbrev lwS : Type := mS × Nat × (Nat → Option (Nat × (Nat → Int32)))
def lwF (b : Nat × Nat) (A : Nat → Option (Nat × (Nat → Int32))) : cG := (b.1, b.2, fun q => (A q).isSome)
def lwO (b : Nat × Nat) : cG := (b.1, b.2, fun _ => false)
theorem lwF_reg {b : Nat × Nat} {A : Nat → Option (Nat × (Nat → Int32))} {q : Nat} (h : cReg (lwF b A) q) : cReg (lwO b) q := ⟨h.1, rfl⟩
theorem cZ.sub {Φ Φ' : cG} {U : State} {H : Heap} (h : cZ Φ U H) (e : Φ'.1 = Φ.1) (hs : ∀ q, cReg Φ' q → cReg Φ q) : cZ Φ' U H := by
  have z : ∀ C n d v, va_Z C n d v (cReg Φ) U H → va_Z C n d v (cReg Φ') U H := fun C n d v h => by
    obtain ⟨cf, kf, fi, f, a, cell, h1, h2, h3, h4, h5, h6, h7, h8⟩ := h
    exact ⟨cf, kf, fi, f, a, cell, h1, h2, h3, h4, h5, h6, h7, fun w => h8 (hs _ w)⟩
  have zq : ∀ C n d, vx_Zq C n d (cReg Φ) U H → vx_Zq C n d (cReg Φ') U H := fun C n d h => by
    obtain ⟨h1, c, k, i, f, a, cell, g1, g2, g3, g4, g5, g6, g7, g8, g9, g10⟩ := h
    refine ⟨?_, c, k, i, f, a, cell, g1, g2, g3, g4, g5, g6, g7, g8, g9, fun w => g10 (hs _ w)⟩
    rcases h1 with h1 | ⟨t, h1⟩
    · exact Or.inl (z _ _ _ _ h1)
    · exact Or.inr ⟨t, z _ _ _ _ h1⟩
  obtain ⟨h1, h2, h3⟩ := h
  refine ⟨?_, zq _ _ _ h2, zq _ _ _ h3⟩
  rw [e]
  exact z _ _ _ _ h1
def RJ (k : Nat) (S : cS) (σ : mS) : Prop := ∃ T G L A ex K v nw, JW k T G L A ex K v nw S σ
theorem JP.rj {P : qqT → qqG → mS → Prop} {k : Nat} {S : cS} {σ : mS} (h : JP P k S σ) : RJ k S σ := by
  obtain ⟨T, G, L, A, ex, K, v, nw, w, -⟩ := h
  exact ⟨T, G, L, A, ex, K, v, nw, w⟩
theorem RJ.mono {k : Nat} {S : cS} {σ : mS} (h : RJ k S σ) {n : Nat} (hn : S.2 ≤ n) : RJ k (S.1, n) σ := by
  obtain ⟨T, G, L, A, ex, K, v, nw, ⟨w1, w2, w3⟩, w4⟩ := h
  exact ⟨T, G, L, A, ex, K, v, nw, ⟨w1, w2.mono hn, w3⟩, w4⟩
theorem RJ.clr {k : Nat} {S : cS} {σ : mS} (h : RJ k S σ) : RJ k (fun x => if x = S.2 then none else S.1 x, S.2 + 1) σ := by
  obtain ⟨T, G, L, A, ex, K, v, nw, ⟨w1, w2, w3⟩, w4⟩ := h
  refine ⟨T, G, L, A, ex, K, v, nw, ⟨w1, ⟨fun k i hx => ?_, w2.2⟩, w3⟩, w4⟩
  obtain ⟨g1, g2, g3⟩ := w2.1 k i hx
  refine ⟨?_, Nat.lt_succ_of_lt g2, g3⟩
  rw [← g1]
  exact if_neg (by omega)
theorem RJ.rcs {k : Nat} {S : cS} {σ : mS} (h : RJ k S σ) : rc S (some 1) 11 = some 1 := by
  obtain ⟨T, G, L, A, ex, K, v, nw, w⟩ := h
  exact w.rcs
def lwAr (D : cD) (b : Nat × Nat) (A : Nat → Option (Nat × (Nat → Int32))) (H : Heap) : Prop := ∀ a N f, A a = some (N, f) → b.2 ≤ a ∧ H[a]? = some (arrV (D.2.2 20) N (fun j => .int (f j)))
def lwI (D : cD) (b : Nat × Nat) (V : lwS) (H : Heap) : Prop := (∃ S, RJ V.2.1 S V.1 ∧ cP D (lwF b V.2.2) S H) ∧ lwAr D b V.2.2 H
def lwPc (D : cD) (b : Nat × Nat) (V : lwS) (av : List Value) : Array Value → State → Prop := va_Pc av (fun U => lwI D b V U.heap ∧ cK D U ∧ cZ (lwO b) U U.heap ∧ lNc U)
def lwQ (D : cD) (b : Nat × Nat) (V : lwS) (r : Option Value) : Array Value → State → Outcome → State → Prop := fun _ st o t => o = .returned r ∧ lwI D b V t.heap ∧ va_F (cReg (lwO b)) st t
def lwX (p : Program) (s : State) (m : MethodId) (args : Array Value) (meth : Method) (c : Code) (cc : ByteArray) (nL : Nat) (ret : Option FieldType) (D : cD) (b : Nat × Nat) : Prop := cX p s m args meth c cc nL ret "CascaderyLaw" D (lwO b) ∧ lNc s
def ldA (V : lwS) (a : Nat) (i : Int32) : Option Int32 := (V.2.2 a).bind fun q => if i < 0 ∨ q.1 ≤ i.toNatClampNeg then none else some (q.2 i.toNatClampNeg)
def stA (V : lwS) (a : Nat) (i v : Int32) : Option lwS := (V.2.2 a).bind fun q => if i < 0 ∨ q.1 ≤ i.toNatClampNeg then none else some (V.1, V.2.1, fun x => if x = a then some (q.1, upd q.2 i.toNatClampNeg v) else V.2.2 x)
def nwA (V : lwS) (a N : Nat) : lwS := (V.1, V.2.1, fun x => if x = a then some (N, fun _ => 0) else V.2.2 x)
section LP
variable {p : Program} {l : Launch} {e : Env} {R : Room} {s : State} {m : MethodId} {args : Array Value} {below : List Frame} {meth : Method} {c : Code} {H : Heap} {locs : List Loc} {cells slots fR mC mS lR : Nat} {Q : State → Prop} {cc : ByteArray} {pc : Nat} {ls : Array Slot} {rest : List Value} {D : cD} {Φ Φ1 : cG} {nL : Nat} {S : cS} {ret : Option FieldType} {own : String} {b : Nat × Nat} {V V' : lwS}
theorem lw_blind {av : List Value} : FrameBlind (lwPc D b V av) := fun a U g mk q => by
  obtain ⟨q0, q1, q2, q3, q4⟩ := q
  exact ⟨q0, q1, cK.same (u := U) (U := U.calling g mk a) rfl q2, cZ.moved (u := U) (U := U.calling g mk a) (Vm.Alike.refl U.vm) q3, q4.moved (u := U) (U := U.calling g mk a) (Vm.Alike.refl U.vm)⟩
theorem lw_pre {av : List Value} (X : lwX p s m args meth c cc nL ret D b) (hI : lwI D b V H) (hS : va_S (cReg (lwO b)) s.heap H locs) : ∀ U : State, U.heap = H → s.WarmedH U.vm → lwPc D b V av av.toArray U := fun U hU hW => ⟨rfl, by rw [hU]; exact hI, X.1.2.2.2.2.2.1.warm hW, by rw [hU]; exact cZ.moved hW.alike (cZ_at X.1.2.2.2.2.2.2.1 hS), X.2.moved hW.alike⟩
theorem c_prez {av : List Value} (X : cX p s m args meth c cc nL ret own D Φ1) (hP : cP D Φ S H) (hZ : cZ Φ s H) : ∀ U : State, U.heap = H → s.WarmedH U.vm → cPc D Φ S av av.toArray U := fun U hU hW => ⟨rfl, by rw [hU]; exact hP, X.2.2.2.2.2.1.warm hW, by rw [hU]; exact cZ.moved hW.alike hZ⟩
theorem c_tVz {y : MethodName} {cy : ByteArray} {maxL : Nat} {rt : Option FieldType} {fr mc ms lo idx n ci a : Nat} {r : Option Nat} {Qc : Array Value → State → Outcome → State → Prop} {XC : String → State → State → Prop} {free : Addr → Prop} {As st0 : List Value} (X : cX p s m args meth c cc nL ret own D Φ1) (hM : vx_Met l y (Cond.code y cy maxL rt :: BG) (rA fr mc ms lo) (cPc D Φ S (cv Φ (some a) :: As)) Qc XC mc ms free) (hrc : rc S r ci = some a) (hci : ci < 12 ∧ ci ≠ 4)
    (hw : Cond.methodLink own idx y ∈ BG ∧ Cond.instanceMethod y ∈ BG ∧ Cond.selects y.cls y y ∈ BG ∧ Cond.initialized y.cls ∈ BG ∧ Cond.code y cy maxL rt ∈ BG) (hcl : y.cls = (cRow ci).1)
    (hy : y.cls ≠ "java/lang/invoke/MethodHandle" ∧ y.cls ≠ "java/lang/invoke/VarHandle" ∧ (parseMethodDescriptor y.desc).map (fun d => d.parameters.length) = some n) (hn : As.length = n)
    (hr : fr + 1 ≤ fR ∧ 8 + (maxL + 11) + lo ≤ lR) (hP : cP D Φ S H) (hZ : cZ Φ s H) (hl : ls.size = nL) (hW : rest.length ≤ 4) (hdg : decode cc pc = .ok (.invokevirtual idx, 3)) (hst : st0 = As.reverse ++ cv Φ r :: rest) (hf : cells + mc ≤ mC ∧ slots + ms ≤ mS) :
    vx_Run p l e (rA fR mC mS lR) s m args below meth c H locs cells slots mc ms (F0 m pc ls st0) rest (Qc (cv Φ (some a) :: As).toArray) XC free := by
  obtain ⟨q, hq, hqa⟩ := ob hrc
  have hqa := Option.some.inj hqa
  subst hqa
  obtain ⟨rfl, h2, h3⟩ := gc_spec hq
  subst hst
  have hG : GoodIn BG (wsV own idx y.cls y (Cond.code y cy maxL rt :: BG)) := bg_all (fun w h => by
    rcases List.mem_append.mp h with h | h
    · rcases List.mem_cons.mp h with rfl | h
      · exact hw.1
      · rcases List.mem_cons.mp h with rfl | h
        · exact hw.2.1
        · rcases List.mem_cons.mp h with rfl | h
          · exact hw.2.2.1
          · rw [List.mem_singleton.mp h]
            exact hw.2.2.2.1
    · rcases List.mem_cons.mp h with rfl | h
      · exact hw.2.2.2.2
      · exact h)
  have hrec : ∃ cellB : Cell, H[ph Φ q.1]? = some cellB ∧ cellB.vm.isStatics = false ∧ s.vm.findClass y.cls = some cellB.cls := by
    obtain ⟨cell, q1, q2, q3, -⟩ := (hP.1 _ _ h2).1.1 (by rw [h3]; exact hci.1)
    exact ⟨cell, q1, by rw [q3]; rfl, by rw [q2, hcl, h3]; exact (X.2.2.2.2.2.1.1 ci hci.1 hci.2).2.1⟩
  exact vx_runV (As := As) (rest := rest) (C := y.cls) (n := n) ⟨X.1, X.2.1, X.2.2.1, X.2.2.2.1, X.2.2.2.2.1⟩ hM (cwV n X.2.2.2.2.1 hG rfl rfl rfl ⟨rfl, hy⟩ hr) ⟨c_blind, hrec, c_prez X hP hZ⟩ rfl hn hl rfl (lv_room (c_sum rest hW)) hdg hf
theorem c_runVz {y : MethodName} {cy : ByteArray} {maxL : Nat} {rt : Option FieldType} {fr mc ms lo idx n ci a : Nat} {r : Option Nat} {Qc : Array Value → State → Outcome → State → Prop} {free : Addr → Prop} {As st0 : List Value} (X : cX p s m args meth c cc nL ret own D Φ1) (hM : Met l y (Cond.code y cy maxL rt :: BG) (rA fr mc ms lo) (cPc D Φ S (cv Φ (some a) :: As)) Qc mc ms free) (hrc : rc S r ci = some a) (hci : ci < 12 ∧ ci ≠ 4)
    (hw : Cond.methodLink own idx y ∈ BG ∧ Cond.instanceMethod y ∈ BG ∧ Cond.selects y.cls y y ∈ BG ∧ Cond.initialized y.cls ∈ BG ∧ Cond.code y cy maxL rt ∈ BG) (hcl : y.cls = (cRow ci).1)
    (hy : y.cls ≠ "java/lang/invoke/MethodHandle" ∧ y.cls ≠ "java/lang/invoke/VarHandle" ∧ (parseMethodDescriptor y.desc).map (fun d => d.parameters.length) = some n) (hn : As.length = n)
    (hr : fr + 1 ≤ fR ∧ 8 + (maxL + 11) + lo ≤ lR) (hP : cP D Φ S H) (hZ : cZ Φ s H) (hl : ls.size = nL) (hW : rest.length ≤ 4) (hdg : decode cc pc = .ok (.invokevirtual idx, 3)) (hst : st0 = As.reverse ++ cv Φ r :: rest) (hf : cells + mc ≤ mC ∧ slots + ms ≤ mS) :
    va_Run p l e (rA fR mC mS lR) s m args below meth c H locs cells slots mc ms (F0 m pc ls st0) rest (Qc (cv Φ (some a) :: As).toArray) free := by
  obtain ⟨q, hq, hqa⟩ := ob hrc
  have hqa := Option.some.inj hqa
  subst hqa
  obtain ⟨rfl, h2, h3⟩ := gc_spec hq
  subst hst
  have hG : GoodIn BG (wsV own idx y.cls y (Cond.code y cy maxL rt :: BG)) := bg_all (fun w h => by
    rcases List.mem_append.mp h with h | h
    · rcases List.mem_cons.mp h with rfl | h
      · exact hw.1
      · rcases List.mem_cons.mp h with rfl | h
        · exact hw.2.1
        · rcases List.mem_cons.mp h with rfl | h
          · exact hw.2.2.1
          · rw [List.mem_singleton.mp h]
            exact hw.2.2.2.1
    · rcases List.mem_cons.mp h with rfl | h
      · exact hw.2.2.2.2
      · exact h)
  have hrec : ∃ cellB : Cell, H[ph Φ q.1]? = some cellB ∧ cellB.vm.isStatics = false ∧ s.vm.findClass y.cls = some cellB.cls := by
    obtain ⟨cell, q1, q2, q3, -⟩ := (hP.1 _ _ h2).1.1 (by rw [h3]; exact hci.1)
    exact ⟨cell, q1, by rw [q3]; rfl, by rw [q2, hcl, h3]; exact (X.2.2.2.2.2.1.1 ci hci.1 hci.2).2.1⟩
  exact va_runV (As := As) (rest := rest) (C := y.cls) (n := n) ⟨X.1, X.2.1, X.2.2.1, X.2.2.2.1, X.2.2.2.2.1⟩ hM (cwV n X.2.2.2.2.1 hG rfl rfl rfl ⟨rfl, hy⟩ hr) ⟨c_blind, hrec, c_prez X hP hZ⟩ rfl hn hl rfl (lv_room (c_sum rest hW)) hdg hf
theorem lwAr.kept {H1 : Heap} (hP : cP D (lwF b V.2.2) S H) (h : lwAr D b V.2.2 H) (k : ∀ q : Nat, q < H.size → ¬ cReg (lwF b V.2.2) q → H1[q]? = H[q]?) : lwAr D b V.2.2 H1 := fun a N f ha => by
  obtain ⟨h1, h2⟩ := h a N f ha
  have hh : (lwF b V.2.2).2.2 a = true := by show (V.2.2 a).isSome = true; rw [ha]; rfl
  exact ⟨h1, (k a (hP.2.2.2.2 a hh) (fun z => by rw [z.2] at hh; cases hh)).trans h2⟩
theorem lwZ (X : lwX p s m args meth c cc nL ret D b) (hS : va_S (cReg (lwO b)) s.heap H locs) : cZ (lwF b V.2.2) s H := (cZ_at X.1.2.2.2.2.2.2.1 hS).sub rfl (fun _ h => lwF_reg h)
theorem l_cls {U : Type} {vu : U → Option Value} {y : MethodName} {cy : ByteArray} {maxL : Nat} {rt : Option FieldType} {fr mc ms lo idx n : Nat} {As st0 : List Value} {f : cS → Option ((Nat ⊕ U) × cS)} {P : U → Prop} (X : lwX p s m args meth c cc nL ret D b) (hI : lwI D b V H) (hS : va_S (cReg (lwO b)) s.heap H locs)
    (hM : ∀ S q, f S = some q → vx_Met l y (Cond.code y cy maxL rt :: BG) (rA fr mc ms lo) (cPc D (lwF b V.2.2) S (cv (lwF b V.2.2) (some 1) :: As)) (cQt vu D (lwF b V.2.2) q) (cXC D (lwF b V.2.2) q) mc ms (cReg (lwF b V.2.2)))
    (hsim : ∀ S, RJ V.2.1 S V.1 → ∃ u S', f S = some (.inr u, S') ∧ RJ V'.2.1 S' V'.1 ∧ P u) (hA : V'.2.2 = V.2.2)
    (hw : Cond.methodLink "CascaderyLaw" idx y ∈ BG ∧ Cond.instanceMethod y ∈ BG ∧ Cond.selects y.cls y y ∈ BG ∧ Cond.initialized y.cls ∈ BG ∧ Cond.code y cy maxL rt ∈ BG) (hcl : y.cls = (cRow 11).1)
    (hy : y.cls ≠ "java/lang/invoke/MethodHandle" ∧ y.cls ≠ "java/lang/invoke/VarHandle" ∧ (parseMethodDescriptor y.desc).map (fun d => d.parameters.length) = some n) (hn : As.length = n)
    (hr : fr + 1 ≤ fR ∧ 8 + (maxL + 11) + lo ≤ lR) (hl : ls.size = nL) (hW : rest.length ≤ 4) (hdg : decode cc pc = .ok (.invokevirtual idx, 3)) (hst : st0 = As.reverse ++ cv (lwO b) (some 1) :: rest) (hf : cells + mc ≤ mC ∧ slots + ms ≤ mS)
    (kk : ∀ (u : U) (H1 : Heap) (locs1 : List Loc), P u → lwI D b V' H1 → va_S (cReg (lwO b)) s.heap H1 locs1 → W p l e (rA fR mC mS lR) s m args below meth c H1 locs1 (cells + mc) (slots + ms) Q (F0 m (pc + 3) ls ((vu u).toList ++ rest))) : W p l e (rA fR mC mS lR) s m args below meth c H locs cells slots Q (F0 m pc ls st0) := by
  obtain ⟨⟨S, hJ, hP⟩, hAr⟩ := hI
  obtain ⟨u, S', e1, hJ', hPu⟩ := hsim S hJ
  have hr9 := c_tVz (e := e) (below := below) (locs := locs) (Φ := lwF b V.2.2) X.1 (hM S _ e1) hJ.rcs ⟨by decide, by decide⟩ hw hcl hy hn hr hP (lwZ X hS) hl hW hdg hst hf
  intro T hT XX
  rcases hr9 T hT XX with ⟨v', st₀, t, T', L, h0, X', hL, e2, e3, ⟨w, hw9, hv, hp, hF⟩, st⟩ | ⟨q9, st₀, t, T', L, E, ce, h0, X', hL, e2, e3, ⟨k, n9, hk, -⟩, -⟩
  · cases hv
    cases hw9
    obtain ⟨k1, k2, k3⟩ := vx_keep h0 e2 hS (fun _ _ h => lwF_reg h) (fun _ h => lwF_reg h) hL hF
    have hI' : lwI D b V' T'.heap := ⟨⟨S', hJ', by rw [hA, e2]; exact hp⟩, by rw [hA]; exact hAr.kept hP k2⟩
    obtain ⟨t2, a1, b1⟩ := kk u T'.heap (locs ++ L) hPu hI' k3 T' rfl X'
    exact ⟨t2, st t2 a1, b1⟩
  · cases hk
theorem l_clr {y : MethodName} {cy : ByteArray} {maxL : Nat} {rt : Option FieldType} {fr lo idx n : Nat} {As st0 : List Value} {f : cS → Option Int32} {v : Int32} (X : lwX p s m args meth c cc nL ret D b) (hI : lwI D b V H) (hS : va_S (cReg (lwO b)) s.heap H locs)
    (hM : ∀ S r, f S = some r → Met l y (Cond.code y cy maxL rt :: BG) (rA fr 0 0 lo) (cPc D (lwF b V.2.2) S (cv (lwF b V.2.2) (some 1) :: As)) (cQr (some (.int r))) 0 0 (fun _ => False))
    (hsim : ∀ S, RJ V.2.1 S V.1 → f S = some v)
    (hw : Cond.methodLink "CascaderyLaw" idx y ∈ BG ∧ Cond.instanceMethod y ∈ BG ∧ Cond.selects y.cls y y ∈ BG ∧ Cond.initialized y.cls ∈ BG ∧ Cond.code y cy maxL rt ∈ BG) (hcl : y.cls = (cRow 11).1)
    (hy : y.cls ≠ "java/lang/invoke/MethodHandle" ∧ y.cls ≠ "java/lang/invoke/VarHandle" ∧ (parseMethodDescriptor y.desc).map (fun d => d.parameters.length) = some n) (hn : As.length = n)
    (hr : fr + 1 ≤ fR ∧ 8 + (maxL + 11) + lo ≤ lR) (hl : ls.size = nL) (hW : rest.length ≤ 4) (hdg : decode cc pc = .ok (.invokevirtual idx, 3)) (hst : st0 = As.reverse ++ cv (lwO b) (some 1) :: rest) (hf : cells ≤ mC ∧ slots ≤ mS)
    (kk : W p l e (rA fR mC mS lR) s m args below meth c H locs cells slots Q (F0 m (pc + 3) ls (.int v :: rest))) : W p l e (rA fR mC mS lR) s m args below meth c H locs cells slots Q (F0 m pc ls st0) := by
  obtain ⟨⟨S, hJ, hP⟩, hAr⟩ := hI
  have hr9 := c_runVz (e := e) (below := below) (locs := locs) (Φ := lwF b V.2.2) X.1 (hM S _ (hsim S hJ)) hJ.rcs ⟨by decide, by decide⟩ hw hcl hy hn hr hP (lwZ X hS) hl hW hdg hst hf
  exact c_cr hr9 kk
theorem l_after {v : Option Value} {mc ms : Nat} {st0 : List Value} {a : Array Value} (hr : va_Run p l e R s m args below meth c H locs cells slots mc ms (F0 m pc ls st0) rest (lwQ D b V' v a) (cReg (lwO b))) (hS : va_S (cReg (lwO b)) s.heap H locs)
    (kk : ∀ (H1 : Heap) (locs1 : List Loc), lwI D b V' H1 → va_S (cReg (lwO b)) s.heap H1 locs1 → W p l e R s m args below meth c H1 locs1 (cells + mc) (slots + ms) Q (F0 m (pc + 3) ls (v.toList ++ rest))) : W p l e R s m args below meth c H locs cells slots Q (F0 m pc ls st0) := by
  intro T hT X
  obtain ⟨v', st₀, t, T', L, h0, X', hL, e1, e2, ⟨hv, hp, hF⟩, st⟩ := hr T hT X
  cases hv
  obtain ⟨k1, k2, k3⟩ := vx_keep h0 e1 hS (fun _ _ h => h) (fun _ h => h) hL hF
  obtain ⟨t2, a1, b1⟩ := kk T'.heap (locs ++ L) (by rw [e1]; exact hp) k3 T' rfl X'
  exact ⟨t2, st t2 a1, b1⟩
theorem l_runS {y : MethodName} {cy : ByteArray} {maxL : Nat} {rt : Option FieldType} {fr mc ms lo idx n : Nat} {Qc : Array Value → State → Outcome → State → Prop} {free : Addr → Prop} {As st0 : List Value} (X : lwX p s m args meth c cc nL ret D b) (hM : Met l y (Cond.code y cy maxL rt :: BG) (rA fr mc ms lo) (lwPc D b V As) Qc mc ms free)
    (hw : Cond.methodLink "CascaderyLaw" idx y ∈ BG ∧ Cond.static y ∈ BG ∧ Cond.initialized y.cls ∈ BG ∧ Cond.code y cy maxL rt ∈ BG)
    (hy : y.cls ≠ "java/lang/invoke/MethodHandle" ∧ y.cls ≠ "java/lang/invoke/VarHandle" ∧ (parseMethodDescriptor y.desc).map (fun d => d.parameters.length) = some n) (hn : As.length = n)
    (hr : fr + 1 ≤ fR ∧ 8 + (maxL + 11) + lo ≤ lR) (hI : lwI D b V H) (hS : va_S (cReg (lwO b)) s.heap H locs) (hl : ls.size = nL) (hW : rest.length ≤ 4) (hdg : decode cc pc = .ok (.invokestatic idx, 3)) (hst : st0 = As.reverse ++ rest) (hf : cells + mc ≤ mC ∧ slots + ms ≤ mS) :
    va_Run p l e (rA fR mC mS lR) s m args below meth c H locs cells slots mc ms (F0 m pc ls st0) rest (Qc As.toArray) free := by
  subst hst
  have hG : GoodIn BG (va_wsS "CascaderyLaw" idx y (Cond.code y cy maxL rt :: BG)) := bg_all (fun w h => by
    rcases List.mem_append.mp h with h | h
    · rcases List.mem_cons.mp h with rfl | h
      · exact hw.1
      · rcases List.mem_cons.mp h with rfl | h
        · exact hw.2.1
        · rw [List.mem_singleton.mp h]
          exact hw.2.2.1
    · rcases List.mem_cons.mp h with rfl | h
      · exact hw.2.2.2
      · exact h)
  exact va_runS (As := As) (rest := rest) (n := n) ⟨X.1.1, X.1.2.1, X.1.2.2.1, X.1.2.2.2.1, X.1.2.2.2.2.1⟩ hM (va_cwS n X.1.2.2.2.2.1 hG rfl rfl rfl hy hr) ⟨lw_blind, lw_pre X hI hS⟩ rfl hn hl rfl (lv_room (c_sum rest hW)) hdg hf
theorem l_runW {y : MethodName} {cy : ByteArray} {maxL : Nat} {hh : List (Nat × Nat × Nat × Nat)} {fr mc ms lo idx n : Nat} {Qc : Array Value → State → Outcome → State → Prop} {free : Addr → Prop} {As st0 : List Value} (X : lwX p s m args meth c cc nL ret D b) (hM : Met l y (Cond.codeWith y cy maxL (some .int) hh :: BG) (rA fr mc ms lo) (lwPc D b V As) Qc mc ms free)
    (hw : Cond.methodLink "CascaderyLaw" idx y ∈ BG ∧ Cond.static y ∈ BG ∧ Cond.initialized y.cls ∈ BG ∧ Cond.codeWith y cy maxL (some .int) hh ∈ BG)
    (hy : y.cls ≠ "java/lang/invoke/MethodHandle" ∧ y.cls ≠ "java/lang/invoke/VarHandle" ∧ (parseMethodDescriptor y.desc).map (fun d => d.parameters.length) = some n) (hn : As.length = n)
    (hr : fr + 1 ≤ fR ∧ 8 + (maxL + 11) + lo ≤ lR) (hI : lwI D b V H) (hS : va_S (cReg (lwO b)) s.heap H locs) (hl : ls.size = nL) (hW : rest.length ≤ 4) (hdg : decode cc pc = .ok (.invokestatic idx, 3)) (hst : st0 = As.reverse ++ rest) (hf : cells + mc ≤ mC ∧ slots + ms ≤ mS) :
    va_Run p l e (rA fR mC mS lR) s m args below meth c H locs cells slots mc ms (F0 m pc ls st0) rest (Qc As.toArray) free := by
  subst hst
  have hG : GoodIn BG (va_wsS "CascaderyLaw" idx y (Cond.codeWith y cy maxL (some .int) hh :: BG)) := bg_all (fun w h => by
    rcases List.mem_append.mp h with h | h
    · rcases List.mem_cons.mp h with rfl | h
      · exact hw.1
      · rcases List.mem_cons.mp h with rfl | h
        · exact hw.2.1
        · rw [List.mem_singleton.mp h]
          exact hw.2.2.1
    · rcases List.mem_cons.mp h with rfl | h
      · exact hw.2.2.2
      · exact h)
  exact vx_runSW (As := As) (rest := rest) (n := n) ⟨X.1.1, X.1.2.1, X.1.2.2.1, X.1.2.2.2.1, X.1.2.2.2.2.1⟩ hM (vx_cwSW n X.1.2.2.2.2.1 hG rfl rfl rfl hy hr) ⟨lw_blind, lw_pre X hI hS⟩ rfl hn hl rfl (lv_room (c_sum rest hW)) hdg hf
theorem l_ald {a : Nat} {i v : Int32} (X : lwX p s m args meth c cc nL ret D b) (hI : lwI D b V H) (h : ldA V a i = some v) (hdg : decode cc pc = .ok (.iaload, 1)) (kk : W p l e R s m args below meth c H locs cells slots Q (F0 m (pc + 1) ls (.int v :: rest))) : W p l e R s m args below meth c H locs cells slots Q (F0 m pc ls (.int i :: .ref a :: rest)) := by
  obtain ⟨q, hq, h9⟩ := ob h
  by_cases hc : i < 0 ∨ q.1 ≤ i.toNatClampNeg
  · rw [if_pos hc] at h9; cases h9
  · rw [if_neg hc] at h9
    have hv := Option.some.inj h9
    have hlt : i.toNatClampNeg < q.1 := Nat.not_le.mp fun z => hc (Or.inr z)
    have hA := (hI.2 a q.1 q.2 hq).2
    exact W.iald (v := .int v) X.1.1 X.1.2.1 hA ((X.1.2.2.2.2.2.1.2.1 20 .int rfl).1 q.1 (fun j => .int (q.2 j))) (fun z => by cases z) (by show ¬ (i < 0 ∨ (arrV _ _ _).slots.size ≤ _); rw [arrV_size]; exact hc) (by show (arrV _ _ _).slots[_]? = _; rw [arrV_read _ _ hlt, hv]) rfl rfl hdg kk
theorem l_ast {a : Nat} {i v : Int32} (X : lwX p s m args meth c cc nL ret D b) (hI : lwI D b V H) (hS : va_S (cReg (lwO b)) s.heap H locs) (h : stA V a i v = some V') (hdg : decode cc pc = .ok (.iastore, 1)) (kk : ∀ (H1 : Heap) (locs1 : List Loc), lwI D b V' H1 → va_S (cReg (lwO b)) s.heap H1 locs1 → W p l e R s m args below meth c H1 locs1 cells slots Q (F0 m (pc + 1) ls rest)) : W p l e R s m args below meth c H locs cells slots Q (F0 m pc ls (.int v :: .int i :: .ref a :: rest)) := by
  obtain ⟨q, hq, h9⟩ := ob h
  by_cases hc : i < 0 ∨ q.1 ≤ i.toNatClampNeg
  · rw [if_pos hc] at h9; cases h9
  · rw [if_neg hc] at h9
    have hv := Option.some.inj h9
    subst hv
    obtain ⟨⟨S, hJ, hP⟩, hAr⟩ := hI
    obtain ⟨ha, hA⟩ := hAr a q.1 q.2 hq
    have hole : (V.2.2 a).isSome = true := by rw [hq]; rfl
    have eF : lwF b (fun x => if x = a then some (q.1, upd q.2 i.toNatClampNeg v) else V.2.2 x) = lwF b V.2.2 := by
      unfold lwF
      congr 2
      funext x
      show (if x = a then some (q.1, upd q.2 i.toNatClampNeg v) else V.2.2 x).isSome = (V.2.2 x).isSome
      by_cases hx : x = a
      · rw [if_pos hx, hx, hole]; rfl
      · rw [if_neg hx]
    refine W.iast X.1.1 X.1.2.1 hA ((X.1.2.2.2.2.2.1.2.1 20 .int rfl).1 q.1 (fun j => .int (q.2 j))) (fun z => by cases z) (by show ¬ (i < 0 ∨ (arrV _ _ _).slots.size ≤ _); rw [arrV_size]; exact hc) rfl rfl hdg fun H1 e z oq => ?_
    refine kk H1 _ ⟨⟨S, hJ, ?_⟩, ?_⟩ (hS.put z oq ⟨ha, rfl⟩)
    · show cP D (lwF b (fun x => if x = a then some (q.1, upd q.2 i.toNatClampNeg v) else V.2.2 x)) S H1
      rw [eF]
      obtain ⟨h1, h2, h3, h4, h5⟩ := hP
      refine ⟨fun a' c' ha' => ⟨(h1 a' c' ha').1.kept (oq _ (fun w => ?_)), (h1 a' c' ha').2⟩, h2, z.trans h3, h4, by rw [z]; exact h5⟩
      rcases (h1 a' c' ha').2 with h | h
      · subst h
        have : ph (lwF b V.2.2) 0 = b.1 := rfl
        have h4' : b.1 < b.2 := h4
        have w2 : b.1 = a := this.symm.trans w
        omega
      · have h' : (V.2.2 (ph (lwF b V.2.2) a')).isSome = false := h.2
        rw [w, hole] at h'
        cases h'
    · intro x N f hx
      have hx : (if x = a then some (q.1, upd q.2 i.toNatClampNeg v) else V.2.2 x) = some (N, f) := hx
      by_cases hxa : x = a
      · rw [if_pos hxa] at hx
        cases hx
        subst hxa
        refine ⟨ha, ?_⟩
        rw [e, arrV_store]
        congr 2
        funext j
        by_cases hj : j = i.toNatClampNeg
        · subst hj
          simp [updV, upd]
        · simp [updV, upd, hj]
      · rw [if_neg hxa] at hx
        obtain ⟨g1, g2⟩ := hAr x N f hx
        exact ⟨g1, (oq x hxa).trans g2⟩
theorem l_new {N : Nat} {n : Int32} (X : lwX p s m args meth c cc nL ret D b) (hI : lwI D b V H) (hS : va_S (cReg (lwO b)) s.heap H locs) (hw : Cond.arrayClass .int ∈ BG) (hn : ¬ n < 0) (hN : n.toNatClampNeg = N) (hbytes : N * 4 ≤ 536870912) (hcells : cells + 1 ≤ R.cells) (hslots : slots + N ≤ R.slots) (hdg : decode cc pc = .ok (.newarray .int, 2))
    (kk : ∀ (a : Nat) (H1 : Heap), V.2.2 a = none → b.2 ≤ a → lwI D b (nwA V a N) H1 → va_S (cReg (lwO b)) s.heap H1 locs → W p l e R s m args below meth c H1 locs (cells + 1) (slots + N) Q (F0 m (pc + 2) ls (.ref a :: rest))) : W p l e R s m args below meth c H locs cells slots Q (F0 m pc ls (.int n :: rest)) := by
  obtain ⟨⟨S, hJ, hP⟩, hAr⟩ := hI
  obtain ⟨⟨hx, hb, -, hown, hts, hK, -⟩, -⟩ := X
  refine va_newaK (atype := .int) hx hb (hts _ hw) rfl hdg rfl hn hN hbytes hcells hslots rfl fun H1 cA e1 z1 o1 hAr9 hNm => ?_
  have hcA : cA = D.2.2 20 := Option.some.inj (hNm.symm.trans (hK.2.1 20 .int rfl).2)
  obtain ⟨h1, h2, h3, h4, h5⟩ := hP
  have fresh : V.2.2 H.size = none := by
    cases hq : V.2.2 H.size with
    | none => rfl
    | some q =>
      have := h5 H.size (by show (V.2.2 H.size).isSome = true; rw [hq]; rfl)
      omega
  have hp2 : ph (lwF b V.2.2) S.2 = b.2 + (S.2 - 1) := by unfold ph; rw [if_neg (by omega)]; rfl
  have hle : b.2 ≤ H.size := by omega
  refine kk H.size H1 fresh hle ⟨⟨(fun x => if x = S.2 then none else S.1 x, S.2 + 1), hJ.clr, ?_⟩, ?_⟩ (c_vaS hS z1 o1)
  · refine ⟨fun a' c' ha' => ?_, by show 1 ≤ S.2 + 1; omega, ?_, h4, fun q hq => ?_⟩
    · have ha' : (if a' = S.2 then none else S.1 a') = some c' := ha'
      have hne : a' ≠ S.2 := fun w => by rw [if_pos w] at ha'; cases ha'
      rw [if_neg hne] at ha'
      obtain ⟨g1, g2⟩ := h1 a' c' ha'
      refine ⟨cAt.push (Φ := lwF b V.2.2) g1 o1, g2.imp id (fun g => ⟨g.1, ?_⟩)⟩
      have g2' : (V.2.2 (ph (lwF b V.2.2) a')).isSome = false := g.2
      show (if ph (lwF b V.2.2) a' = H.size then some (N, fun _ => (0 : Int32)) else V.2.2 (ph (lwF b V.2.2) a')).isSome = false
      have hlt : ph (lwF b V.2.2) a' ≠ H.size := fun w => hne (ph_inj (Φ := lwF b V.2.2) h4 (w.trans h3))
      rw [if_neg hlt]
      exact g2'
    · show H1.size = ph (lwF b (nwA V H.size N).2.2) (S.2 + 1)
      have : ph (lwF b (nwA V H.size N).2.2) (S.2 + 1) = b.2 + (S.2 + 1 - 1) := by unfold ph; rw [if_neg (by omega)]; rfl
      omega
    · have hq : (if q = H.size then some (N, fun _ => (0 : Int32)) else V.2.2 q).isSome = true := hq
      by_cases hqs : q = H.size
      · omega
      · rw [if_neg hqs] at hq
        have := h5 q hq
        omega
  · intro x N' f hx9
    have hx9 : (if x = H.size then some (N, fun _ => (0 : Int32)) else V.2.2 x) = some (N', f) := hx9
    by_cases hxs : x = H.size
    · rw [if_pos hxs] at hx9
      cases hx9
      subst hxs
      exact ⟨hle, by rw [e1, hcA]; rfl⟩
    · rw [if_neg hxs] at hx9
      obtain ⟨g1, g2⟩ := hAr x N' f hx9
      exact ⟨g1, (o1 x (Array.getElem?_eq_some_iff.mp g2).1).trans g2⟩
theorem l_ri {v : Int32} (X : lwX p s m args meth c cc nL (some .int) D b) (hI : lwI D b V' H) (hS : va_S (cReg (lwO b)) s.heap H locs) (h1 : cells ≤ mC) (h2 : slots ≤ mS) (hdg : decode cc pc = .ok (.ireturn, 1)) : W p l e (rA fR mC mS lR) s m args below meth c H locs cells slots (MQ below (lwQ D b V' (some (.int v))) args s mC mS (cReg (lwO b))) (F0 m pc ls [.int v]) :=
  W.widen h1 h2 (W.iret X.1.1 X.1.2.1 X.1.2.2.2.2.2.2.2.1 (fun t ht _ => ⟨rfl, by rw [ht]; exact hI, hS.F ht⟩) hS.2.2 hdg X.1.2.2.2.2.2.2.2.2)
theorem l_rz {v : Int32} (hv : v = 0 ∨ v = 1) (X : lwX p s m args meth c cc nL (some .boolean) D b) (hI : lwI D b V' H) (hS : va_S (cReg (lwO b)) s.heap H locs) (h1 : cells ≤ mC) (h2 : slots ≤ mS) (hdg : decode cc pc = .ok (.ireturn, 1)) : W p l e (rA fR mC mS lR) s m args below meth c H locs cells slots (MQ below (lwQ D b V' (some (.int v))) args s mC mS (cReg (lwO b))) (F0 m pc ls [.int v]) :=
  W.widen h1 h2 (W.zret X.1.1 X.1.2.1 X.1.2.2.2.2.2.2.2.1 (nz hv) (fun t ht _ => ⟨rfl, by rw [ht]; exact hI, hS.F ht⟩) hS.2.2 hdg X.1.2.2.2.2.2.2.2.2)
end LP
