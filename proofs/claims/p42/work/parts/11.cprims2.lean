def nw (S : cS) (ci : Nat) : cS := (fun b => if b = S.2 then some (ci, 0, fun _ => 0, fun _ => none) else S.1 b, S.2 + 1)
def na (S : cS) (tag N : Nat) : cS := (fun b => if b = S.2 then some (tag, N, fun _ => 0, fun _ => none) else S.1 b, S.2 + 1)
theorem cAt.push {D : cD} {Φ : cG} {a : Nat} {c : cE} {H H1 : Heap} (h : cAt D Φ a c H) (o : ∀ q, q < H.size → H1[q]? = H[q]?) : cAt D Φ a c H1 := by
  refine ⟨fun z => ?_, fun ty z => ?_⟩
  · have h1 := h.1 z
    obtain ⟨cell, q1, -⟩ := h1
    exact (h.1 z).kept (o _ (Array.getElem?_eq_some_iff.mp q1).1)
  · refine ⟨fun y => (o _ (Array.getElem?_eq_some_iff.mp ((h.2 ty z).1 y)).1).trans ((h.2 ty z).1 y), fun y => ?_⟩
    obtain ⟨g1, cell, g2, g3⟩ := (h.2 ty z).2 y
    exact ⟨g1, cell, (o _ (Array.getElem?_eq_some_iff.mp g2).1).trans g2, g3⟩
theorem cP.push {D : cD} {Φ : cG} {S : cS} {H H1 : Heap} (hP : cP D Φ S H) {c : cE} (z : H1.size = H.size + 1) (o : ∀ q, q < H.size → H1[q]? = H[q]?) (hc : cAt D Φ S.2 c H1) : cP D Φ (fun b => if b = S.2 then some c else S.1 b, S.2 + 1) H1 := by
  obtain ⟨h1, h2, h3, h4, h5⟩ := hP
  have e : ph Φ S.2 = Φ.2.1 + (S.2 - 1) := by unfold ph; rw [if_neg (by omega)]
  refine ⟨fun a c' ha => ?_, by omega, ?_, h4, fun q hq => by have := h5 q hq; omega⟩
  · by_cases hb : a = S.2
    · subst hb
      simp only [if_true] at ha
      cases ha
      exact ⟨hc, Or.inr ⟨by omega, hole_no h5 (by omega)⟩⟩
    · simp only [if_neg hb] at ha
      exact ⟨(h1 a c' ha).1.push o, (h1 a c' ha).2⟩
  · show H1.size = ph Φ (S.2 + 1)
    have e2 : ph Φ (S.2 + 1) = Φ.2.1 + (S.2 + 1 - 1) := by unfold ph; rw [if_neg (by omega)]
    omega
theorem c_vaS {A : Nat → Prop} {H0 H H1 : Heap} {locs : List Loc} (hS : va_S A H0 H locs) (z : H1.size = H.size + 1) (o : ∀ q, q < H.size → H1[q]? = H[q]?) : va_S A H0 H1 locs := ⟨Nat.le_trans hS.1 (by omega), fun x h1 h2 => (o x (Nat.lt_of_lt_of_le h1 hS.1)).trans (hS.2.1 x h1 h2), hS.2.2⟩
theorem c_tag : ∀ x, x < 12 → cTy x = none := by decide
section CW2
variable {p : Program} {l : Launch} {e : Env} {R : Room} {s : State} {m : MethodId} {args : Array Value} {below : List Frame} {meth : Method} {c : Code} {H : Heap} {locs : List Loc} {cells slots : Nat} {Q : State → Prop} {cc : ByteArray} {pc : Nat} {ls : Array Slot} {rest : List Value} {D : cD} {Φ : cG} {nL : Nat} {S : cS} {ret : Option FieldType} {own : String}
theorem c_new (X : cX p s m args meth c cc nL ret own D Φ) (hP : cP D Φ S H) (hS : va_S (cReg Φ) s.heap H locs) {ci : Nat} (hci : ci < 12 ∧ ci ≠ 4) {idx : Nat} (hw : Cond.classLink own idx (cRow ci).1 ∈ BG ∧ Cond.instantiable (cRow ci).1 (cRow ci).2.2 ∈ BG ∧ Cond.initialized (cRow ci).1 ∈ BG) (hcells : cells + 1 ≤ R.cells) (hslots : slots + (cRow ci).2.2 ≤ R.slots) (hdg : decode cc pc = .ok (.new idx, 3))
    (kk : ∀ H1 : Heap, cP D Φ (nw S ci) H1 → va_S (cReg Φ) s.heap H1 locs → W p l e R s m args below meth c H1 locs (cells + 1) (slots + (cRow ci).2.2) Q (F0 m (pc + 3) ls (cv Φ (some S.2) :: rest))) : W p l e R s m args below meth c H locs cells slots Q (F0 m pc ls rest) := by
  obtain ⟨hx, hb, -, hown, hts, hK, -⟩ := X
  have hKn := hK.1 ci hci.1 hci.2
  refine W.newcK hx hb hown (hts _ hw.1) (hts _ hw.2.1) (hts _ hw.2.2) rfl hdg hcells hslots hKn.2.1 rfl fun H1 kC hkC e1 z1 o1 => ?_
  have hc : cAt D Φ S.2 (ci, 0, fun _ => 0, fun _ => none) H1 := by
    refine ⟨fun _ => ?_, fun ty hty => ?_⟩
    · have h9 := u_born (cTyF ci) hts (c_in ci hci.1) hKn hkC e1 (c_ok1 ci hci.1)
      rw [hP.2.2.1] at h9
      refine h9.to (fun k hk => ?_)
      rcases c_ok4 ci hci.1 k hk with ⟨r1, r2⟩ | ⟨r1, r2⟩
      · unfold cV
        rw [if_pos r1]
        revert r2
        cases cTyF ci k <;> intro r2 <;> first | rfl | (cases r2; done)
      · unfold cV
        rw [if_neg (by rw [r1]; decide)]
        rcases r2 with r2 | r2 <;> rw [r2] <;> rfl
    · rw [c_tag ci hci.1] at hty
      cases hty
  have h8 := kk H1 (hP.push z1 o1 hc) (c_vaS hS z1 o1)
  rw [show cv Φ (some S.2) = .ref H.size by rw [hP.2.2.1]; rfl] at h8
  exact h8
theorem c_newa (X : cX p s m args meth c cc nL ret own D Φ) (hP : cP D Φ S H) (hS : va_S (cReg Φ) s.heap H locs) {N : Nat} {n : Int32} (hw : Cond.arrayClass .int ∈ BG) (hn : ¬ n < 0) (hN : n.toNatClampNeg = N) (hbytes : N * 4 ≤ 536870912) (hcells : cells + 1 ≤ R.cells) (hslots : slots + N ≤ R.slots) (hdg : decode cc pc = .ok (.newarray .int, 2))
    (kk : ∀ H1 : Heap, cP D Φ (na S 20 N) H1 → va_S (cReg Φ) s.heap H1 locs → W p l e R s m args below meth c H1 locs (cells + 1) (slots + N) Q (F0 m (pc + 2) ls (cv Φ (some S.2) :: rest))) : W p l e R s m args below meth c H locs cells slots Q (F0 m pc ls (.int n :: rest)) := by
  obtain ⟨hx, hb, -, hown, hts, hK, -⟩ := X
  refine va_newaK (atype := .int) hx hb (hts _ hw) rfl hdg rfl hn hN hbytes hcells hslots rfl fun H1 cA e1 z1 o1 hAr hNm => ?_
  have hcA : cA = D.2.2 20 := Option.some.inj (hNm.symm.trans (hK.2.1 20 .int rfl).2)
  have hc : cAt D Φ S.2 (20, N, fun _ => 0, fun _ => none) H1 := by
    refine ⟨fun h => absurd (show (20 : Nat) < 12 from h) (by decide), fun ty hty => ⟨fun _ => ?_, fun z0 => absurd hP.2.1 (by omega)⟩⟩
    have e2 : cArr Φ ((20 : Nat), N, (fun _ => (0 : Int32)), (fun _ => (none : Option Nat))) = (N, .inl (fun _ => 0)) := rfl
    rw [e2, ← hP.2.2.1, e1, hcA]
    rfl
  have h8 := kk H1 (hP.push z1 o1 hc) (c_vaS hS z1 o1)
  rw [show cv Φ (some S.2) = .ref H.size by rw [hP.2.2.1]; rfl] at h8
  exact h8
theorem c_newq (X : cX p s m args meth c cc nL ret own D Φ) (hP : cP D Φ S H) (hS : va_S (cReg Φ) s.heap H locs) {ci N : Nat} {n : Int32} (hci : ci < 12) (hty : cTy (30 + ci) = some (.object (cRow ci).1)) {idx : Nat} (hw : Cond.classLink own idx (cRow ci).1 ∈ BG) (hn : ¬ n < 0) (hN : n.toNatClampNeg = N) (hbytes : N * 4 ≤ 536870912) (hcells : cells + 1 ≤ R.cells) (hslots : slots + N ≤ R.slots) (hdg : decode cc pc = .ok (.anewarray idx, 3))
    (kk : ∀ H1 : Heap, cP D Φ (na S (30 + ci) N) H1 → va_S (cReg Φ) s.heap H1 locs → W p l e R s m args below meth c H1 locs (cells + 1) (slots + N) Q (F0 m (pc + 3) ls (cv Φ (some S.2) :: rest))) : W p l e R s m args below meth c H locs cells slots Q (F0 m pc ls (.int n :: rest)) := by
  obtain ⟨hx, hb, -, hown, hts, hK, -⟩ := X
  subst hN
  refine W.anew hx hb hown (hts _ hw) (va_AO.use (hK.2.2.2.1 ci hci (by rw [hty]; rfl))) rfl hdg rfl hn hbytes hcells hslots fun cA kA comp f1 f2 f3 f4 => ?_
  generalize hH1 : H.push ({ cls := cA, slots := Array.replicate n.toNatClampNeg .null, vm := .none } : Cell) = H1
  have z1 : H1.size = H.size + 1 := by rw [← hH1, Array.size_push]
  have e1 : H1[H.size]? = some (arrV cA n.toNatClampNeg (fun _ => .null)) := by rw [← hH1, Array.getElem?_push_size, ← arrV_new]
  have o1 : ∀ q : Nat, q < H.size → H1[q]? = H[q]? := fun q hq => by rw [← hH1, Array.getElem?_push, if_neg (Nat.ne_of_lt hq)]
  obtain ⟨kA', comp', -, -, -, k4⟩ := (hK.2.1 (30 + ci) _ hty).2
  have hcA : cA = D.2.2 (30 + ci) := Option.some.inj (f1.symm.trans k4)
  have hc : cAt D Φ S.2 (30 + ci, n.toNatClampNeg, fun _ => 0, fun _ => none) H1 := by
    refine ⟨fun h => absurd (show 30 + ci < 12 from h) (by omega), fun ty hty => ⟨fun _ => ?_, fun z0 => absurd hP.2.1 (by omega)⟩⟩
    have e2 : cArr Φ ((30 + ci : Nat), n.toNatClampNeg, (fun _ => (0 : Int32)), (fun _ => (none : Option Nat))) = (n.toNatClampNeg, .inr (.inr (.inr (.inr (fun _ => none))))) := by
      unfold cArr
      rw [if_neg (by show ¬ 30 + ci = 20; omega)]
      rfl
    rw [e2, ← hP.2.2.1, e1, hcA]
    rfl
  have h8 := kk H1 (hP.push z1 o1 hc) (c_vaS hS z1 o1)
  rw [show cv Φ (some S.2) = .ref H.size by rw [hP.2.2.1]; rfl] at h8
  exact h8
theorem c_astq (X : cX p s m args meth c cc nL ret own D Φ) (hP : cP D Φ S H) (hS : va_S (cReg Φ) s.heap H locs) {r v : Option Nat} {ci : Nat} {i : Int32} {S' : cS} (h : sR S r ci i v = some S') (hci : ci < 12 ∧ ci ≠ 4) (hty : cTy (30 + ci) = some (.object (cRow ci).1)) (hdg : decode cc pc = .ok (.aastore, 1))
    (kk : ∀ (H1 : Heap) (locs1 : List Loc), cP D Φ S' H1 → va_S (cReg Φ) s.heap H1 locs1 → W p l e R s m args below meth c H1 locs1 cells slots Q (F0 m (pc + 1) ls rest)) : W p l e R s m args below meth c H locs cells slots Q (F0 m pc ls (cv Φ v :: .int i :: cv Φ r :: rest)) := by
  obtain ⟨q, hq, h9⟩ := ob h
  obtain ⟨rfl, h2, h3⟩ := gc_spec hq
  by_cases hc : q.1 = 0 ∨ i < 0 ∨ q.2.2.1 ≤ i.toNatClampNeg ∨ okR S v ci = false
  · rw [if_pos hc] at h9; cases h9
  · rw [if_neg hc] at h9
    have hv := Option.some.inj h9
    subst hv
    have hin : ¬ (i < 0 ∨ q.2.2.1 ≤ i.toNatClampNeg) := fun z => hc (Or.inr (z.elim Or.inl (fun z => Or.inr (Or.inl z))))
    have ha : q.1 ≠ 0 := fun z => hc (Or.inl z)
    have hok : ¬ okR S v ci = false := fun z => hc (Or.inr (Or.inr (Or.inr z)))
    have h0 : ¬ i < 0 := fun z => hin (Or.inl z)
    have hlt : i.toNatClampNeg < q.2.2.1 := Nat.not_le.mp fun z => hin (Or.inr z)
    have hA := ((hP.1 _ _ h2).1.2 (.object (cRow ci).1) (by rw [h3]; exact hty)).1 ha
    rw [c_arr (by rw [h3]; omega)] at hA
    have hK := X.2.2.2.2.2.1
    have hKA := hK.2.1 q.2.1 (.object (cRow ci).1) (by rw [h3]; exact hty)
    have upd9 : ∀ H1 : Heap, H1[ph Φ q.1]? = some ((vp_cell (D.2.2 q.2.1) (q.2.2.1, .inr (.inr (.inr (.inr (fun j => (q.2.2.2.2 j).map (ph Φ))))))).setSlot i.toNatClampNeg (cv Φ v)) → H1.size = H.size → (∀ z, z ≠ ph Φ q.1 → H1[z]? = H[z]?) → W p l e R s m args below meth c H1 (locs ++ [⟨ph Φ q.1, i.toNatClampNeg⟩]) cells slots Q (F0 m (pc + 1) ls rest) := by
      intro H1 e z oq
      refine kk H1 _ (hP.set h2 ⟨fun z9 => ?_, fun ty hty9 => ?_⟩ z oq) (hS.put z oq (((hP.1 _ _ h2).2).resolve_left ha))
      · exfalso
        have : q.2.1 < 12 := z9
        omega
      · refine ⟨fun _ => ?_, fun z0 => absurd z0 ha⟩
        have eB : cArr Φ (q.2.1, q.2.2.1, q.2.2.2.1, updR q.2.2.2.2 i.toNatClampNeg v) = (q.2.2.1, .inr (.inr (.inr (.inr (fun j => (updR q.2.2.2.2 i.toNatClampNeg v j).map (ph Φ)))))) := by
          unfold cArr
          rw [if_neg (by show ¬ q.2.1 = 20; omega)]
        rw [eB, e, vp_cell_q, vp_cell_q, arrV_store]
        congr 2
        funext y
        by_cases hy : y = i.toNatClampNeg
        · subst hy
          simp [updV, updR, cv]
        · simp [updV, updR, hy]
    cases v with
    | none =>
      exact va_WaastN (C := (cRow ci).1) X.1 X.2.1 hA (hKA.1 q.2.2.1 (fun j => va_rf ((q.2.2.2.2 j).map (ph Φ)))) (fun h => by cases h) (by show ¬ (i < 0 ∨ (arrV _ _ _).slots.size ≤ _); rw [arrV_size]; exact hin) rfl rfl hdg upd9
    | some b =>
      have hok2 : (gc S (some b) ci).isSome = true := by
        have h7 : ¬ (gc S (some b) ci).isSome = false := hok
        revert h7
        cases (gc S (some b) ci).isSome <;> simp
      obtain ⟨w, hw⟩ := Option.isSome_iff_exists.mp hok2
      obtain ⟨w1, w2, w3⟩ := gc_spec hw
      cases w1
      obtain ⟨cellV, g1, g2, g3, -⟩ := (hP.1 _ _ w2).1.1 (by rw [w3]; exact hci.1)
      have hcls := (hK.1 ci hci.1 hci.2).2
      obtain ⟨kA, comp, k1, k2, k3, -⟩ := hKA.2
      have hcomp : comp = D.1 ci := Option.some.inj (k3.symm.trans hcls.1)
      subst hcomp
      obtain ⟨kC, hkC, -⟩ := hcls.2
      exact W.aast X.1 X.2.1 hA (fun q h => by cases h) (fun h => by cases h) k1 k2 rfl hkC ⟨h0, by show _ < (arrV _ _ _).slots.size; rw [arrV_size]; exact hlt⟩ g1 (fun q h => by rw [g3] at h; cases h) (by rw [g2, w3]; exact hkC) (by rw [g2, w3]; exact va_assign hcls) rfl rfl hdg upd9
theorem c_runI {y : MethodName} {cy : ByteArray} {maxL : Nat} {fr mc ms lo fR mC mS lR idx n ci a : Nat} {r : Option Nat} {Qc : Array Value → State → Outcome → State → Prop} {free : Addr → Prop} {As st0 : List Value} (X : cX p s m args meth c cc nL ret own D Φ) (hM : Met l y (Cond.code y cy maxL none :: BG) (rA fr mc ms lo) (cPc D Φ S (cv Φ (some a) :: As)) Qc mc ms free) (hrc : rc S r ci = some a) (hci : ci < 12)
    (hw : Cond.methodLink own idx y ∈ BG ∧ Cond.instanceMethod y ∈ BG ∧ Cond.initialized y.cls ∈ BG ∧ Cond.code y cy maxL none ∈ BG) (hcl : y.cls = (cRow ci).1) (hnm : y.name = "<init>")
    (hy : y.cls ≠ "java/lang/invoke/MethodHandle" ∧ y.cls ≠ "java/lang/invoke/VarHandle" ∧ (parseMethodDescriptor y.desc).map (fun d => d.parameters.length) = some n) (hn : As.length = n)
    (hr : fr + 1 ≤ fR ∧ 8 + (maxL + 11) + lo ≤ lR) (hP : cP D Φ S H) (hS : va_S (cReg Φ) s.heap H locs) (hl : ls.size = nL) (hW : rest.length ≤ 4) (hdg : decode cc pc = .ok (.invokespecial idx, 3)) (hst : st0 = As.reverse ++ cv Φ r :: rest) (hf : cells + mc ≤ mC ∧ slots + ms ≤ mS) :
    va_Run p l e (rA fR mC mS lR) s m args below meth c H locs cells slots mc ms (F0 m pc ls st0) rest (Qc (cv Φ (some a) :: As).toArray) free := by
  obtain ⟨q, hq, hqa⟩ := ob hrc
  have hqa := Option.some.inj hqa
  subst hqa
  obtain ⟨rfl, h2, h3⟩ := gc_spec hq
  subst hst
  have hts := X.2.2.2.2.1
  exact va_runI (b := ph Φ q.1) (As := As) (rest := rest) (n := n) ⟨X.1, X.2.1, X.2.2.1, X.2.2.2.1, X.2.2.2.2.1⟩ hM (cwI n hts (bg_self hw.2.2.2) rfl rfl rfl (hts _ hw.2.2.1) (hts _ hw.1) (hts _ hw.2.1) hnm hy hr) ⟨c_blind, c_pre X hP hS⟩ rfl hn hl rfl (lv_room (c_sum rest hW)) hdg hf
theorem c_runIN {y : MethodName} {cy : ByteArray} {maxL : Nat} {fr mc ms lo fR mC mS lR idx n ci a : Nat} {host : String} {r : Option Nat} {Qc : Array Value → State → Outcome → State → Prop} {free : Addr → Prop} {As st0 : List Value} (X : cX p s m args meth c cc nL ret own D Φ) (hM : Met l y (Cond.code y cy maxL none :: BG) (rA fr mc ms lo) (cPc D Φ S (cv Φ (some a) :: As)) Qc mc ms free) (hrc : rc S r ci = some a) (hci : ci < 12)
    (hw : Cond.methodLinkNest own idx y host ∈ cNest ∧ Cond.instanceMethod y ∈ BG ∧ Cond.initialized y.cls ∈ BG ∧ Cond.code y cy maxL none ∈ BG) (hcl : y.cls = (cRow ci).1) (hnm : y.name = "<init>")
    (hy : y.cls ≠ "java/lang/invoke/MethodHandle" ∧ y.cls ≠ "java/lang/invoke/VarHandle" ∧ (parseMethodDescriptor y.desc).map (fun d => d.parameters.length) = some n) (hn : As.length = n)
    (hr : fr + 1 ≤ fR ∧ 8 + (maxL + 11) + lo ≤ lR) (hP : cP D Φ S H) (hS : va_S (cReg Φ) s.heap H locs) (hl : ls.size = nL) (hW : rest.length ≤ 4) (hdg : decode cc pc = .ok (.invokespecial idx, 3)) (hst : st0 = As.reverse ++ cv Φ r :: rest) (hf : cells + mc ≤ mC ∧ slots + ms ≤ mS) :
    va_Run p l e (rA fR mC mS lR) s m args below meth c H locs cells slots mc ms (F0 m pc ls st0) rest (Qc (cv Φ (some a) :: As).toArray) free := by
  obtain ⟨q, hq, hqa⟩ := ob hrc
  have hqa := Option.some.inj hqa
  subst hqa
  obtain ⟨rfl, h2, h3⟩ := gc_spec hq
  subst hst
  have hts := X.2.2.2.2.1
  exact va_runIN (b := ph Φ q.1) (host := host) (As := As) (rest := rest) (n := n) ⟨X.1, X.2.1, X.2.2.1, X.2.2.2.1, X.2.2.2.2.1⟩ hM ⟨va_cnB n hts (bg_self hw.2.2.2) rfl rfl rfl (X.2.2.2.2.2.1.2.2.1 _ hw.1) (hts _ hw.2.2.1) hy hr, hnm, hts _ hw.2.1⟩ ⟨c_blind, c_pre X hP hS⟩ rfl hn hl rfl (lv_room (c_sum rest hW)) hdg hf
theorem lgs_r (r : Option Nat) (vs : List Value) : lg_sl (cv Φ r :: vs) = .val (cv Φ r) :: lg_sl vs := by
  unfold lg_sl
  rw [List.flatMap_cons, cv_cat]
  rfl
theorem lgs_i (x : Int32) (vs : List Value) : lg_sl (.int x :: vs) = .val (.int x) :: lg_sl vs := rfl
theorem lgs_l (x : Int64) (vs : List Value) : lg_sl (.long x :: vs) = .val (.long x) :: .second :: lg_sl vs := rfl
theorem lgs_0 : lg_sl [] = [] := rfl
end CW2
theorem w_oi : Cond.instanceMethod objectInit ∈ BG := bg_in 80 (by decide +kernel) (by decide +kernel)
theorem w_oc : Cond.code objectInit ⟨#[0xb1]⟩ 1 none ∈ BG := bg_in 81 (by decide +kernel) (by decide +kernel)
