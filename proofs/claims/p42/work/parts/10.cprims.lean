abbrev cE : Type := Nat × Nat × (Nat → Int32) × (Nat → Option Nat)
abbrev cS : Type := (Nat → Option cE) × Nat
abbrev cG : Type := Nat × Nat × (Nat → Bool)
abbrev cD : Type := (Nat → ClassId) × (Nat → Nat → Nat) × (Nat → ClassId)
def ph (Φ : cG) (a : Nat) : Nat := if a = 0 then Φ.1 else Φ.2.1 + (a - 1)
def cv (Φ : cG) (r : Option Nat) : Value := va_rf (r.map (ph Φ))
def cReg (Φ : cG) (q : Nat) : Prop := Φ.2.1 ≤ q ∧ Φ.2.2 q = false
theorem hole_no {Φ : cG} {n q : Nat} (h5 : ∀ q, Φ.2.2 q = true → q < n) (h : n ≤ q) : Φ.2.2 q = false := by
  cases e : Φ.2.2 q with
  | false => rfl
  | true => exact absurd (h5 q e) (by omega)
def cClsL : List vw_C := [(RX0, TX0, 5), (RX1, TX1, 14), (RX2, TX2, 10), (RX3, TX3, 20), (RX4, TX4, 0), (RX5, TX5, 7), (RX6, TX6, 15), (RX7, TX7, 13), (RX8, TX8, 5), (RX9, TX9, 14), (RX10, TX10, 5), (RX11, TX11, 16)]
def cRow (ci : Nat) : vw_C := cClsL.getD ci (RX0, TX0, 5)
def cTyL : List (Nat → FieldType) := [tyX0, tyX1, tyX2, tyX3, tyX4, tyX5, tyX6, tyX7, tyX8, tyX9, tyX10, tyX11]
def cTyF (ci : Nat) : Nat → FieldType := cTyL.getD ci tyX0
def cRfL : List (List Bool) := [[false, false, false, true, true], [true, true, true, true, false, false, true, true, false, false, false, false, false, true], [false, true, true, true, false, false, false, false, false, true], [false, false, false, false, false, false, false, false, true, true, true, true, true, true, false, true, true, true, true, true], [], [true, true, false, true, true, true, true], [false, true, true, false, false, false, false, false, true, true, true, true, false, false, true], [true, true, false, false, false, false, false, false, false, false, false, false, false], [false, false, true, false, false], [true, false, false, false, false, true, true, true, false, true, false, false, false, false], [true, false, false, false, true], [true, true, true, true, true, false, false, true, true, true, false, false, false, false, false, false]]
def cRf (ci k : Nat) : Bool := (cRfL.getD ci []).getD k false
def cTy (tag : Nat) : Option FieldType := match tag with
  | 20 => some .int
  | 50 => some (.array .int)
  | 30 => some (.object "Cascadery$Animation")
  | 33 => some (.object "Cascadery$Element")
  | 34 => some (.object "Cascadery$Listener")
  | 36 => some (.object "Cascadery$Rule")
  | 37 => some (.object "Cascadery$Selector")
  | 38 => some (.object "Cascadery$Sheet")
  | 39 => some (.object "Cascadery$Style")
  | _ => none
def cNest : List Cond := [Cond.methodLinkNest "Cascadery" 27 yX9_init "Cascadery", Cond.methodLinkNest "Cascadery$Element" 35 yX9_init "Cascadery", Cond.methodLinkNest "Cascadery$Matcher" 17 yX7_init "Cascadery", Cond.methodLinkNest "Cascadery" 60 yX0_init "Cascadery", Cond.methodLinkNest "Cascadery$Matcher" 113 yX11_isBelow "Cascadery", Cond.fieldLinkNest "Cascadery$Style" 97 "Cascadery" "INITIALS" "[I" "Cascadery", Cond.methodLinkNest "Cascadery$Style" 92 yX11_suits "Cascadery", Cond.methodLinkNest "Cascadery$Rule" 48 yX11_isBelow "Cascadery", Cond.castable "java/lang/IllegalArgumentException" "java/lang/IllegalArgumentException", Cond.castable "java/lang/IllegalStateException" "java/lang/IllegalStateException", Cond.castable "java/lang/IndexOutOfBoundsException" "java/lang/IndexOutOfBoundsException", Cond.declares ⟨"java/lang/RuntimeException", "<init>", "()V"⟩, Cond.declares ⟨"java/lang/Exception", "<init>", "()V"⟩, Cond.declares ⟨"java/lang/Throwable", "<init>", "()V"⟩]
def cV (Φ : cG) (c : cE) (k : Nat) : Value := if cRf c.1 k = true then cv Φ (c.2.2.2 k) else .int (c.2.2.1 k)
def cArr (Φ : cG) (c : cE) : vp_A := if c.1 = 20 then (c.2.1, .inl c.2.2.1) else (c.2.1, .inr (.inr (.inr (.inr (fun j => (c.2.2.2 j).map (ph Φ))))))
def cA0 (D : cD) (Φ : cG) (c : cE) (H : Heap) : Prop := c.1 = 20 ∧ ∃ cell : Cell, H[ph Φ 0]? = some cell ∧ cell.cls = D.2.2 21 ∧ (∀ k, cell.vm ≠ .statics k) ∧ cell.vm ≠ .unknown ∧ c.2.1 ≤ cell.slots.size ∧ ∀ j, j < c.2.1 → cell.slots[j]? = some (.int (c.2.2.1 j))
def cAt (D : cD) (Φ : cG) (a : Nat) (c : cE) (H : Heap) : Prop :=
  (c.1 < 12 → t_OB (ph Φ a) (D.1 c.1) (cRow c.1).2.2 (D.2.1 c.1) H (cV Φ c)) ∧ (∀ ty, cTy c.1 = some ty → (a ≠ 0 → H[ph Φ a]? = some (vp_cell (D.2.2 c.1) (cArr Φ c))) ∧ (a = 0 → cA0 D Φ c H))
def cP (D : cD) (Φ : cG) (S : cS) (H : Heap) : Prop := (∀ a c, S.1 a = some c → cAt D Φ a c H ∧ (a = 0 ∨ cReg Φ (ph Φ a))) ∧ 1 ≤ S.2 ∧ H.size = ph Φ S.2 ∧ Φ.1 < Φ.2.1 ∧ ∀ q, Φ.2.2 q = true → q < H.size
def cAO (U : State) : Prop := (Cond.arrayOver (.array .int)).before #[] U = true
theorem cAO.spec {U : State} (h : cAO U) : ∃ comp c k, U.vm.findClass (FieldType.array .int).toString = some comp ∧ (U.vm.classes.findIdx? fun (x : Class) => match x.kind with | .array component _ => component == comp | _ => false) = some c ∧ U.vm.classes[c]? = some k ∧ k.kind = .array comp (.array .int) ∧ U.vm.findClass ("[" ++ (FieldType.array .int).toString) = some c := by
  unfold cAO Cond.before Cond.holds at h
  simp only [Cond.value, beq_iff_eq] at h
  cases hc : U.vm.findClass (FieldType.array .int).toString with
  | none => simp [hc] at h
  | some comp =>
    simp only [hc, Option.bind_some, Option.bind_eq_some_iff, Option.map_eq_some_iff] at h
    obtain ⟨c, hi, k, hk, hb⟩ := h
    obtain ⟨hlt, hp, -⟩ := Array.findIdx?_eq_some_iff_getElem.mp hi
    have hkk : U.vm.classes[c] = k := (Array.getElem?_eq_some_iff.mp hk).2
    rw [hkk] at hp
    cases hkind : k.kind with
    | array component ty =>
      rw [hkind] at hb hp
      simp at hb hp
      exact ⟨comp, c, k, rfl, hi, hk, by rw [hkind, hp, hb.1], hb.2⟩
    | _ => rw [hkind] at hb; simp at hb
theorem cAO.moved {u U : State} (hvm : u.vm.Alike U.vm) (h : cAO u) : cAO U := by
  obtain ⟨comp, c, k, h1, h2, h3, h4, h5⟩ := h.spec
  obtain ⟨k', hk', he⟩ := hvm.2.2 _ _ h3
  have hi : (U.vm.classes.findIdx? fun (x : Class) => match x.kind with | .array component _ => component == comp | _ => false) = some c := by
    have hb : U.vm.bare = u.vm.bare := by first | exact hvm.bare_eq | exact hvm.bare_eq.symm
    have a1 := va_idx_bare U.vm comp
    have a2 := va_idx_bare u.vm comp
    rw [hb] at a1
    exact a1.symm.trans (a2.trans h2)
  have hkind : k'.kind = .array comp (.array .int) := by rw [he]; exact h4
  have f1 : U.vm.findClass (FieldType.array .int).toString = some comp := by rw [hvm.findClass]; exact h1
  have f2 : U.vm.findClass ("[" ++ (FieldType.array .int).toString) = some c := by rw [hvm.findClass]; exact h5
  unfold cAO Cond.before Cond.holds
  simp only [Cond.value]
  rw [f1, Option.bind_some]
  refine (congrArg (fun o : Option Nat => (o.bind (fun c => (U.vm.classes[c]?).map fun (k : Class) => match k.kind with | .array _ ty => decide (ty = FieldType.array .int) && decide (U.vm.findClass ("[" ++ (FieldType.array .int).toString) = some c) | _ => false) == some true)) hi).trans ?_
  simp [hk', hkind, f2]
def cK (D : cD) (U : State) : Prop := (∀ ci, ci < 12 → ci ≠ 4 → u_Kn U (cRow ci).1 (cRow ci).2.1 (cRow ci).2.2 (D.1 ci) (D.2.1 ci)) ∧ (∀ tag ty, cTy tag = some ty → ArrOfT U (D.2.2 tag) ty ∧ va_RA U (D.2.2 tag) ty) ∧ (∀ w ∈ cNest, va_Nw w U) ∧ (∀ ci, ci < 12 → (cTy (30 + ci)).isSome → va_AO (cRow ci).1 U) ∧ cAO U ∧ ArrOfT U (D.2.2 21) .int
def cZ (Φ : cG) (U : State) (H : Heap) : Prop := va_Z "Cascadery" "INITIALS" "[I" (.ref Φ.1) (cReg Φ) U H ∧ vx_Zq Bundle.tN "UNASSIGNED_STACK" Bundle.steD (cReg Φ) U H ∧ vx_Zq Bundle.tN "SUPPRESSED_SENTINEL" Bundle.listD (cReg Φ) U H
theorem cZ.moved {Φ : cG} {u U : State} {H : Heap} (hvm : u.vm.Alike U.vm) (h : cZ Φ u H) : cZ Φ U H := ⟨va_Z.moved hvm h.1, vx_Zq.moved hvm h.2.1, vx_Zq.moved hvm h.2.2⟩
theorem cZ.kept {Φ : cG} {U : State} {H H1 : Heap} (h : cZ Φ U H) (hq : ∀ a : Nat, a < H.size → ¬ cReg Φ a → H1[a]? = H[a]?) : cZ Φ U H1 := ⟨va_Z.kept h.1 hq, vx_Zq.kept h.2.1 hq, vx_Zq.kept h.2.2 hq⟩
def gc (S : cS) (r : Option Nat) (tag : Nat) : Option (Nat × cE) := r.bind fun a => (S.1 a).bind fun c => if c.1 = tag then some (a, c) else none
def setC (S : cS) (a : Nat) (c : cE) : cS := (fun b => if b = a then some c else S.1 b, S.2)
def updR (f : Nat → Option Nat) (k : Nat) (v : Option Nat) : Nat → Option Nat := fun j => if j = k then v else f j
def gI (S : cS) (r : Option Nat) (ci k : Nat) : Option Int32 := (gc S r ci).bind fun q => some (q.2.2.2.1 k)
def gR (S : cS) (r : Option Nat) (ci k : Nat) : Option (Option Nat) := (gc S r ci).bind fun q => some (q.2.2.2.2 k)
def pI (S : cS) (r : Option Nat) (ci k : Nat) (v : Int32) : Option cS := (gc S r ci).bind fun q => if q.1 = 0 then none else some (setC S q.1 (q.2.1, q.2.2.1, upd q.2.2.2.1 k v, q.2.2.2.2))
def pZ (S : cS) (r : Option Nat) (ci k : Nat) (v : Int32) : Option cS := if v = 0 ∨ v = 1 then pI S r ci k v else none
def pR (S : cS) (r : Option Nat) (ci k : Nat) (v : Option Nat) : Option cS := (gc S r ci).bind fun q => if q.1 = 0 then none else some (setC S q.1 (q.2.1, q.2.2.1, q.2.2.2.1, updR q.2.2.2.2 k v))
def aI (S : cS) (r : Option Nat) (i : Int32) : Option Int32 := (gc S r 20).bind fun q => if i < 0 ∨ q.2.2.1 ≤ i.toNatClampNeg then none else some (q.2.2.2.1 i.toNatClampNeg)
def sI (S : cS) (r : Option Nat) (i v : Int32) : Option cS := (gc S r 20).bind fun q => if q.1 = 0 ∨ i < 0 ∨ q.2.2.1 ≤ i.toNatClampNeg then none else some (setC S q.1 (q.2.1, q.2.2.1, upd q.2.2.2.1 i.toNatClampNeg v, q.2.2.2.2))
def aR (S : cS) (r : Option Nat) (tag : Nat) (i : Int32) : Option (Option Nat) := (gc S r tag).bind fun q => if i < 0 ∨ q.2.2.1 ≤ i.toNatClampNeg then none else some (q.2.2.2.2 i.toNatClampNeg)
def okR (S : cS) (v : Option Nat) (ci : Nat) : Bool := match v with
  | none => true
  | some a => (gc S (some a) ci).isSome
def sR (S : cS) (r : Option Nat) (ci : Nat) (i : Int32) (v : Option Nat) : Option cS := (gc S r (30 + ci)).bind fun q => if q.1 = 0 ∨ i < 0 ∨ q.2.2.1 ≤ i.toNatClampNeg ∨ okR S v ci = false then none else some (setC S q.1 (q.2.1, q.2.2.1, q.2.2.2.1, updR q.2.2.2.2 i.toNatClampNeg v))
def aL (S : cS) (r : Option Nat) (tag : Nat) : Option Int32 := (gc S r tag).bind fun q => some (Int32.ofNat q.2.2.1)
def rc (S : cS) (r : Option Nat) (ci : Nat) : Option Nat := (gc S r ci).bind fun q => some q.1
def lrz (v : Int32) (S : cS) : Option (Int32 × cS) := if v = 0 ∨ v = 1 then some (v, S) else none
theorem lrz_spec {v : Int32} {S : cS} {r : Int32 × cS} (h : lrz v S = some r) : (v = 0 ∨ v = 1) ∧ (v, S) = r := by
  unfold lrz at h
  by_cases hc : v = 0 ∨ v = 1
  · rw [if_pos hc] at h; exact ⟨hc, Option.some.inj h⟩
  · rw [if_neg hc] at h; cases h
theorem gc_spec {S : cS} {r : Option Nat} {tag : Nat} {q : Nat × cE} (h : gc S r tag = some q) : r = some q.1 ∧ S.1 q.1 = some q.2 ∧ q.2.1 = tag := by
  unfold gc at h
  obtain ⟨a, h1, h⟩ := ob h
  obtain ⟨c, h2, h⟩ := ob h
  by_cases hc : c.1 = tag
  · rw [if_pos hc] at h
    cases h
    exact ⟨h1, h2, hc⟩
  · rw [if_neg hc] at h
    cases h
theorem cv_cat (Φ : cG) (r : Option Nat) : (cv Φ r).category = 1 := by cases r <;> rfl
theorem ph_inj {Φ : cG} (h : Φ.1 < Φ.2.1) {a b : Nat} (e : ph Φ a = ph Φ b) : a = b := by
  unfold ph at e
  by_cases ha : a = 0 <;> by_cases hb : b = 0 <;> simp only [ha, hb, if_true, if_false] at e <;> omega
theorem ph_map {Φ : cG} (h : Φ.1 < Φ.2.1) {x y : Option Nat} (e : x.map (ph Φ) = y.map (ph Φ)) : x = y := by
  cases x <;> cases y
  · rfl
  · cases e
  · cases e
  · rw [ph_inj h (Option.some.inj e)]
theorem c_ok1 : ∀ ci, ci < 12 → ∀ k, k < (cRow ci).2.2 → parseFieldDescriptor ((cRow ci).2.1 k).2.2.1 = some (cTyF ci k) := by decide +kernel
theorem c_ok2 : ∀ ci, ci < 12 → ∀ a, a < (cRow ci).2.2 → ∀ b, b < (cRow ci).2.2 → (a = b ∨ ((cRow ci).2.1 a).2.1 ≠ ((cRow ci).2.1 b).2.1) := by decide +kernel
theorem c_ok3 : ∀ ci, ci < 12 → ∀ k, k < (cRow ci).2.2 → ((cRow ci).2.1 k).1 = (cRow ci).1 := by decide +kernel
def cIsR (t : FieldType) : Bool := match t with
  | .object _ => true
  | .array _ => true
  | _ => false
theorem c_ok4 : ∀ ci, ci < 12 → ∀ k, k < (cRow ci).2.2 → (cRf ci k = true ∧ cIsR (cTyF ci k) = true) ∨ (cRf ci k = false ∧ (cTyF ci k = .int ∨ cTyF ci k = .boolean)) := by decide +kernel
def cLay : List (List Nat) := [[560, 562, 564, 566, 568], [520, 522, 524, 526, 528, 530, 532, 534, 536, 538, 540, 542, 544, 546], [388, 390, 392, 394, 396, 398, 400, 402, 404, 406], [284, 286, 288, 290, 292, 294, 296, 298, 300, 302, 304, 306, 308, 310, 312, 314, 316, 318, 320, 322], [], [473, 475, 477, 479, 481, 483, 485], [191, 193, 195, 197, 199, 201, 203, 205, 207, 209, 211, 213, 215, 217, 219], [435, 437, 439, 441, 443, 445, 447, 449, 451, 453, 455, 457, 459], [1269, 1271, 1273, 1275, 1277], [112, 114, 116, 118, 120, 122, 124, 126, 128, 130, 132, 134, 136, 138], [337, 339, 341, 343, 345], [587, 589, 591, 593, 595, 597, 599, 601, 603, 605, 607, 609, 611, 613, 615, 617]]
theorem c_lay1 : ∀ ci, ci < 12 → ∀ k, k < (cRow ci).2.2 → lw_tbl[(cLay.getD ci []).getD k 0]? = some (u_lay (cRow ci).1 (cRow ci).2.1 k) := by decide +kernel
theorem c_lay2 : ∀ ci, ci < 12 → ∀ k, k < (cRow ci).2.2 → goodWord (u_lay (cRow ci).1 (cRow ci).2.1 k) = true := by decide +kernel
theorem c_in (ci : Nat) (h : ci < 12) : ∀ w ∈ u_ws (cRow ci).1 (cRow ci).2.1 (cRow ci).2.2, w ∈ BG := by
  intro w hw
  obtain ⟨k, hk, rfl⟩ := List.mem_map.mp hw
  exact bg_in _ (c_lay1 ci h k (List.mem_range.mp hk)) (c_lay2 ci h k (List.mem_range.mp hk))
theorem cR_nf {t : FieldType} (h : cIsR t = true) (Φ : cG) (r : Option Nat) : narrow t (cv Φ r) = cv Φ r ∧ fits t (cv Φ r) = true := by
  cases t <;> first | (cases h; done) | (cases r <;> exact ⟨rfl, rfl⟩)
theorem cAt.kept {D : cD} {Φ : cG} {a : Nat} {c : cE} {H H1 : Heap} (h : cAt D Φ a c H) (e : H1[ph Φ a]? = H[ph Φ a]?) : cAt D Φ a c H1 := ⟨fun z => (h.1 z).kept e, fun ty z => ⟨fun y => e.trans ((h.2 ty z).1 y), fun y => by
  subst y
  obtain ⟨g1, cell, g2, g3⟩ := (h.2 ty z).2 rfl
  exact ⟨g1, cell, e.trans g2, g3⟩⟩⟩
theorem cP.set {D : cD} {Φ : cG} {S : cS} {H H1 : Heap} (hP : cP D Φ S H) {a : Nat} {c0 c1 : cE} (h0 : S.1 a = some c0) (he : cAt D Φ a c1 H1) (z : H1.size = H.size) (oq : ∀ q, q ≠ ph Φ a → H1[q]? = H[q]?) : cP D Φ (setC S a c1) H1 := by
  refine ⟨fun b c hb => ?_, hP.2.1, z.trans hP.2.2.1, hP.2.2.2.1, by rw [z]; exact hP.2.2.2.2⟩
  by_cases hba : b = a
  · subst hba
    simp only [setC, if_true] at hb
    cases hb
    exact ⟨he, (hP.1 b c0 h0).2⟩
  · simp only [setC, if_neg hba] at hb
    exact ⟨(hP.1 b c hb).1.kept (oq _ (fun e => hba (ph_inj hP.2.2.2.1 e))), (hP.1 b c hb).2⟩
theorem cK.alike {D : cD} {u U : State} (hvm : u.vm.Alike U.vm) (hn : ∀ w ∈ cNest, va_Nw w U) (h : cK D u) : cK D U := ⟨fun ci hc h4 => u_Kn_moved hvm (h.1 ci hc h4), fun t ty ht => ⟨arrOfT_moved hvm (h.2.1 t ty ht).1, (h.2.1 t ty ht).2.moved hvm⟩, hn, fun ci hc hs => (h.2.2.2.1 ci hc hs).moved hvm, h.2.2.2.2.1.moved hvm, arrOfT_moved hvm h.2.2.2.2.2⟩
theorem cNest_on : ∀ w ∈ cNest, w.onTables = true := by decide +kernel
theorem cK.same {D : cD} {u U : State} (hvm : u.vm = U.vm) (h : cK D u) : cK D U := h.alike (by rw [hvm]; exact Vm.Alike.refl U.vm) (fun w hw => va_Nw.same (cNest_on w hw) hvm (h.2.2.1 w hw))
theorem cNest_warm {s U : State} (hW : s.WarmedH U.vm) (h : ∀ w ∈ cNest, va_Nw w s) : ∀ w ∈ cNest, va_Nw w U := by
  have k : ∀ w ∈ cNest, va_Nw w s → va_Nw w U := by
    unfold cNest
    intro w hw hz
    rcases List.mem_cons.mp hw with rfl | hw
    · exact va_Nw.warmM hW hz
    rcases List.mem_cons.mp hw with rfl | hw
    · exact va_Nw.warmM hW hz
    rcases List.mem_cons.mp hw with rfl | hw
    · exact va_Nw.warmM hW hz
    rcases List.mem_cons.mp hw with rfl | hw
    · exact va_Nw.warmM hW hz
    rcases List.mem_cons.mp hw with rfl | hw
    · exact va_Nw.warmM hW hz
    rcases List.mem_cons.mp hw with rfl | hw
    · exact va_Nw.warmF hW hz
    rcases List.mem_cons.mp hw with rfl | hw
    · exact va_Nw.warmM hW hz
    rcases List.mem_cons.mp hw with rfl | hw
    · exact va_Nw.warmM hW hz
    rcases List.mem_cons.mp hw with rfl | hw
    · exact va_Nw.warmC hW hz
    rcases List.mem_cons.mp hw with rfl | hw
    · exact va_Nw.warmC hW hz
    rcases List.mem_cons.mp hw with rfl | hw
    · exact va_Nw.warmC hW hz
    rcases List.mem_cons.mp hw with rfl | hw
    · exact va_Nw.warmD hW hz
    rcases List.mem_cons.mp hw with rfl | hw
    · exact va_Nw.warmD hW hz
    rw [List.mem_singleton.mp hw] at hz ⊢
    exact va_Nw.warmD hW hz
  exact fun w hw => k w hw (h w hw)
theorem cK.warm {D : cD} {s U : State} (hW : s.WarmedH U.vm) (h : cK D s) : cK D U := h.alike hW.alike (cNest_warm hW h.2.2.1)
def rA (fr mc ms lo : Nat) : Room := { frames := fr, cells := mc, slots := ms, locals := lo }
def cX (p : Program) (s : State) (m : MethodId) (args : Array Value) (meth : Method) (c : Code) (cc : ByteArray) (nL : Nat) (ret : Option FieldType) (own : String) (D : cD) (Φ : cG) : Prop :=
  p.tables.exec = Jvm.exec ∧ c.code = cc ∧ c.maxLocals = nL ∧ s.vm.findClass own = some m.cls ∧ (∀ w ∈ BG, w.before args s = true) ∧ cK D s ∧ cZ Φ s s.heap ∧ meth.sig.returnType = ret ∧ meth.locks = false
def cPc (D : cD) (Φ : cG) (S : cS) (av : List Value) : Array Value → State → Prop := va_Pc av (fun U => cP D Φ S U.heap ∧ cK D U ∧ cZ Φ U U.heap)
def cQr (r : Option Value) : Array Value → State → Outcome → State → Prop := fun _ st o t => o = .returned r ∧ t.heap = st.heap
def cQw (D : cD) (Φ : cG) (S : cS) (r : Option Value) : Array Value → State → Outcome → State → Prop := fun _ st o t => o = .returned r ∧ cP D Φ S t.heap ∧ va_F (cReg Φ) st t
section CW
variable {p : Program} {l : Launch} {e : Env} {R : Room} {s : State} {m : MethodId} {args : Array Value} {below : List Frame} {meth : Method} {c : Code} {H : Heap} {locs : List Loc} {cells slots : Nat} {Q : State → Prop} {cc : ByteArray} {pc : Nat} {ls : Array Slot} {rest : List Value} {D : cD} {Φ : cG} {nL : Nat} {S : cS} {ret : Option FieldType} {own : String}
abbrev cWr (p : Program) (l : Launch) (e : Env) (fr lo : Nat) (s : State) (m : MethodId) (args : Array Value) (below : List Frame) (meth : Method) (c : Code) (r : Option Value) (g : JFrame) : Prop :=
  W p l e (rA fr 0 0 lo) s m args below meth c s.heap [] 0 0 (MQ below (cQr r) args s 0 0 (fun _ => False)) g
abbrev cWw (p : Program) (l : Launch) (e : Env) (fr mc ms lo : Nat) (s : State) (m : MethodId) (args : Array Value) (below : List Frame) (meth : Method) (c : Code) (D : cD) (Φ : cG) (S : cS) (r : Option Value) (H : Heap) (locs : List Loc) (cells slots : Nat) (g : JFrame) : Prop :=
  W p l e (rA fr mc ms lo) s m args below meth c H locs cells slots (MQ below (cQw D Φ S r) args s mc ms (cReg Φ)) g
theorem c_get (X : cX p s m args meth c cc nL ret own D Φ) (hP : cP D Φ S H) {r : Option Nat} {ci k : Nat} {q : Nat × cE} (h : gc S r ci = some q) (hci : ci < 12) (hk : k < (cRow ci).2.2) {idx : Nat} (hlink : Cond.fieldLink own idx (cRow ci).1 ((cRow ci).2.1 k).2.1 ((cRow ci).2.1 k).2.2.1 ∈ BG) (hdg : decode cc pc = .ok (.getfield idx, 3))
    (kk : W p l e R s m args below meth c H locs cells slots Q (F0 m (pc + 3) ls (cV Φ q.2 k :: rest))) : W p l e R s m args below meth c H locs cells slots Q (F0 m pc ls (cv Φ r :: rest)) := by
  obtain ⟨hx, hb, -, hown, hts, hK, -⟩ := X
  obtain ⟨rfl, h2, h3⟩ := gc_spec h
  obtain ⟨a, c0⟩ := q
  subst h3
  have h4 : c0.1 ≠ 4 := fun z => by
    rw [z] at hk
    exact Nat.not_lt_zero k hk
  obtain ⟨hS, hfc, kC, hkC, hkind⟩ := hK.1 _ hci h4
  obtain ⟨cell, q1, q2, q3, q4⟩ := (hP.1 a c0 h2).1.1 hci
  obtain ⟨cf, kf, fi, f', hi, hsl⟩ := hS k hk
  refine W.getf hx hb hown (hts _ hlink) (by rw [c_ok3 _ hci k hk] at hi; exact hi) (u_facts hfc hkC (u_lays hts (c_in _ hci) hk) hi).1 q1 (by rw [q3]; exact fun h => by cases h) (v := cV Φ c0 k) ?_ rfl rfl hdg kk
  rw [hsl, q4 k hk]
theorem c_gI (X : cX p s m args meth c cc nL ret own D Φ) (hP : cP D Φ S H) {r : Option Nat} {ci k : Nat} {v : Int32} (h : gI S r ci k = some v) (hci : ci < 12) (hk : k < (cRow ci).2.2) (hr : cRf ci k = false) {idx : Nat} (hlink : Cond.fieldLink own idx (cRow ci).1 ((cRow ci).2.1 k).2.1 ((cRow ci).2.1 k).2.2.1 ∈ BG) (hdg : decode cc pc = .ok (.getfield idx, 3))
    (kk : W p l e R s m args below meth c H locs cells slots Q (F0 m (pc + 3) ls (.int v :: rest))) : W p l e R s m args below meth c H locs cells slots Q (F0 m pc ls (cv Φ r :: rest)) := by
  obtain ⟨q, hq, hv⟩ := ob h
  refine c_get X hP hq hci hk hlink hdg ?_
  have e : cV Φ q.2 k = .int v := by
    unfold cV
    rw [(gc_spec hq).2.2, hr, ← sj hv]
    rfl
  rw [e]
  exact kk
theorem c_gR (X : cX p s m args meth c cc nL ret own D Φ) (hP : cP D Φ S H) {r v : Option Nat} {ci k : Nat} (h : gR S r ci k = some v) (hci : ci < 12) (hk : k < (cRow ci).2.2) (hr : cRf ci k = true) {idx : Nat} (hlink : Cond.fieldLink own idx (cRow ci).1 ((cRow ci).2.1 k).2.1 ((cRow ci).2.1 k).2.2.1 ∈ BG) (hdg : decode cc pc = .ok (.getfield idx, 3))
    (kk : W p l e R s m args below meth c H locs cells slots Q (F0 m (pc + 3) ls (cv Φ v :: rest))) : W p l e R s m args below meth c H locs cells slots Q (F0 m pc ls (cv Φ r :: rest)) := by
  obtain ⟨q, hq, hv⟩ := ob h
  refine c_get X hP hq hci hk hlink hdg ?_
  have e : cV Φ q.2 k = cv Φ v := by
    unfold cV
    rw [(gc_spec hq).2.2, hr, ← sj hv]
    rfl
  rw [e]
  exact kk
theorem c_put (X : cX p s m args meth c cc nL ret own D Φ) (hP : cP D Φ S H) (hS : va_S (cReg Φ) s.heap H locs) {r : Option Nat} {ci k : Nat} {q : Nat × cE} (h : gc S r ci = some q) (ha : q.1 ≠ 0) (hci : ci < 12) (hk : k < (cRow ci).2.2) (hfin : ((cRow ci).2.1 k).2.2.2 = false ∨ (((cRow ci).2.1 k).2.2.2 = true ∧ meth.name = "<init>" ∧ (cRow ci).1 = own)) {v : Value} (hn : narrow (cTyF ci k) v = v) (hfit : fits (cTyF ci k) v = true) {c1 : cE} (h1 : c1.1 = ci) (hv : ∀ j, updV (cV Φ q.2) k v j = cV Φ c1 j) {idx : Nat} (hlink : Cond.fieldLink own idx (cRow ci).1 ((cRow ci).2.1 k).2.1 ((cRow ci).2.1 k).2.2.1 ∈ BG) (hdg : decode cc pc = .ok (.putfield idx, 3))
    (kk : ∀ (H1 : Heap) (locs1 : List Loc), cP D Φ (setC S q.1 c1) H1 → va_S (cReg Φ) s.heap H1 locs1 → W p l e R s m args below meth c H1 locs1 cells slots Q (F0 m (pc + 3) ls rest)) : W p l e R s m args below meth c H locs cells slots Q (F0 m pc ls (v :: cv Φ r :: rest)) := by
  obtain ⟨hx, hb, -, hown, hts, hK, -⟩ := X
  obtain ⟨rfl, h2, h3⟩ := gc_spec h
  obtain ⟨a, c0⟩ := q
  subst h3
  have h4 : c0.1 ≠ 4 := fun z => by
    rw [z] at hk
    exact Nat.not_lt_zero k hk
  have hKn := hK.1 _ hci h4
  obtain ⟨hS', hfc, kC, hkC, hkind⟩ := hKn
  obtain ⟨cell, q1, q2, q3, q4⟩ := (hP.1 a c0 h2).1.1 hci
  obtain ⟨cf, kf, fi, f', hi, hsl⟩ := hS' k hk
  have hap : ∀ x y, x < (cRow c0.1).2.2 → y < (cRow c0.1).2.2 → x ≠ y → (D.2.1 c0.1) x ≠ (D.2.1 c0.1) y := by
    intro x y hx' hy' hne
    obtain ⟨_, _, _, fa, hia, ea⟩ := hS' x hx'
    obtain ⟨_, _, _, fb, hib, eb⟩ := hS' y hy'
    rw [← ea, ← eb]
    refine u_apart (u_lays hts (c_in _ hci) hx') (u_lays hts (c_in _ hci) hy') hia hib ?_
    rw [(State.fieldFound?_type hia (c_ok1 _ hci x hx')).1, (State.fieldFound?_type hib (c_ok1 _ hci y hy')).1]
    exact (c_ok2 _ hci x hx' y hy').resolve_left hne
  have hst := (u_facts hfc hkC (u_lays hts (c_in _ hci) hk) hi).1
  have hi' : s.fieldFound? (cRow c0.1).1 ((cRow c0.1).2.1 k).2.1 ((cRow c0.1).2.1 k).2.2.1 = some (cf, kf, fi, f') := by
    rw [c_ok3 _ hci k hk] at hi
    exact hi
  have fin : ∀ H' : Heap, H'[ph Φ a]? = some (cell.setSlot (D.2.1 c0.1 k) v) → H'.size = H.size → (∀ q, q ≠ ph Φ a → H'[q]? = H[q]?) → W p l e R s m args below meth c H' (locs ++ [⟨ph Φ a, D.2.1 c0.1 k⟩]) cells slots Q (F0 m (pc + 3) ls rest) := by
    intro H' e1 e2 e3
    refine kk H' _ (hP.set h2 ⟨fun _ => ?_, fun ty hty => ?_⟩ e2 e3) (hS.put e2 e3 (((hP.1 a c0 h2).2).resolve_left ha))
    · refine t_OB.to (V := updV (cV Φ c0) k v) ⟨_, e1, by rw [h1]; exact q2, q3, ?_⟩ (fun j _ => hv j)
      rw [h1]
      exact t_set q4 hap hk v
    · rw [h1] at hty
      exfalso
      have : ∀ x, x < 12 → cTy x = none := by decide
      rw [this _ hci] at hty
      cases hty
  rcases hfin with hfin | ⟨hfin, hin2, hdecl⟩
  · have hlay := hts _ (c_in _ hci _ (u_in_lay hk))
    unfold u_lay at hlay
    rw [if_neg (by rw [hfin]; decide)] at hlay
    have h6 := u_store hfc hkC hkind hlay hi (c_ok1 _ hci k hk) hn hfit
    refine W.putK hx hb (f := f') ⟨hown, hts _ hlink, ⟨_, _, _, hi'⟩, hst⟩ (by rw [q2]; exact h6) q1 q3 (by rw [hsl]; exact k2_hasslot (q4 k hk)) rfl rfl hdg fun H' e1 e2 e3 => ?_
    rw [hsl] at e1 ⊢
    exact fin H' e1 e2 e3
  · have hlay := hts _ (c_in _ hci _ (u_in_lay hk))
    unfold u_lay at hlay
    rw [if_pos hfin] at hlay
    have hcf : m.cls = cf := by
      obtain ⟨_, _, c', _, _, _, -, -, hf', -, -, -, hown2, -⟩ := Cond.laysFinal_spec hlay
      have e1 : c' = cf := by have := hi.symm.trans hf'; simp at this; exact this.1.symm
      rw [c_ok3 _ hci k hk, hdecl] at hown2
      rw [← e1]; exact Option.some.inj (hown.symm.trans hown2)
    have h6 := u_fits hfc hkC hkind (Or.inr hlay) hi (c_ok1 _ hci k hk) hn hfit
    refine W.putFinK hx hb hown (hts _ hlink) hi' hst hcf hin2 (by rw [q2]; exact h6) q1 q3 (by rw [hsl]; exact k2_hasslot (q4 k hk)) rfl rfl hdg fun H' e1 e2 e3 => ?_
    rw [hsl] at e1 ⊢
    exact fin H' e1 e2 e3
theorem pI_spec {S S' : cS} {r : Option Nat} {ci k : Nat} {v : Int32} (h : pI S r ci k v = some S') : ∃ q, gc S r ci = some q ∧ q.1 ≠ 0 ∧ setC S q.1 (q.2.1, q.2.2.1, upd q.2.2.2.1 k v, q.2.2.2.2) = S' := by
  obtain ⟨q, hq, h⟩ := ob h
  by_cases hc : q.1 = 0
  · rw [if_pos hc] at h; cases h
  · rw [if_neg hc] at h; exact ⟨q, hq, hc, Option.some.inj h⟩
theorem pR_spec {S S' : cS} {r v : Option Nat} {ci k : Nat} (h : pR S r ci k v = some S') : ∃ q, gc S r ci = some q ∧ q.1 ≠ 0 ∧ setC S q.1 (q.2.1, q.2.2.1, q.2.2.2.1, updR q.2.2.2.2 k v) = S' := by
  obtain ⟨q, hq, h⟩ := ob h
  by_cases hc : q.1 = 0
  · rw [if_pos hc] at h; cases h
  · rw [if_neg hc] at h; exact ⟨q, hq, hc, Option.some.inj h⟩
abbrev cFin (meth : Method) (own : String) (ci k : Nat) : Prop := ((cRow ci).2.1 k).2.2.2 = false ∨ (((cRow ci).2.1 k).2.2.2 = true ∧ meth.name = "<init>" ∧ (cRow ci).1 = own)
theorem c_pI (X : cX p s m args meth c cc nL ret own D Φ) (hP : cP D Φ S H) (hS : va_S (cReg Φ) s.heap H locs) {r : Option Nat} {ci k : Nat} {v : Int32} {S' : cS} (h : pI S r ci k v = some S') (hci : ci < 12) (hk : k < (cRow ci).2.2) (hr : cRf ci k = false) (hty : cTyF ci k = .int) (hfin : cFin meth own ci k) {idx : Nat} (hlink : Cond.fieldLink own idx (cRow ci).1 ((cRow ci).2.1 k).2.1 ((cRow ci).2.1 k).2.2.1 ∈ BG) (hdg : decode cc pc = .ok (.putfield idx, 3))
    (kk : ∀ (H1 : Heap) (locs1 : List Loc), cP D Φ S' H1 → va_S (cReg Φ) s.heap H1 locs1 → W p l e R s m args below meth c H1 locs1 cells slots Q (F0 m (pc + 3) ls rest)) : W p l e R s m args below meth c H locs cells slots Q (F0 m pc ls (.int v :: cv Φ r :: rest)) := by
  obtain ⟨q, hq, ha, rfl⟩ := pI_spec h
  have ht := (gc_spec hq).2.2
  refine c_put X hP hS hq ha hci hk hfin (by rw [hty]; rfl) (by rw [hty]; rfl) (c1 := (q.2.1, q.2.2.1, upd q.2.2.2.1 k v, q.2.2.2.2)) ht (fun j => ?_) hlink hdg kk
  by_cases hj : j = k
  · subst hj
    simp [updV, cV, ht, hr, upd]
  · simp [updV, cV, upd, hj]
theorem c_pZ (X : cX p s m args meth c cc nL ret own D Φ) (hP : cP D Φ S H) (hS : va_S (cReg Φ) s.heap H locs) {r : Option Nat} {ci k : Nat} {v : Int32} {S' : cS} (h : pZ S r ci k v = some S') (hci : ci < 12) (hk : k < (cRow ci).2.2) (hr : cRf ci k = false) (hty : cTyF ci k = .boolean) (hfin : cFin meth own ci k) {idx : Nat} (hlink : Cond.fieldLink own idx (cRow ci).1 ((cRow ci).2.1 k).2.1 ((cRow ci).2.1 k).2.2.1 ∈ BG) (hdg : decode cc pc = .ok (.putfield idx, 3))
    (kk : ∀ (H1 : Heap) (locs1 : List Loc), cP D Φ S' H1 → va_S (cReg Φ) s.heap H1 locs1 → W p l e R s m args below meth c H1 locs1 cells slots Q (F0 m (pc + 3) ls rest)) : W p l e R s m args below meth c H locs cells slots Q (F0 m pc ls (.int v :: cv Φ r :: rest)) := by
  unfold pZ at h
  by_cases hz : v = 0 ∨ v = 1
  · rw [if_pos hz] at h
    obtain ⟨q, hq, ha, rfl⟩ := pI_spec h
    have ht := (gc_spec hq).2.2
    refine c_put X hP hS hq ha hci hk hfin (by rw [hty]; exact nz hz) (by rw [hty]; rcases hz with rfl | rfl <;> decide) (c1 := (q.2.1, q.2.2.1, upd q.2.2.2.1 k v, q.2.2.2.2)) ht (fun j => ?_) hlink hdg kk
    by_cases hj : j = k
    · subst hj
      simp [updV, cV, ht, hr, upd]
    · simp [updV, cV, upd, hj]
  · rw [if_neg hz] at h
    cases h
theorem c_pR (X : cX p s m args meth c cc nL ret own D Φ) (hP : cP D Φ S H) (hS : va_S (cReg Φ) s.heap H locs) {r v : Option Nat} {ci k : Nat} {S' : cS} (h : pR S r ci k v = some S') (hci : ci < 12) (hk : k < (cRow ci).2.2) (hr : cRf ci k = true) (hfin : cFin meth own ci k) {idx : Nat} (hlink : Cond.fieldLink own idx (cRow ci).1 ((cRow ci).2.1 k).2.1 ((cRow ci).2.1 k).2.2.1 ∈ BG) (hdg : decode cc pc = .ok (.putfield idx, 3))
    (kk : ∀ (H1 : Heap) (locs1 : List Loc), cP D Φ S' H1 → va_S (cReg Φ) s.heap H1 locs1 → W p l e R s m args below meth c H1 locs1 cells slots Q (F0 m (pc + 3) ls rest)) : W p l e R s m args below meth c H locs cells slots Q (F0 m pc ls (cv Φ v :: cv Φ r :: rest)) := by
  obtain ⟨q, hq, ha, rfl⟩ := pR_spec h
  have ht := (gc_spec hq).2.2
  have hty : cIsR (cTyF ci k) = true := by
    rcases c_ok4 ci hci k hk with z | z
    · exact z.2
    · rw [hr] at z; exact absurd z.1 (by decide)
  refine c_put X hP hS hq ha hci hk hfin (cR_nf hty Φ v).1 (cR_nf hty Φ v).2 (c1 := (q.2.1, q.2.2.1, q.2.2.2.1, updR q.2.2.2.2 k v)) ht (fun j => ?_) hlink hdg kk
  by_cases hj : j = k
  · subst hj
    simp [updV, cV, ht, hr, updR]
  · simp [updV, cV, updR, hj]
theorem c_ald (X : cX p s m args meth c cc nL ret own D Φ) (hP : cP D Φ S H) {r : Option Nat} {i v : Int32} (h : aI S r i = some v) (hdg : decode cc pc = .ok (.iaload, 1))
    (kk : W p l e R s m args below meth c H locs cells slots Q (F0 m (pc + 1) ls (.int v :: rest))) : W p l e R s m args below meth c H locs cells slots Q (F0 m pc ls (.int i :: cv Φ r :: rest)) := by
  obtain ⟨q, hq, h9⟩ := ob h
  obtain ⟨rfl, h2, h3⟩ := gc_spec hq
  by_cases hc : i < 0 ∨ q.2.2.1 ≤ i.toNatClampNeg
  · rw [if_pos hc] at h9; cases h9
  · rw [if_neg hc] at h9
    have hv := Option.some.inj h9
    have hlt : i.toNatClampNeg < q.2.2.1 := Nat.not_le.mp fun z => hc (Or.inr z)
    have hA2 := (hP.1 _ _ h2).1.2 .int (by rw [h3]; rfl)
    have eA : cArr Φ q.2 = (q.2.2.1, .inl q.2.2.2.1) := by unfold cArr; rw [if_pos h3]
    by_cases h0 : q.1 = 0
    · obtain ⟨g1, cell, g2, g3, g4, g5, g6, g7⟩ := hA2.2 h0
      rw [← h0] at g2
      have hK9 := ((X.2.2.2.2.2.1.2.2.2.2.2) 0 (fun _ => .null)).2
      refine W.iald (v := .int v) X.1 X.2.1 g2 ⟨g4, ?_⟩ g5 (fun z => ?_) (by rw [g7 _ hlt, hv]) rfl rfl hdg kk
      · rw [g3]; exact hK9
      · rcases z with z | z
        · exact hc (Or.inl z)
        · omega
    have hA := hA2.1 h0
    rw [eA] at hA
    exact W.iald (v := .int v) X.1 X.2.1 hA ((X.2.2.2.2.2.1.2.1 _ .int (by rw [h3]; rfl)).1 q.2.2.1 (fun j => .int (q.2.2.2.1 j))) (fun z => by cases z) (by show ¬ (i < 0 ∨ (arrV _ _ _).slots.size ≤ _); rw [arrV_size]; exact hc) (by show (arrV _ _ _).slots[_]? = _; rw [arrV_read _ _ hlt, hv]) rfl rfl hdg kk
theorem c_ast (X : cX p s m args meth c cc nL ret own D Φ) (hP : cP D Φ S H) (hS : va_S (cReg Φ) s.heap H locs) {r : Option Nat} {i v : Int32} {S' : cS} (h : sI S r i v = some S') (hdg : decode cc pc = .ok (.iastore, 1))
    (kk : ∀ (H1 : Heap) (locs1 : List Loc), cP D Φ S' H1 → va_S (cReg Φ) s.heap H1 locs1 → W p l e R s m args below meth c H1 locs1 cells slots Q (F0 m (pc + 1) ls rest)) : W p l e R s m args below meth c H locs cells slots Q (F0 m pc ls (.int v :: .int i :: cv Φ r :: rest)) := by
  obtain ⟨q, hq, h9⟩ := ob h
  obtain ⟨rfl, h2, h3⟩ := gc_spec hq
  by_cases hc : q.1 = 0 ∨ i < 0 ∨ q.2.2.1 ≤ i.toNatClampNeg
  · rw [if_pos hc] at h9; cases h9
  · rw [if_neg hc] at h9
    have hv := Option.some.inj h9
    subst hv
    have hin : ¬ (i < 0 ∨ q.2.2.1 ≤ i.toNatClampNeg) := fun z => hc (Or.inr z)
    have ha : q.1 ≠ 0 := fun z => hc (Or.inl z)
    have hA := ((hP.1 _ _ h2).1.2 .int (by rw [h3]; rfl)).1 ha
    have eA : cArr Φ q.2 = (q.2.2.1, .inl q.2.2.2.1) := by unfold cArr; rw [if_pos h3]
    rw [eA] at hA
    refine W.iast X.1 X.2.1 hA ((X.2.2.2.2.2.1.2.1 _ .int (by rw [h3]; rfl)).1 q.2.2.1 (fun j => .int (q.2.2.2.1 j))) (fun z => by cases z) (by show ¬ (i < 0 ∨ (arrV _ _ _).slots.size ≤ _); rw [arrV_size]; exact hin) rfl rfl hdg fun H1 e z oq => ?_
    refine kk H1 _ (hP.set h2 ⟨fun z => ?_, fun ty hty => ?_⟩ z oq) (hS.put z oq (((hP.1 _ _ h2).2).resolve_left ha))
    · exfalso
      have : q.2.1 < 12 := z
      omega
    · refine ⟨fun _ => ?_, fun z0 => absurd z0 ha⟩
      have eB : cArr Φ (q.2.1, q.2.2.1, upd q.2.2.2.1 i.toNatClampNeg v, q.2.2.2.2) = (q.2.2.1, .inl (upd q.2.2.2.1 i.toNatClampNeg v)) := by unfold cArr; rw [if_pos h3]
      rw [eB, e, vp_cell_i, vp_cell_i, arrV_store]
      congr 2
      funext y
      by_cases hy : y = i.toNatClampNeg
      · subst hy
        simp [updV, upd]
      · simp [updV, upd, hy]
theorem c_arr {q : Nat × cE} (h : q.2.1 ≠ 20) : cArr Φ q.2 = (q.2.2.1, .inr (.inr (.inr (.inr (fun j => (q.2.2.2.2 j).map (ph Φ)))))) := by unfold cArr; rw [if_neg h]
theorem c_aldq (X : cX p s m args meth c cc nL ret own D Φ) (hP : cP D Φ S H) {r v : Option Nat} {tag : Nat} {i : Int32} (h : aR S r tag i = some v) {ty : FieldType} (ht : cTy tag = some ty) (h20 : tag ≠ 20) (hr : cIsR ty = true) (hdg : decode cc pc = .ok (.aaload, 1))
    (kk : W p l e R s m args below meth c H locs cells slots Q (F0 m (pc + 1) ls (cv Φ v :: rest))) : W p l e R s m args below meth c H locs cells slots Q (F0 m pc ls (.int i :: cv Φ r :: rest)) := by
  obtain ⟨q, hq, h9⟩ := ob h
  obtain ⟨rfl, h2, h3⟩ := gc_spec hq
  by_cases hc : i < 0 ∨ q.2.2.1 ≤ i.toNatClampNeg
  · rw [if_pos hc] at h9; cases h9
  · rw [if_neg hc] at h9
    have hv := Option.some.inj h9
    subst hv
    have hlt : i.toNatClampNeg < q.2.2.1 := Nat.not_le.mp fun z => hc (Or.inr z)
    have hA := ((hP.1 _ _ h2).1.2 ty (by rw [h3]; exact ht)).1 (fun z => h20 (h3.symm.trans (((hP.1 _ _ h2).1.2 ty (by rw [h3]; exact ht)).2 z).1))
    rw [c_arr (by rw [h3]; exact h20)] at hA
    exact W.aald (v := cv Φ (q.2.2.2.2 i.toNatClampNeg)) (ty := ty) X.1 X.2.1 hA ((X.2.2.2.2.2.1.2.1 _ ty (by rw [h3]; exact ht)).1 q.2.2.1 (fun j => va_rf ((q.2.2.2.2 j).map (ph Φ)))) (by cases ty <;> first | rfl | (cases hr; done)) (fun z => by cases z) (by show ¬ (i < 0 ∨ (arrV _ _ _).slots.size ≤ _); rw [arrV_size]; exact hc) (by show (arrV _ _ _).slots[_]? = _; rw [arrV_read _ _ hlt]; rfl) rfl rfl hdg kk
theorem c_alen (X : cX p s m args meth c cc nL ret own D Φ) (hP : cP D Φ S H) {r : Option Nat} {tag : Nat} {v : Int32} (h : aL S r tag = some v) {ty : FieldType} (ht : cTy tag = some ty) (h20 : tag ≠ 20) (hdg : decode cc pc = .ok (.arraylength, 1))
    (kk : W p l e R s m args below meth c H locs cells slots Q (F0 m (pc + 1) ls (.int v :: rest))) : W p l e R s m args below meth c H locs cells slots Q (F0 m pc ls (cv Φ r :: rest)) := by
  obtain ⟨q, hq, h9⟩ := ob h
  obtain ⟨rfl, h2, h3⟩ := gc_spec hq
  have hv := Option.some.inj h9
  subst hv
  have hA := ((hP.1 _ _ h2).1.2 ty (by rw [h3]; exact ht)).1 (fun z => h20 (h3.symm.trans (((hP.1 _ _ h2).1.2 ty (by rw [h3]; exact ht)).2 z).1))
  rw [c_arr (by rw [h3]; exact h20)] at hA
  exact W.alen (n := Int32.ofNat q.2.2.1) X.1 X.2.1 hA ((X.2.2.2.2.2.1.2.1 _ ty (by rw [h3]; exact ht)).1 q.2.2.1 (fun j => va_rf ((q.2.2.2.2 j).map (ph Φ)))) (by rw [vp_cell_q, arrV_size] <;> rfl) rfl rfl hdg kk
theorem c_null (hx : p.tables.exec = Jvm.exec) (hb : c.code = cc) (hdg : decode cc pc = .ok (.aconst_null, 1)) (kk : W p l e R s m args below meth c H locs cells slots Q (F0 m (pc + 1) ls (cv Φ none :: rest))) : W p l e R s m args below meth c H locs cells slots Q (F0 m pc ls rest) := lv_null hx hb hdg kk
theorem c_ifnull (hx : p.tables.exec = Jvm.exec) (hb : c.code = cc) {r : Option Nat} {off : Int} {tgt : Nat} (hdg : decode cc pc = .ok (.ifnull off, 3)) (ht : (pc : Int) + off = (tgt : Int)) (kt : r = none → W p l e R s m args below meth c H locs cells slots Q (F0 m tgt ls rest)) (kf : ¬ r = none → W p l e R s m args below meth c H locs cells slots Q (F0 m (pc + 3) ls rest)) : W p l e R s m args below meth c H locs cells slots Q (F0 m pc ls (cv Φ r :: rest)) := by
  cases r with
  | none => exact lv_ifnullN hx hb hdg ht (kt rfl)
  | some a => exact lv_ifnull hx hb hdg (kf (by simp))
theorem c_ifnonnull (hx : p.tables.exec = Jvm.exec) (hb : c.code = cc) {r : Option Nat} {off : Int} {tgt : Nat} (hdg : decode cc pc = .ok (.ifnonnull off, 3)) (ht : (pc : Int) + off = (tgt : Int)) (kt : ¬ r = none → W p l e R s m args below meth c H locs cells slots Q (F0 m tgt ls rest)) (kf : r = none → W p l e R s m args below meth c H locs cells slots Q (F0 m (pc + 3) ls rest)) : W p l e R s m args below meth c H locs cells slots Q (F0 m pc ls (cv Φ r :: rest)) := by
  cases r with
  | none => exact lv_ifnonnullN hx hb hdg (kf rfl)
  | some a => exact lv_ifnonnull hx hb hdg ht (kt (by simp))
theorem c_acmp_eq (X : cX p s m args meth c cc nL ret own D Φ) (hP : cP D Φ S H) {rx ry : Option Nat} {off : Int} {tgt : Nat} (hdg : decode cc pc = .ok (.if_acmp .eq off, 3)) (ht : (pc : Int) + off = (tgt : Int)) (kt : rx = ry → W p l e R s m args below meth c H locs cells slots Q (F0 m tgt ls rest)) (kf : ¬ rx = ry → W p l e R s m args below meth c H locs cells slots Q (F0 m (pc + 3) ls rest)) : W p l e R s m args below meth c H locs cells slots Q (F0 m pc ls (cv Φ ry :: cv Φ rx :: rest)) :=
  lv_acmp_eq X.1 X.2.1 hdg ht (fun h => kt (ph_map hP.2.2.2.1 h)) (fun h => kf (fun z => h (by rw [z])))
theorem c_acmp_ne (X : cX p s m args meth c cc nL ret own D Φ) (hP : cP D Φ S H) {rx ry : Option Nat} {off : Int} {tgt : Nat} (hdg : decode cc pc = .ok (.if_acmp .ne off, 3)) (ht : (pc : Int) + off = (tgt : Int)) (kt : ¬ rx = ry → W p l e R s m args below meth c H locs cells slots Q (F0 m tgt ls rest)) (kf : rx = ry → W p l e R s m args below meth c H locs cells slots Q (F0 m (pc + 3) ls rest)) : W p l e R s m args below meth c H locs cells slots Q (F0 m pc ls (cv Φ ry :: cv Φ rx :: rest)) :=
  lv_acmp_ne X.1 X.2.1 hdg ht (fun h => kt (fun z => h (by rw [z]))) (fun h => kf (ph_map hP.2.2.2.1 h))
theorem c_aload_n (hx : p.tables.exec = Jvm.exec) (hb : c.code = cc) {k : Fin 4} {i : Nat} {r : Option Nat} (hdg : decode cc pc = .ok (.aload_n k, 1)) (hi : (k : Nat) = i) (hl : ls[i]? = some (.val (cv Φ r))) (kk : W p l e R s m args below meth c H locs cells slots Q (F0 m (pc + 1) ls (cv Φ r :: rest))) : W p l e R s m args below meth c H locs cells slots Q (F0 m pc ls rest) := by
  cases r with
  | none => exact lv_aload_nN hx hb hdg hi hl kk
  | some a => exact lv_aload_n hx hb hdg hi hl kk
theorem c_aload (hx : p.tables.exec = Jvm.exec) (hb : c.code = cc) {i : Nat} {r : Option Nat} (hdg : decode cc pc = .ok (.aload i, 2)) (hl : ls[i]? = some (.val (cv Φ r))) (kk : W p l e R s m args below meth c H locs cells slots Q (F0 m (pc + 2) ls (cv Φ r :: rest))) : W p l e R s m args below meth c H locs cells slots Q (F0 m pc ls rest) := by
  cases r with
  | none => exact lv_aloadN hx hb hdg hl kk
  | some a => exact lv_aload hx hb hdg hl kk
def lvK (i : Nat) (lv : List (Nat × Value)) : Prop := ∀ q ∈ lv, q.1 + 1 ≠ i ∨ q.2.category = 1
theorem lvK0 {i : Nat} : lvK i [] := fun _ h => by cases h
theorem lvKa {i j : Nat} {v : Value} {lv : List (Nat × Value)} (h : Nat.beq (j + 1) i = false) (k : lvK i lv) : lvK i ((j, v) :: lv) := fun q hq => (List.mem_cons.mp hq).elim (fun e => Or.inl (by rw [e]; exact Nat.ne_of_beq_eq_false h)) (k q)
theorem lvKi {i j : Nat} {x : Int32} {lv : List (Nat × Value)} (k : lvK i lv) : lvK i ((j, .int x) :: lv) := fun q hq => (List.mem_cons.mp hq).elim (fun e => Or.inr (by rw [e]; rfl)) (k q)
theorem lvKr {i j : Nat} {r : Option Nat} {lv : List (Nat × Value)} (k : lvK i lv) : lvK i ((j, cv Φ r) :: lv) := fun q hq => (List.mem_cons.mp hq).elim (fun e => Or.inr (by rw [e]; exact cv_cat Φ r)) (k q)
theorem lvK_f {i : Nat} {lv : List (Nat × Value)} (k : lvK i lv) : lv.filter (fun q => !(q.1 == i) && !(q.1 + 1 == i && q.2.category == 2)) = lv.filter (fun q => !(q.1 == i)) := by
  refine List.filter_congr fun q hq => ?_
  rcases k q hq with h | h
  · have : (q.1 + 1 == i) = false := by simpa using h
    rw [this]; simp
  · have : (q.2.category == 2) = false := by rw [h]; rfl
    rw [this]; simp
theorem lvK_f2 {i : Nat} {lv : List (Nat × Value)} (k : lvK i lv) : lv.filter (fun q => !(q.1 == i) && (!(q.1 == i + 1) && !(q.1 + 1 == i && q.2.category == 2))) = lv.filter (fun q => !(q.1 == i) && !(q.1 == i + 1)) := by
  refine List.filter_congr fun q hq => ?_
  rcases k q hq with h | h
  · have : (q.1 + 1 == i) = false := by simpa using h
    rw [this]; simp
  · have : (q.2.category == 2) = false := by rw [h]; rfl
    rw [this]; simp
theorem c_istore_n (hx : p.tables.exec = Jvm.exec) (hb : c.code = cc) {k : Fin 4} {i nL : Nat} {x : Int32} {lv lv' : List (Nat × Value)} (hdg : decode cc pc = .ok (.istore_n k, 1)) (hi : (k : Nat) = i) (h : lv_has ls nL lv) (hn : i < nL) (hk : lvK i lv) (hl : (i, Value.int x) :: lv.filter (fun q => !(q.1 == i)) = lv')
    (kk : ∀ ls' : Array Slot, lv_has ls' nL lv' → W p l e R s m args below meth c H locs cells slots Q (F0 m (pc + 1) ls' rest)) : W p l e R s m args below meth c H locs cells slots Q (F0 m pc ls (.int x :: rest)) :=
  lv_istore_n hx hb hdg hi h hn (by rw [lvK_f hk]; exact hl) kk
theorem c_istore (hx : p.tables.exec = Jvm.exec) (hb : c.code = cc) {i nL : Nat} {x : Int32} {lv lv' : List (Nat × Value)} (hdg : decode cc pc = .ok (.istore i, 2)) (h : lv_has ls nL lv) (hn : i < nL) (hk : lvK i lv) (hl : (i, Value.int x) :: lv.filter (fun q => !(q.1 == i)) = lv')
    (kk : ∀ ls' : Array Slot, lv_has ls' nL lv' → W p l e R s m args below meth c H locs cells slots Q (F0 m (pc + 2) ls' rest)) : W p l e R s m args below meth c H locs cells slots Q (F0 m pc ls (.int x :: rest)) :=
  lv_istore hx hb hdg h hn (by rw [lvK_f hk]; exact hl) kk
theorem c_lstore_n (hx : p.tables.exec = Jvm.exec) (hb : c.code = cc) {k : Fin 4} {i nL : Nat} {x : Int64} {lv lv' : List (Nat × Value)} (hdg : decode cc pc = .ok (.lstore_n k, 1)) (hi : (k : Nat) = i) (h : lv_has ls nL lv) (hn : i + 1 < nL) (hk : lvK i lv) (hl : (i, Value.long x) :: lv.filter (fun q => !(q.1 == i) && !(q.1 == i + 1)) = lv')
    (kk : ∀ ls' : Array Slot, lv_has ls' nL lv' → W p l e R s m args below meth c H locs cells slots Q (F0 m (pc + 1) ls' rest)) : W p l e R s m args below meth c H locs cells slots Q (F0 m pc ls (.long x :: rest)) :=
  lv_lstore_n hx hb hdg hi h hn (by rw [lvK_f2 hk]; exact hl) kk
theorem c_lstore (hx : p.tables.exec = Jvm.exec) (hb : c.code = cc) {i nL : Nat} {x : Int64} {lv lv' : List (Nat × Value)} (hdg : decode cc pc = .ok (.lstore i, 2)) (h : lv_has ls nL lv) (hn : i + 1 < nL) (hk : lvK i lv) (hl : (i, Value.long x) :: lv.filter (fun q => !(q.1 == i) && !(q.1 == i + 1)) = lv')
    (kk : ∀ ls' : Array Slot, lv_has ls' nL lv' → W p l e R s m args below meth c H locs cells slots Q (F0 m (pc + 2) ls' rest)) : W p l e R s m args below meth c H locs cells slots Q (F0 m pc ls (.long x :: rest)) :=
  lv_lstore hx hb hdg h hn (by rw [lvK_f2 hk]; exact hl) kk
theorem c_iinc (hx : p.tables.exec = Jvm.exec) (hb : c.code = cc) {i nL k : Nat} {n : Int} {x v : Int32} {lv lv' : List (Nat × Value)} (hdg : decode cc pc = .ok (.iinc i n, 3)) (h : lv_has ls nL lv) (hk : lv[k]? = some (i, .int x)) (hv : x + Int32.ofInt n = v) (hn : i < nL) (hkk : lvK i lv) (hl : (i, Value.int v) :: lv.filter (fun q => !(q.1 == i)) = lv')
    (kk : ∀ ls' : Array Slot, lv_has ls' nL lv' → W p l e R s m args below meth c H locs cells slots Q (F0 m (pc + 3) ls' rest)) : W p l e R s m args below meth c H locs cells slots Q (F0 m pc ls rest) :=
  lv_iinc hx hb hdg h hk hv hn (by rw [lvK_f hkk]; exact hl) kk
theorem c_astore_n (hx : p.tables.exec = Jvm.exec) (hb : c.code = cc) {k : Fin 4} {i nL : Nat} {r : Option Nat} {lv lv' : List (Nat × Value)} (hdg : decode cc pc = .ok (.astore_n k, 1)) (hi : (k : Nat) = i) (h : lv_has ls nL lv) (hn : i < nL) (hk : lvK i lv) (hl : (i, cv Φ r) :: lv.filter (fun q => !(q.1 == i)) = lv')
    (kk : ∀ ls' : Array Slot, lv_has ls' nL lv' → W p l e R s m args below meth c H locs cells slots Q (F0 m (pc + 1) ls' rest)) : W p l e R s m args below meth c H locs cells slots Q (F0 m pc ls (cv Φ r :: rest)) := by
  cases r with
  | none => exact lv_astore_nN hx hb hdg hi h hn (by rw [lvK_f hk]; exact hl) kk
  | some a => exact lv_astore_n hx hb hdg hi h hn (by rw [lvK_f hk]; exact hl) kk
theorem c_astore (hx : p.tables.exec = Jvm.exec) (hb : c.code = cc) {i nL : Nat} {r : Option Nat} {lv lv' : List (Nat × Value)} (hdg : decode cc pc = .ok (.astore i, 2)) (h : lv_has ls nL lv) (hn : i < nL) (hk : lvK i lv) (hl : (i, cv Φ r) :: lv.filter (fun q => !(q.1 == i)) = lv')
    (kk : ∀ ls' : Array Slot, lv_has ls' nL lv' → W p l e R s m args below meth c H locs cells slots Q (F0 m (pc + 2) ls' rest)) : W p l e R s m args below meth c H locs cells slots Q (F0 m pc ls (cv Φ r :: rest)) := by
  cases r with
  | none => exact lv_astoreN hx hb hdg h hn (by rw [lvK_f hk]; exact hl) kk
  | some a => exact lv_astore hx hb hdg h hn (by rw [lvK_f hk]; exact hl) kk
theorem c_sum (st : List Value) (h : st.length ≤ 4) : (st.map fun v => v.category).sum ≤ 8 := by
  have k : ∀ st : List Value, (st.map fun v => v.category).sum ≤ 2 * st.length := by
    intro st
    induction st with
    | nil => exact Nat.le_refl _
    | cons a t ih =>
      have := lv_cat a
      simp only [List.map_cons, List.sum_cons, List.length_cons]
      omega
  have := k st
  omega
theorem c_dupq (hx : p.tables.exec = Jvm.exec) (hb : c.code = cc) {r : Option Nat} (hdg : decode cc pc = .ok (.dup, 1)) (kk : W p l e R s m args below meth c H locs cells slots Q (F0 m (pc + 1) ls (cv Φ r :: cv Φ r :: rest))) : W p l e R s m args below meth c H locs cells slots Q (F0 m pc ls (cv Φ r :: rest)) := lv_dup hx hb hdg (cv_cat Φ r) kk
theorem c_blind {av : List Value} : FrameBlind (cPc D Φ S av) := fun a U g mk q => by
  obtain ⟨q0, qP, qK, qZ⟩ := q
  exact ⟨q0, qP, cK.same (u := U) (U := U.calling g mk a) rfl qK, cZ.moved (u := U) (U := U.calling g mk a) (Vm.Alike.refl U.vm) qZ⟩
theorem cZ_at (hZ : cZ Φ s s.heap) (hS : va_S (cReg Φ) s.heap H locs) : cZ Φ s H := hZ.kept (fun a h1 h2 => hS.2.1 a h1 h2)
theorem c_pre {av : List Value} (X : cX p s m args meth c cc nL ret own D Φ) (hP : cP D Φ S H) (hS : va_S (cReg Φ) s.heap H locs) : ∀ U : State, U.heap = H → s.WarmedH U.vm → cPc D Φ S av av.toArray U := fun U hU hW => ⟨rfl, by rw [hU]; exact hP, X.2.2.2.2.2.1.warm hW, by rw [hU]; exact cZ.moved hW.alike (cZ_at X.2.2.2.2.2.2.1 hS)⟩
theorem c_runV {y : MethodName} {cy : ByteArray} {maxL : Nat} {rt : Option FieldType} {fr mc ms lo fR mC mS lR idx n ci a : Nat} {r : Option Nat} {Qc : Array Value → State → Outcome → State → Prop} {free : Addr → Prop} {As st0 : List Value} (X : cX p s m args meth c cc nL ret own D Φ) (hM : Met l y (Cond.code y cy maxL rt :: BG) (rA fr mc ms lo) (cPc D Φ S (cv Φ (some a) :: As)) Qc mc ms free) (hrc : rc S r ci = some a) (hci : ci < 12 ∧ ci ≠ 4)
    (hw : Cond.methodLink own idx y ∈ BG ∧ Cond.instanceMethod y ∈ BG ∧ Cond.selects y.cls y y ∈ BG ∧ Cond.initialized y.cls ∈ BG ∧ Cond.code y cy maxL rt ∈ BG) (hcl : y.cls = (cRow ci).1)
    (hy : y.cls ≠ "java/lang/invoke/MethodHandle" ∧ y.cls ≠ "java/lang/invoke/VarHandle" ∧ (parseMethodDescriptor y.desc).map (fun d => d.parameters.length) = some n) (hn : As.length = n)
    (hr : fr + 1 ≤ fR ∧ 8 + (maxL + 11) + lo ≤ lR) (hP : cP D Φ S H) (hS : va_S (cReg Φ) s.heap H locs) (hl : ls.size = nL) (hW : rest.length ≤ 4) (hdg : decode cc pc = .ok (.invokevirtual idx, 3)) (hst : st0 = As.reverse ++ cv Φ r :: rest) (hf : cells + mc ≤ mC ∧ slots + ms ≤ mS) :
    va_Run p l e (rA fR mC mS lR) s m args below meth c H locs cells slots mc ms (F0 m pc ls st0) rest (Qc (cv Φ (some a) :: As).toArray) free := by
  obtain ⟨q, hq, hqa⟩ := ob hrc
  have hqa := Option.some.inj hqa
  subst hqa
  obtain ⟨rfl, h2, h3⟩ := gc_spec hq
  subst hst
  have hG : GoodIn BG (wsV own idx y.cls y (Cond.code y cy maxL rt :: BG)) := bg_all (fun w h => by
    rcases List.mem_append.mp h with h | h
    · rcases List.mem_cons.mp h with rfl | h
      · exact hw.1
      · rcases List.mem_cons.mp h with rfl | h
        · exact hw.2.1
        · rcases List.mem_cons.mp h with rfl | h
          · exact hw.2.2.1
          · rw [List.mem_singleton.mp h]
            exact hw.2.2.2.1
    · rcases List.mem_cons.mp h with rfl | h
      · exact hw.2.2.2.2
      · exact h)
  have hrec : ∃ cellB : Cell, H[ph Φ q.1]? = some cellB ∧ cellB.vm.isStatics = false ∧ s.vm.findClass y.cls = some cellB.cls := by
    obtain ⟨cell, q1, q2, q3, -⟩ := (hP.1 _ _ h2).1.1 (by rw [h3]; exact hci.1)
    exact ⟨cell, q1, by rw [q3]; rfl, by rw [q2, hcl, h3]; exact (X.2.2.2.2.2.1.1 ci hci.1 hci.2).2.1⟩
  exact va_runV (As := As) (rest := rest) (C := y.cls) (n := n) ⟨X.1, X.2.1, X.2.2.1, X.2.2.2.1, X.2.2.2.2.1⟩ hM (cwV n X.2.2.2.2.1 hG rfl rfl rfl ⟨rfl, hy⟩ hr) ⟨c_blind, hrec, c_pre X hP hS⟩ rfl hn hl rfl (lv_room (c_sum rest hW)) hdg hf
theorem c_runS {y : MethodName} {cy : ByteArray} {maxL : Nat} {rt : Option FieldType} {fr mc ms lo fR mC mS lR idx n : Nat} {Qc : Array Value → State → Outcome → State → Prop} {free : Addr → Prop} {As st0 : List Value} (X : cX p s m args meth c cc nL ret own D Φ) (hM : Met l y (Cond.code y cy maxL rt :: BG) (rA fr mc ms lo) (cPc D Φ S As) Qc mc ms free)
    (hw : Cond.methodLink own idx y ∈ BG ∧ Cond.static y ∈ BG ∧ Cond.initialized y.cls ∈ BG ∧ Cond.code y cy maxL rt ∈ BG)
    (hy : y.cls ≠ "java/lang/invoke/MethodHandle" ∧ y.cls ≠ "java/lang/invoke/VarHandle" ∧ (parseMethodDescriptor y.desc).map (fun d => d.parameters.length) = some n) (hn : As.length = n)
    (hr : fr + 1 ≤ fR ∧ 8 + (maxL + 11) + lo ≤ lR) (hP : cP D Φ S H) (hS : va_S (cReg Φ) s.heap H locs) (hl : ls.size = nL) (hW : rest.length ≤ 4) (hdg : decode cc pc = .ok (.invokestatic idx, 3)) (hst : st0 = As.reverse ++ rest) (hf : cells + mc ≤ mC ∧ slots + ms ≤ mS) :
    va_Run p l e (rA fR mC mS lR) s m args below meth c H locs cells slots mc ms (F0 m pc ls st0) rest (Qc As.toArray) free := by
  subst hst
  have hG : GoodIn BG (va_wsS own idx y (Cond.code y cy maxL rt :: BG)) := bg_all (fun w h => by
    rcases List.mem_append.mp h with h | h
    · rcases List.mem_cons.mp h with rfl | h
      · exact hw.1
      · rcases List.mem_cons.mp h with rfl | h
        · exact hw.2.1
        · rw [List.mem_singleton.mp h]
          exact hw.2.2.1
    · rcases List.mem_cons.mp h with rfl | h
      · exact hw.2.2.2
      · exact h)
  exact va_runS (As := As) (rest := rest) (n := n) ⟨X.1, X.2.1, X.2.2.1, X.2.2.2.1, X.2.2.2.2.1⟩ hM (va_cwS n X.2.2.2.2.1 hG rfl rfl rfl hy hr) ⟨c_blind, c_pre X hP hS⟩ rfl hn hl rfl (lv_room (c_sum rest hW)) hdg hf
theorem c_runSN {y : MethodName} {cy : ByteArray} {maxL : Nat} {rt : Option FieldType} {fr mc ms lo fR mC mS lR idx n : Nat} {host : String} {Qc : Array Value → State → Outcome → State → Prop} {free : Addr → Prop} {As st0 : List Value} (X : cX p s m args meth c cc nL ret own D Φ) (hM : Met l y (Cond.code y cy maxL rt :: BG) (rA fr mc ms lo) (cPc D Φ S As) Qc mc ms free)
    (hw : Cond.methodLinkNest own idx y host ∈ cNest ∧ Cond.static y ∈ BG ∧ Cond.initialized y.cls ∈ BG ∧ Cond.code y cy maxL rt ∈ BG)
    (hy : y.cls ≠ "java/lang/invoke/MethodHandle" ∧ y.cls ≠ "java/lang/invoke/VarHandle" ∧ (parseMethodDescriptor y.desc).map (fun d => d.parameters.length) = some n) (hn : As.length = n)
    (hr : fr + 1 ≤ fR ∧ 8 + (maxL + 11) + lo ≤ lR) (hP : cP D Φ S H) (hS : va_S (cReg Φ) s.heap H locs) (hl : ls.size = nL) (hW : rest.length ≤ 4) (hdg : decode cc pc = .ok (.invokestatic idx, 3)) (hst : st0 = As.reverse ++ rest) (hf : cells + mc ≤ mC ∧ slots + ms ≤ mS) :
    va_Run p l e (rA fR mC mS lR) s m args below meth c H locs cells slots mc ms (F0 m pc ls st0) rest (Qc As.toArray) free := by
  subst hst
  exact va_runSN (As := As) (rest := rest) (n := n) (host := host) ⟨X.1, X.2.1, X.2.2.1, X.2.2.2.1, X.2.2.2.2.1⟩ hM ⟨va_cnB n X.2.2.2.2.1 (bg_self hw.2.2.2) rfl rfl rfl (X.2.2.2.2.2.1.2.2.1 _ hw.1) (X.2.2.2.2.1 _ hw.2.2.1) hy hr, X.2.2.2.2.1 _ hw.2.1, trivial⟩ ⟨c_blind, c_pre X hP hS⟩ rfl hn hl rfl (lv_room (c_sum rest hW)) hdg hf
theorem c_cr {v : Value} {R : Room} {st0 : List Value} {a : Array Value} (hr : va_Run p l e R s m args below meth c H locs cells slots 0 0 (F0 m pc ls st0) rest (cQr (some v) a) (fun _ => False))
    (kk : W p l e R s m args below meth c H locs cells slots Q (F0 m (pc + 3) ls (v :: rest))) : W p l e R s m args below meth c H locs cells slots Q (F0 m pc ls st0) := by
  intro T hT X
  obtain ⟨v', st₀, t, T', L, h0, X', hL, e1, e2, ⟨hv, hh⟩, st⟩ := hr T hT X
  cases hv
  have hLn : L = [] := by
    cases L with
    | nil => rfl
    | cons a as => exact (hL a List.mem_cons_self).elim
  subst hLn
  rw [List.append_nil] at X'
  obtain ⟨t2, a1, b1⟩ := kk T' (by rw [e1, hh, h0]) X'
  exact ⟨t2, st t2 a1, b1⟩
theorem c_cw {v : Option Value} {S' : cS} {mc ms : Nat} {st0 : List Value} {a : Array Value} (hr : va_Run p l e R s m args below meth c H locs cells slots mc ms (F0 m pc ls st0) rest (cQw D Φ S' v a) (cReg Φ)) (hS : va_S (cReg Φ) s.heap H locs)
    (kk : ∀ (H1 : Heap) (locs1 : List Loc), cP D Φ S' H1 → va_S (cReg Φ) s.heap H1 locs1 → W p l e R s m args below meth c H1 locs1 (cells + mc) (slots + ms) Q (F0 m (pc + 3) ls (v.toList ++ rest))) : W p l e R s m args below meth c H locs cells slots Q (F0 m pc ls st0) := by
  intro T hT X
  obtain ⟨v', st₀, t, T', L, h0, X', hL, e1, e2, ⟨hv, hp, hz, hk⟩, st⟩ := hr T hT X
  cases hv
  rw [h0] at hz hk
  obtain ⟨t2, a1, b1⟩ := kk T'.heap (locs ++ L) (by rw [e1]; exact hp) ⟨by rw [e1]; exact Nat.le_trans hS.1 hz, fun q h1 h2 => by rw [e1, hk q (Nat.lt_of_lt_of_le h1 hS.1) h2]; exact hS.2.1 q h1 h2, fun q hq => (List.mem_append.mp hq).elim (hS.2.2 q) (fun h => hL q h)⟩ T' rfl X'
  exact ⟨t2, st t2 a1, b1⟩
theorem c_ri {v : Int32} (X : cX p s m args meth c cc nL (some .int) own D Φ) (hdg : decode cc pc = .ok (.ireturn, 1)) : W p l e R s m args below meth c s.heap [] 0 0 (MQ below (cQr (some (.int v))) args s 0 0 (fun _ => False)) (F0 m pc ls [.int v]) :=
  W.iret X.1 X.2.1 X.2.2.2.2.2.2.2.1 (fun t ht _ => ⟨rfl, ht⟩) (fun q h => by cases h) hdg X.2.2.2.2.2.2.2.2
theorem c_rl {v : Int64} (X : cX p s m args meth c cc nL (some .long) own D Φ) (hdg : decode cc pc = .ok (.lreturn, 1)) : W p l e R s m args below meth c s.heap [] 0 0 (MQ below (cQr (some (.long v))) args s 0 0 (fun _ => False)) (F0 m pc ls [.long v]) :=
  W.lret X.1 X.2.1 X.2.2.2.2.2.2.2.1 (fun t ht _ => ⟨rfl, ht⟩) (fun q h => by cases h) hdg X.2.2.2.2.2.2.2.2
theorem c_rz {v : Int32} (X : cX p s m args meth c cc nL (some .boolean) own D Φ) (h : v = 0 ∨ v = 1) (hdg : decode cc pc = .ok (.ireturn, 1)) : W p l e R s m args below meth c s.heap [] 0 0 (MQ below (cQr (some (.int v))) args s 0 0 (fun _ => False)) (F0 m pc ls [.int v]) :=
  W.zret X.1 X.2.1 X.2.2.2.2.2.2.2.1 (nz h) (fun t ht _ => ⟨rfl, ht⟩) (fun q h => by cases h) hdg X.2.2.2.2.2.2.2.2
theorem cv_or (Φ : cG) (r : Option Nat) : cv Φ r = .null ∨ ∃ a, cv Φ r = .ref a := by
  cases r with
  | none => exact Or.inl rfl
  | some a => exact Or.inr ⟨_, rfl⟩
theorem c_ra {r : Option Nat} {C : String} (X : cX p s m args meth c cc nL (some (.object C)) own D Φ) (hdg : decode cc pc = .ok (.areturn, 1)) : W p l e R s m args below meth c s.heap [] 0 0 (MQ below (cQr (some (cv Φ r))) args s 0 0 (fun _ => False)) (F0 m pc ls [cv Φ r]) :=
  W.aret X.1 X.2.1 X.2.2.2.2.2.2.2.1 (Or.inl ⟨C, rfl⟩) (cv_or Φ r) (fun t ht _ => ⟨rfl, ht⟩) (fun q h => by cases h) hdg X.2.2.2.2.2.2.2.2
theorem c_qw {v : Option Value} (hP : cP D Φ S H) (hS : va_S (cReg Φ) s.heap H locs) {t : State} (ht : t.heap = H) : cQw D Φ S v args s (.returned v) t := ⟨rfl, by rw [ht]; exact hP, hS.F ht⟩
theorem c_wi {v : Int32} {mc ms : Nat} (X : cX p s m args meth c cc nL (some .int) own D Φ) (hP : cP D Φ S H) (hS : va_S (cReg Φ) s.heap H locs) (h1 : cells ≤ mc) (h2 : slots ≤ ms) (hdg : decode cc pc = .ok (.ireturn, 1)) : W p l e R s m args below meth c H locs cells slots (MQ below (cQw D Φ S (some (.int v))) args s mc ms (cReg Φ)) (F0 m pc ls [.int v]) :=
  W.widen h1 h2 (W.iret X.1 X.2.1 X.2.2.2.2.2.2.2.1 (fun t ht _ => c_qw hP hS ht) hS.2.2 hdg X.2.2.2.2.2.2.2.2)
theorem c_wz {v : Int32} {mc ms : Nat} (X : cX p s m args meth c cc nL (some .boolean) own D Φ) (h : v = 0 ∨ v = 1) (hP : cP D Φ S H) (hS : va_S (cReg Φ) s.heap H locs) (h1 : cells ≤ mc) (h2 : slots ≤ ms) (hdg : decode cc pc = .ok (.ireturn, 1)) : W p l e R s m args below meth c H locs cells slots (MQ below (cQw D Φ S (some (.int v))) args s mc ms (cReg Φ)) (F0 m pc ls [.int v]) :=
  W.widen h1 h2 (W.zret X.1 X.2.1 X.2.2.2.2.2.2.2.1 (nz h) (fun t ht _ => c_qw hP hS ht) hS.2.2 hdg X.2.2.2.2.2.2.2.2)
theorem c_wa {r : Option Nat} {C : String} {mc ms : Nat} (X : cX p s m args meth c cc nL (some (.object C)) own D Φ) (hP : cP D Φ S H) (hS : va_S (cReg Φ) s.heap H locs) (h1 : cells ≤ mc) (h2 : slots ≤ ms) (hdg : decode cc pc = .ok (.areturn, 1)) : W p l e R s m args below meth c H locs cells slots (MQ below (cQw D Φ S (some (cv Φ r))) args s mc ms (cReg Φ)) (F0 m pc ls [cv Φ r]) :=
  W.widen h1 h2 (W.aret X.1 X.2.1 X.2.2.2.2.2.2.2.1 (Or.inl ⟨C, rfl⟩) (cv_or Φ r) (fun t ht _ => c_qw hP hS ht) hS.2.2 hdg X.2.2.2.2.2.2.2.2)
theorem c_wv {mc ms : Nat} (X : cX p s m args meth c cc nL none own D Φ) (hP : cP D Φ S H) (hS : va_S (cReg Φ) s.heap H locs) (h1 : cells ≤ mc) (h2 : slots ≤ ms) (hdg : decode cc pc = .ok (.return_, 1)) : W p l e R s m args below meth c H locs cells slots (MQ below (cQw D Φ S none) args s mc ms (cReg Φ)) (F0 m pc ls []) :=
  W.widen h1 h2 (W.vret X.1 X.2.1 X.2.2.2.2.2.2.2.1 (fun t ht _ => c_qw hP hS ht) hS.2.2 hdg X.2.2.2.2.2.2.2.2)
theorem c_getsN (X : cX p s m args meth c cc nL ret own D Φ) (hS : va_S (cReg Φ) s.heap H locs) {idx : Nat} {host : String} (hw : Cond.fieldLinkNest own idx "Cascadery" "INITIALS" "[I" host ∈ cNest) (hdg : decode cc pc = .ok (.getstatic idx, 3))
    (kk : W p l e R s m args below meth c H locs cells slots Q (F0 m (pc + 3) ls (cv Φ (some 0) :: rest))) : W p l e R s m args below meth c H locs cells slots Q (F0 m pc ls rest) :=
  va_getsN X.1 X.2.1 X.2.2.2.2.2.2.1.1 hS X.2.2.2.1 (va_Nw.use rfl (X.2.2.2.2.2.1.2.2.1 _ hw)) (fun _ h => h) hdg kk
theorem cX_of {y : MethodName} {rm : Room} {maxL : Nat} {s₁ : State} (B : BodyLoose p l y (headSpec (Cond.code y cc maxL ret :: BG) rm) cc maxL ret e s m args below meth c s₁) (hml : c.maxLocals = maxL) (hK : cK D s) (hZ : cZ Φ s s.heap) : cX p s m args meth c cc maxL ret y.cls D Φ :=
  ⟨B.exec, B.bytes, hml, findClass_of_methodNamed B.named, fun w hw => atoms_spec (ws := Cond.code y cc maxL ret :: BG) B.pre w (List.mem_cons_of_mem _ hw), hK, hZ, B.returns, B.notSynchronized⟩
theorem lv_args_r (i : Nat) (r : Option Nat) (vs : List Value) : lv_args i (cv Φ r :: vs) = (i, cv Φ r) :: lv_args (i + 1) vs := by
  show (i, cv Φ r) :: lv_args (if (cv Φ r).category = 2 then i + 2 else i + 1) vs = _
  rw [cv_cat]
  rfl
theorem lv_args_i (i : Nat) (x : Int32) (vs : List Value) : lv_args i (.int x :: vs) = (i, .int x) :: lv_args (i + 1) vs := rfl
theorem lv_args_l (i : Nat) (x : Int64) (vs : List Value) : lv_args i (.long x :: vs) = (i, .long x) :: lv_args (i + 2) vs := rfl
theorem lv_args_0 (i : Nat) : lv_args i [] = [] := rfl
theorem lg_len (vs : List Value) : (lg_sl vs).length ≤ 2 * vs.length := by
  induction vs with
  | nil => exact Nat.le_refl _
  | cons a t ih =>
    unfold lg_sl at ih ⊢
    rw [List.flatMap_cons, List.length_append, List.length_cons]
    have : (if a.category = 2 then [Slot.val a, Slot.second] else [Slot.val a]).length ≤ 2 := by split <;> simp
    omega
end CW
