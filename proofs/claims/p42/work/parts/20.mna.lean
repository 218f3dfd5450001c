def mna (S : cS) (N M : Nat) : cS := (fun b => if b = S.2 then some (50, N, fun _ => 0, fun j => if j < N then some (S.2 + 1 + j) else none) else if S.2 < b ∧ b < S.2 + 1 + N then some (20, M, fun _ => 0, fun _ => none) else S.1 b, S.2 + 1 + N)
theorem c_outer (c : ClassId) (N h0 : Nat) : ∀ i : Nat, Jvm.Free.Multi.outerC c N h0 i = arrV c N (fun j => va_rf (if j < i then some (h0 + 1 + j) else none))
  | 0 => by
    show ({ cls := c, slots := Array.replicate N .null, vm := .none } : Cell) = _
    rw [arrV_new]
    refine congrArg (arrV c N) (funext fun j => ?_)
    simp [va_rf]
  | i + 1 => by
    show (Jvm.Free.Multi.outerC c N h0 i).setSlot i (.ref (h0 + 1 + i)) = _
    rw [c_outer c N h0 i, arrV_store]
    refine congrArg (arrV c N) (funext fun j => ?_)
    by_cases e : j = i
    · subst e
      simp [updV, va_rf]
    · by_cases h : j < i
      · simp [updV, e, h, Nat.lt_succ_of_lt h]
      · simp [updV, e, h, show ¬ j < i + 1 by omega]
theorem cP.multi {D : cD} {Φ : cG} {S : cS} {H H1 : Heap} (hP : cP D Φ S H) {N M : Nat} (z : H1.size = H.size + 1 + N) (o : ∀ q, q < H.size → H1[q]? = H[q]?) (h0 : H1[H.size]? = some (arrV (D.2.2 50) N (fun j => va_rf (if j < N then some (H.size + 1 + j) else none)))) (h1 : ∀ j, j < N → H1[H.size + 1 + j]? = some (arrV (D.2.2 20) M (fun _ => .int 0))) : cP D Φ (mna S N M) H1 := by
  obtain ⟨g1, g2, g3, g4, g5⟩ := hP
  have e : ∀ k, ph Φ (S.2 + k) = H.size + k := fun k => by
    rw [g3]
    unfold ph
    rw [if_neg (by omega), if_neg (by omega)]
    omega
  have b0 : Φ.2.1 + (S.2 - 1) = H.size := by
    rw [g3]
    unfold ph
    rw [if_neg (by omega)]
  refine ⟨fun a c ha => ?_, by show 1 ≤ S.2 + 1 + N; omega, ?_, g4, fun q hq => by have := g5 q hq; omega⟩
  · by_cases hb : a = S.2
    · subst hb
      simp only [mna, if_true] at ha
      cases ha
      have e0 := e 0
      simp only [Nat.add_zero] at e0
      refine ⟨⟨fun h => absurd (show (50 : Nat) < 12 from h) (by decide), fun ty hty => ⟨fun _ => ?_, fun z0 => absurd g2 (by rw [z0]; decide)⟩⟩, Or.inr ⟨by rw [e0]; omega, by rw [e0]; exact hole_no g5 (by omega)⟩⟩
      rw [e0, h0]
      show some _ = some (vp_cell (D.2.2 50) (N, .inr (.inr (.inr (.inr (fun j => (if j < N then some (S.2 + 1 + j) else none).map (ph Φ)))))))
      rw [vp_cell_q]
      refine congrArg (fun f => some (arrV (D.2.2 50) N f)) (funext fun j => ?_)
      by_cases hj : j < N
      · rw [if_pos hj, if_pos hj, show S.2 + 1 + j = S.2 + (1 + j) by omega, Option.map_some, e]
        congr 2
        omega
      · rw [if_neg hj, if_neg hj]
        rfl
    · by_cases hc : S.2 < a ∧ a < S.2 + 1 + N
      · simp only [mna, if_neg hb, if_pos hc] at ha
        cases ha
        obtain ⟨j, rfl⟩ : ∃ j, a = S.2 + (1 + j) := ⟨a - S.2 - 1, by omega⟩
        have e1 := e (1 + j)
        have hj : j < N := by omega
        refine ⟨⟨fun h => absurd (show (20 : Nat) < 12 from h) (by decide), fun ty hty => ⟨fun _ => ?_, fun z0 => absurd z0 (by omega)⟩⟩, Or.inr ⟨by rw [e1]; omega, by rw [e1]; exact hole_no g5 (by omega)⟩⟩
        rw [e1, ← Nat.add_assoc, h1 j hj]
        rfl
      · simp only [mna, if_neg hb, if_neg hc] at ha
        exact ⟨(g1 a c ha).1.push o, (g1 a c ha).2⟩
  · show H1.size = ph Φ (S.2 + 1 + N)
    rw [Nat.add_assoc, e]
    omega
section CMN
variable {p : Program} {l : Launch} {e : Env} {R : Room} {s : State} {m : MethodId} {args : Array Value} {below : List Frame} {meth : Method} {c : Code} {H : Heap} {locs : List Loc} {cells slots : Nat} {Q : State → Prop} {cc : ByteArray} {pc : Nat} {ls : Array Slot} {rest : List Value} {D : cD} {Φ : cG} {nL : Nat} {S : cS} {ret : Option FieldType} {own : String}
theorem c_mna (X : cX p s m args meth c cc nL ret own D Φ) (hP : cP D Φ S H) (hS : va_S (cReg Φ) s.heap H locs) {N M : Nat} {n k : Int32} {idx : Nat} (hw : Cond.classLink own idx "[[I" ∈ BG ∧ Cond.arrayClass .int ∈ BG) (hn : ¬ n < 0 ∧ ¬ k < 0) (hN : n.toNatClampNeg = N) (hM : k.toNatClampNeg = M) (hb : N * 4 ≤ 536870912 ∧ M * 4 ≤ 536870912) (hcells : cells + (1 + N) ≤ R.cells) (hslots : slots + (N + N * M) ≤ R.slots) (hdg : decode cc pc = .ok (.multianewarray idx 2, 4))
    (kk : ∀ H1 : Heap, cP D Φ (mna S N M) H1 → va_S (cReg Φ) s.heap H1 locs → W p l e R s m args below meth c H1 locs (cells + 1 + N) (slots + N + N * M) Q (F0 m (pc + 4) ls (cv Φ (some S.2) :: rest))) : W p l e R s m args below meth c H locs cells slots Q (F0 m pc ls (.int k :: .int n :: rest)) := by
  obtain ⟨hx, hbc, -, hown, hts, hK, -⟩ := X
  subst hN
  subst hM
  intro T hT Xs
  obtain ⟨vm₁, cA, comp, -, fA, fC, -, -, X', step⟩ := Xs.multianewarray2F (ty := .int) hx hown (hts _ hw.1) hK.2.2.2.2.1 (hts _ hw.2) (g := F0 m pc ls (.int k :: .int n :: rest)) rfl (by rw [hbc]; exact hdg) rfl hn.1 hn.2 hb.1 hb.2 (Nat.le_trans (Nat.le_mul_of_pos_right _ (by decide)) hb.2) rfl rfl hcells hslots
  have kA : s.vm.findClass ("[" ++ (FieldType.array .int).toString) = some (D.2.2 50) := (hK.2.1 50 (.array .int) rfl).2
  have kC : s.vm.findClass (FieldType.array .int).toString = some (D.2.2 20) := (hK.2.1 20 .int rfl).2
  have eA : cA = D.2.2 50 := Option.some.inj (fA.symm.trans kA)
  have eC : comp = D.2.2 20 := Option.some.inj (fC.symm.trans kC)
  subst eA
  subst eC
  generalize hF : Jvm.Free.Multi.fill (T.setVm vm₁) (D.2.2 50) (D.2.2 20) n.toNatClampNeg k.toNatClampNeg (defaultValue .int) n.toNatClampNeg = F at X' step
  have hTh : (T.setVm vm₁).heap = H := hT
  obtain ⟨f1, f2, -, -⟩ := Jvm.Free.Multi.fill_facts (T.setVm vm₁) (D.2.2 50) (D.2.2 20) n.toNatClampNeg k.toNatClampNeg (defaultValue .int) n.toNatClampNeg
  rw [hF, hTh] at f1 f2
  have hold : ∀ x : Nat, x < H.size → F.heap[x]? = H[x]? := fun x hx => by
    have := Jvm.Free.Multi.fill_old (T.setVm vm₁) (D.2.2 50) (D.2.2 20) n.toNatClampNeg k.toNatClampNeg (defaultValue .int) (a := x) (by rw [hTh]; exact hx) n.toNatClampNeg
    rw [hF, hTh] at this
    exact this
  have hrow : ∀ j : Nat, j < n.toNatClampNeg → F.heap[H.size + 1 + j]? = some (arrV (D.2.2 20) k.toNatClampNeg (fun _ => .int 0)) := fun j hj => by
    have := Jvm.Free.Multi.fill_inner (T.setVm vm₁) (D.2.2 50) (D.2.2 20) n.toNatClampNeg k.toNatClampNeg (defaultValue .int) n.toNatClampNeg j hj
    rw [hF, hTh] at this
    rw [this, ← arrV_new]
    rfl
  rw [c_outer] at f2
  have h8 := kk F.heap (hP.multi f1 hold f2 hrow) ⟨Nat.le_trans hS.1 (by omega), fun x h1 h2 => (hold x (Nat.lt_of_lt_of_le h1 hS.1)).trans (hS.2.1 x h1 h2), hS.2.2⟩
  have eT : T.heap = H := hT
  rw [show cv Φ (some S.2) = .ref H.size by rw [hP.2.2.1]; rfl] at h8
  rw [eT] at step
  obtain ⟨t, a, b⟩ := h8 F rfl X'
  exact ⟨t, step t a, b⟩
end CMN
