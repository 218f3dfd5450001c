/-! MATHS, 127: what holds at the start: the statics, the array INITIALS, the class's state -/
set_option maxRecDepth 100000 in
theorem gv_in : (∀ i, i < 3 → ∀ j, j < 3 → i ≠ j → Cond.not (.castable (excN i) (excN j)) ∈ flatC (Jvm.Cond.and given_1 narrow_1)) := by decide +kernel
set_option maxRecDepth 100000 in
theorem gv_st : Cond.isRef (.static Bundle.tN "UNASSIGNED_STACK" Bundle.steD) ∈ flatC (Jvm.Cond.and given_1 narrow_1) ∧ Cond.isRef (.static Bundle.tN "SUPPRESSED_SENTINEL" Bundle.listD) ∈ flatC (Jvm.Cond.and given_1 narrow_1) ∧ Cond.arrayOf (.static "Cascadery" "INITIALS" "[I") .int ∈ flatC (Jvm.Cond.and given_1 narrow_1) ∧ Cond.eq (.length (.static "Cascadery" "INITIALS" "[I")) (.int 12) ∈ flatC (Jvm.Cond.and given_1 narrow_1) := by decide +kernel
set_option maxRecDepth 100000 in
theorem gv_el : ∀ j, j < 12 → Cond.eq (.elem (.static "Cascadery" "INITIALS" "[I") (.int (Int32.ofNat j))) (.int (vI0 j)) ∈ flatC (Jvm.Cond.and given_1 narrow_1) := by decide +kernel
set_option maxRecDepth 100000 in
theorem tb_ls : Cond.laysStatic "Cascadery" "INITIALS" "[I" ∈ lw_tbl ∧ Cond.laysStatic Bundle.tN "UNASSIGNED_STACK" Bundle.steD ∈ lw_tbl ∧ Cond.laysStatic Bundle.tN "SUPPRESSED_SENTINEL" Bundle.listD ∈ lw_tbl := by decide +kernel
set_option maxRecDepth 100000 in
theorem tb_ii : Cond.initialized "Cascadery" ∈ lw_tbl ∧ Cond.initialized Bundle.tN ∈ lw_tbl := by decide +kernel
theorem st_g {args : Array Value} {s : State} (hgv : (Jvm.Cond.and given_1 narrow_1).before args s = true) : ∀ c ∈ flatC (Jvm.Cond.and given_1 narrow_1), c.before args s = true := flat_of_before _ hgv
theorem st_N {args : Array Value} {s : State} (hgv : (Jvm.Cond.and given_1 narrow_1).before args s = true) : lNc s := fun i hi j hj hne => va_Nc.of (st_g hgv _ (gv_in i hi j hj hne))
/-- the array INITIALS -/
theorem st_I {args : Array Value} {s : State} (hgv : (Jvm.Cond.and given_1 narrow_1).before args s = true) : ∃ (t : Nat) (cell : Cell), (Term.static "Cascadery" "INITIALS" "[I").eval args s none [] s = some (.ref t) ∧ s.heap[t]? = some cell ∧ s.isArrayOf cell .int ∧ cell.vm ≠ .unknown ∧ 12 ≤ cell.slots.size ∧ ∀ j, j < 12 → cell.slots[j]? = some (.int (vI0 j)) := by
  obtain ⟨t, h1, cell, g1, g2, g3, g4, g5, g6, -⟩ := va_Tof (N := 12) (f := fun j => .int (vI0 j)) (A := fun a => s.heap.size ≤ a) (by decide) (st_g hgv _ gv_st.2.2.1) (va_eqt (st_g hgv _ gv_st.2.2.2)) (fun j hj => va_eqt (st_g hgv _ (gv_el j hj))) (fun a h => by omega)
  exact ⟨t, cell, h1, g1, g2, g3, g4, g6⟩
/-- the statics, whatever the addresses -/
theorem st_Z {args : Array Value} {s : State} (hts : ∀ w ∈ lw_tbl, w.before args s = true) (hgv : (Jvm.Cond.and given_1 narrow_1).before args s = true) {t : Nat} (ht : (Term.static "Cascadery" "INITIALS" "[I").eval args s none [] s = some (.ref t)) {Φ : cG} (h1 : Φ.1 = t) (h2 : Φ.2.1 = s.heap.size) : cZ Φ s s.heap := by
  have hA : ∀ a : Nat, a < s.heap.size → ¬ cReg Φ a := fun a ha h => by have := h.1; omega
  refine ⟨va_Zref (hts _ tb_ls.1) (hts _ tb_ii.1) (by rw [h1]; exact ht) hA, vx_Zqof (hts _ tb_ls.2.1) (hts _ tb_ii.2) (st_g hgv _ gv_st.1) hA, vx_Zqof (hts _ tb_ls.2.2) (hts _ tb_ii.2) (st_g hgv _ gv_st.2.1) hA⟩
/-- the class's state at the start: the array INITIALS -/
theorem st_cell {D : cD} {Φ : cG} {s : State} {t : Nat} {cell : Cell} {c : cE} (h1 : Φ.1 = t) (g1 : s.heap[t]? = some cell) (g2 : s.isArrayOf cell .int) (g3 : cell.vm ≠ .unknown) (g4 : 12 ≤ cell.slots.size) (hD : D.2.2 21 = cell.cls) (hc : c.1 = 20) (hn : c.2.1 = 12) (g5 : ∀ j, j < 12 → cell.slots[j]? = some (.int (c.2.2.1 j))) : cAt D Φ 0 c s.heap :=
  ⟨fun z => absurd (hc ▸ z : 20 < 12) (by decide), fun ty hty => ⟨fun z => absurd rfl z, fun _ => ⟨hc, cell, by show s.heap[Φ.1]? = _; rw [h1]; exact g1, hD.symm, g2.1, g3, by rw [hn]; exact g4, fun j hj => g5 j (hn ▸ hj)⟩⟩⟩
theorem st_arr {s : State} {cell : Cell} (g2 : s.isArrayOf cell .int) : ArrOfT s cell.cls .int := fun n z => ⟨fun k h => (by cases h), g2.2⟩
def l0I : lC := (20, 12, [(11, (-1)), (8, (-1)), (5, 1), (2, (-1000000)), (1, 16)], [])
theorem l0_v : ∀ j, j < 12 → (dC l0I).2.2.1 j = vI0 j := by decide +kernel
theorem st_P {D : cD} {s : State} {t : Nat} {cell : Cell} (g1 : s.heap[t]? = some cell) (g2 : s.isArrayOf cell .int) (g3 : cell.vm ≠ .unknown) (g4 : 12 ≤ cell.slots.size) (hD : D.2.2 21 = cell.cls) (g5 : ∀ j, j < 12 → cell.slots[j]? = some (.int (vI0 j))) : cP D (t, s.heap.size, s.heap.size, s.heap.size) (dH [l0I]) s.heap := by
  have ht : t < s.heap.size := (Array.getElem?_eq_some_iff.mp g1).1
  refine ⟨fun a c hc => ?_, Nat.le_refl _, rfl, ht, Nat.le_refl _⟩
  cases a with
  | succ a => cases hc
  | zero =>
    cases hc
    exact ⟨st_cell rfl g1 g2 g3 g4 hD rfl rfl (fun j hj => by rw [l0_v j hj]; exact g5 j hj), Or.inl rfl⟩
theorem l0_L00 : nw (dH [l0I]) 11 = dH L00 := d_nw _ _
/-- the same cells, with a hole for the reference behind them -/
theorem cP.hole {D : cD} {t n : Nat} {L : List lC} {H H1 : Heap} {k : Nat} (hP : cP D (t, n, n, n) (dH L) H) (hL : 1 ≤ L.length) (z : H1.size = n + (L.length - 1) + k) (o : ∀ q, q < H.size → H1[q]? = H[q]?) : cP D (t, n, n + (L.length - 1), n + (L.length - 1) + k) ((dH L).1, L.length + k) H1 := by
  obtain ⟨h1, h2, h3, h4, h5⟩ := hP
  have hp : ∀ a, ph (t, n, n + (L.length - 1), n + (L.length - 1) + k) a = ph (t, n, n, n) a := fun a => rfl
  have hz : H.size = n + (L.length - 1) := by
    have h3' : H.size = ph (t, n, n, n) L.length := h3
    rw [h3']
    unfold ph
    rw [if_neg (by omega)]
  refine ⟨fun a c hc => ⟨?_, ?_⟩, by show 1 ≤ L.length + k; omega, ?_, h4, by show n + (L.length - 1) + k ≤ H1.size; omega⟩
  · have g := (h1 a c hc).1.push o
    exact g
  · rcases (h1 a c hc).2 with g | g
    · exact Or.inl g
    · by_cases ha : a = 0
      · exact Or.inl ha
      · refine Or.inr ⟨g.1, fun q => ?_⟩
        have hc' : (L[a]?).map dC = some c := hc
        have hlt : a < L.length := by
          cases h : L[a]? with
          | none => rw [h] at hc'; cases hc'
          | some v => exact (List.getElem?_eq_some_iff.mp h).1
        have q1 : n + (L.length - 1) ≤ ph (t, n, n, n) a := q.1
        unfold ph at q1
        rw [if_neg ha] at q1
        have q2 : n + (L.length - 1) ≤ n + (a - 1) := q1
        omega
  · show H1.size = ph (t, n, n, n) (L.length + k)
    unfold ph
    rw [if_neg (by omega)]
    show H1.size = n + (L.length + k - 1)
    omega
