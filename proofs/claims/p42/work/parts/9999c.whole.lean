set_option maxRecDepth 100000 in
theorem gv_in : (∀ i, i < 3 → ∀ j, j < 3 → i ≠ j → Cond.not (.castable (excN i) (excN j)) ∈ flatC (Jvm.Cond.and given_1 narrow_1)) := by decide +kernel
set_option maxRecDepth 100000 in
theorem gv_st : Cond.isRef (.static Bundle.tN "UNASSIGNED_STACK" Bundle.steD) ∈ flatC (Jvm.Cond.and given_1 narrow_1) ∧ Cond.isRef (.static Bundle.tN "SUPPRESSED_SENTINEL" Bundle.listD) ∈ flatC (Jvm.Cond.and given_1 narrow_1) ∧ Cond.arrayOf (.static "Cascadery" "INITIALS" "[I") .int ∈ flatC (Jvm.Cond.and given_1 narrow_1) ∧ Cond.eq (.length (.static "Cascadery" "INITIALS" "[I")) (.int 12) ∈ flatC (Jvm.Cond.and given_1 narrow_1) := by decide +kernel
set_option maxRecDepth 100000 in
theorem gv_el : ∀ j, j < 12 → Cond.eq (.elem (.static "Cascadery" "INITIALS" "[I") (.int (Int32.ofNat j))) (.int (vI0 j)) ∈ flatC (Jvm.Cond.and given_1 narrow_1) := by decide +kernel
set_option maxRecDepth 100000 in
theorem tb_ls : Cond.laysStatic "Cascadery" "INITIALS" "[I" ∈ lw_tbl ∧ Cond.laysStatic Bundle.tN "UNASSIGNED_STACK" Bundle.steD ∈ lw_tbl ∧ Cond.laysStatic Bundle.tN "SUPPRESSED_SENTINEL" Bundle.listD ∈ lw_tbl := by decide +kernel
set_option maxRecDepth 100000 in
theorem tb_ii : Cond.initialized "Cascadery" ∈ lw_tbl ∧ Cond.initialized Bundle.tN ∈ lw_tbl := by decide +kernel
theorem st_g {args : Array Value} {s : State} (hgv : (Jvm.Cond.and given_1 narrow_1).before args s = true) : ∀ c ∈ flatC (Jvm.Cond.and given_1 narrow_1), c.before args s = true := flat_of_before _ hgv
theorem st_N {args : Array Value} {s : State} (hgv : (Jvm.Cond.and given_1 narrow_1).before args s = true) : lNc s := fun i hi j hj hne => va_Nc.of (st_g hgv _ (gv_in i hi j hj hne))
/-- the array INITIALS -/
theorem st_I {args : Array Value} {s : State} (hgv : (Jvm.Cond.and given_1 narrow_1).before args s = true) : ∃ (t : Nat) (cell : Cell), (Term.static "Cascadery" "INITIALS" "[I").eval args s none [] s = some (.ref t) ∧ s.heap[t]? = some cell ∧ s.isArrayOf cell .int ∧ cell.vm ≠ .unknown ∧ 12 ≤ cell.slots.size ∧ ∀ j, j < 12 → cell.slots[j]? = some (.int (vI0 j)) := by
  obtain ⟨t, h1, cell, g1, g2, g3, g4, g5, g6, -⟩ := va_Tof (N := 12) (f := fun j => .int (vI0 j)) (A := fun a => s.heap.size ≤ a) (by decide) (st_g hgv _ gv_st.2.2.1) (va_eqt (st_g hgv _ gv_st.2.2.2)) (fun j hj => va_eqt (st_g hgv _ (gv_el j hj))) (fun a h => by omega)
  exact ⟨t, cell, h1, g1, g2, g3, g4, g6⟩
/-- the statics, whatever the addresses -/
theorem st_Z {args : Array Value} {s : State} (hts : ∀ w ∈ lw_tbl, w.before args s = true) (hgv : (Jvm.Cond.and given_1 narrow_1).before args s = true) {t : Nat} (ht : (Term.static "Cascadery" "INITIALS" "[I").eval args s none [] s = some (.ref t)) {Φ : cG} (h1 : Φ.1 = t) (h2 : Φ.2.1 = s.heap.size) : cZ Φ s s.heap := by
  have hA : ∀ a : Nat, a < s.heap.size → ¬ cReg Φ a := fun a ha h => by have := h.1; omega
  refine ⟨va_Zref (hts _ tb_ls.1) (hts _ tb_ii.1) (by rw [h1]; exact ht) hA, vx_Zqof (hts _ tb_ls.2.1) (hts _ tb_ii.2) (st_g hgv _ gv_st.1) hA, vx_Zqof (hts _ tb_ls.2.2) (hts _ tb_ii.2) (st_g hgv _ gv_st.2.1) hA⟩
theorem st_cell {D : cD} {Φ : cG} {s : State} {t : Nat} {cell : Cell} {c : cE} (h1 : Φ.1 = t) (g1 : s.heap[t]? = some cell) (g2 : s.isArrayOf cell .int) (g3 : cell.vm ≠ .unknown) (g4 : 12 ≤ cell.slots.size) (hD : D.2.2 21 = cell.cls) (hc : c.1 = 20) (hn : c.2.1 = 12) (g5 : ∀ j, j < 12 → cell.slots[j]? = some (.int (c.2.2.1 j))) : cAt D Φ 0 c s.heap :=
  ⟨fun z => absurd (hc ▸ z : 20 < 12) (by decide), fun ty hty => ⟨fun z => absurd rfl z, fun _ => ⟨hc, cell, by show s.heap[Φ.1]? = _; rw [h1]; exact g1, hD.symm, g2.1, g3, by rw [hn]; exact g4, fun j hj => g5 j (hn ▸ hj)⟩⟩⟩
theorem st_arr {s : State} {cell : Cell} (g2 : s.isArrayOf cell .int) : ArrOfT s cell.cls .int := fun n z => ⟨fun k h => (by cases h), g2.2⟩
def l0I : lC := (20, 12, [(11, (-1)), (8, (-1)), (5, 1), (2, (-1000000)), (1, 16)], [])
theorem l0_v : ∀ j, j < 12 → (dC l0I).2.2.1 j = vI0 j := by decide +kernel
theorem st_P {D : cD} {s : State} {t : Nat} {cell : Cell} (g1 : s.heap[t]? = some cell) (g2 : s.isArrayOf cell .int) (g3 : cell.vm ≠ .unknown) (g4 : 12 ≤ cell.slots.size) (hD : D.2.2 21 = cell.cls) (g5 : ∀ j, j < 12 → cell.slots[j]? = some (.int (vI0 j))) : cP D (t, s.heap.size, fun _ => false) (dH [l0I]) s.heap := by
  have ht : t < s.heap.size := (Array.getElem?_eq_some_iff.mp g1).1
  refine ⟨fun a c hc => ?_, Nat.le_refl _, rfl, ht, fun q hq => by cases hq⟩
  cases a with
  | succ a => cases hc
  | zero =>
    cases hc
    exact ⟨st_cell rfl g1 g2 g3 g4 hD rfl rfl (fun j hj => by rw [l0_v j hj]; exact g5 j hj), Or.inl rfl⟩
theorem l0_L0z0 : nw (dH [l0I]) 11 = dH L0z0 := d_nw _ _
set_option maxRecDepth 100000 in
theorem w_st1 : Cond.classLink "CascaderyLaw" 10 "Cascadery" ∈ BG := List.mem_filter.mpr ⟨by decide +kernel, by decide +kernel⟩
set_option maxRecDepth 100000 in
theorem w_st2 : Cond.methodLink "CascaderyLaw" 178 yX11_init ∈ BG := List.mem_filter.mpr ⟨by decide +kernel, by decide +kernel⟩
set_option maxRecDepth 100000 in
theorem w_st5 : Cond.instantiable "Cascadery" 16 ∈ BG ∧ Cond.arrayClass .int ∈ BG := ⟨List.mem_filter.mpr ⟨by decide +kernel, by decide +kernel⟩, List.mem_filter.mpr ⟨by decide +kernel, by decide +kernel⟩⟩
theorem W_drop {p : Program} {l : Launch} {e : Env} {R : Room} {s : State} {m : MethodId} {args : Array Value} {below : List Frame} {meth : Method} {c : Code} {H : Heap} {J : List Loc} {cells slots : Nat} {Q : State → Prop} {g : JFrame} (hJ : ∀ z ∈ J, s.heap.size ≤ z.base) (k : W p l e R s m args below meth c H [] cells slots Q g) : W p l e R s m args below meth c H J cells slots Q g := fun T hT X => k T hT (X.dropFresh (locs := []) (J := J) hJ)
theorem st_fl {l : Launch} (h : l.flags = flags0) : l.stackTraces = false := by
  show (!l.flags.contains noTraceFlag) = false
  rw [h]
  decide +kernel
theorem LZ_len : LZ.length = 255 := by decide +kernel
theorem l00_rc : rc (dH L0z0) (some 1) 11 = some 1 := by rw [d_rc]; decide +kernel
theorem st_nw (V : lwS) (a : Nat) (x : Int32) : stA (nwA V a 9) a 0 x = some (V.1, V.2.1, fun y => if y = a then some (9, upd (fun _ => 0) 0 x) else (nwA V a 9).2.2 y) := by
  unfold stA nwA
  show ((if a = a then some (9, fun _ => (0:Int32)) else V.2.2 a).bind _) = _
  rw [if_pos rfl]
  rfl
def lawT : Prop := ∀ (L : Nat) (xs : Nat → Int32) (σ : mS) (a : Nat) (V : lwS), L ≤ 260 → f_X12_init = some σ → stA (nwA (σ, 0, fun _ => none) a 9) a 0 1 = some V → P_L_law_19 L xs 5 a 0 V
set_option maxRecDepth 400000 in
set_option maxHeartbeats 4000000 in
theorem start0 (hLT : lawT) {p : Program} {e : Env} {s : State} {m : MethodId} {below : List Frame} {meth : Method} {c : Code} (l : Launch) (hflags : l.flags = flags0) {b L : Nat} {xs : Nat → Int32} (hL : L ≤ 260) (h : lw_At p s m meth c b L xs) : W p l e room_1 s m #[Value.ref b] below meth c s.heap [] 0 0 (lw_Z below #[Value.ref b] s) (entryFrame m ([Value.ref b] : List Value).toArray 8) := by
  obtain ⟨hx, hb, hrt, hml, hown, hts, hXX, hbl, hlk, hgv⟩ := h
  have hl9 : l.stackTraces = false := st_fl hflags
  obtain ⟨t, cell, ht, g1, g2, g3, g4, g5⟩ := st_I hgv
  obtain ⟨D, hK, hD⟩ := st_K hts (st_arr g2)
  obtain ⟨σ, hσ, hJ⟩ := rs2
  have hP0 := st_P g1 g2 g3 g4 hD g5
  have hBG : ∀ w ∈ BG, w.before #[Value.ref b] s = true := fun w hw => hts w (List.mem_filter.mp hw).1
  have X0 : cX p s m #[Value.ref b] meth c cL_law 8 (some .boolean) "CascaderyLaw" D (lwO (t, s.heap.size)) := ⟨hx, hb, hml, hown, hBG, hK, st_Z hts hgv ht rfl rfl, hrt, hlk⟩
  have hl := lv_entry [Value.ref b] (n := 8) (Nat.le_of_ble_eq_true rfl)
  rw [lg_entry_eq]
  generalize (lg_sl [Value.ref b] ++ List.replicate (8 - (lg_sl [Value.ref b]).length) Slot.unset).toArray = ls at hl ⊢
  have hl : lv_has ls 8 [(0, .ref b)] := hl
  have hS : va_S (cReg (lwO (t, s.heap.size))) s.heap s.heap [] := va_S.rf
  show W p l e (rA 13 room_1.cells room_1.slots 500) s m #[Value.ref b] below meth c s.heap [] 0 0 (lw_Z below #[Value.ref b] s) (F0 m 0 ls [])
  refine c_new X0 hP0 hS (ci := 11) ⟨by decide, by decide⟩ ⟨w_st1, w_st5.1, List.mem_filter.mpr ⟨by decide +kernel, by decide +kernel⟩⟩ (Nat.le_of_ble_eq_true rfl) (Nat.le_of_ble_eq_true rfl) dL_law_0 (fun H hP hS => ?_)
  refine c_dupq hx hb dL_law_3 ?_
  rw [l0_L0z0] at hP
  refine c_cw (c_runI X0 (K_X11_init l D (lwO (t, s.heap.size)) (dH L0z0) 1 f_ctor) (r := some 1) l00_rc (by decide) ⟨w_st2, ww_X11_init⟩ rfl rfl hy_X11_init rfl ⟨(Nat.le_of_ble_eq_true rfl), (Nat.le_of_ble_eq_true rfl)⟩ hP hS hl.1 (Nat.le_of_ble_eq_true rfl) dL_law_4 rfl ⟨(Nat.le_of_ble_eq_true rfl), (Nat.le_of_ble_eq_true rfl)⟩) hS (fun H locs hP hS => ?_)
  refine W_drop (fun z hz => (hS.2.2 z hz).1) ?_
  have hS : va_S (cReg (lwO (t, s.heap.size))) s.heap H [] := ⟨hS.1, hS.2.1, fun z hz => by cases hz⟩
  have hl0 : (dH LZ).2 = 255 := LZ_len
  have hI : lwI D (t, s.heap.size) (σ, 0, fun _ => none) H := ⟨⟨dH LZ, ⟨T0, G0, N0, A0, E0, K0, 0, 0, (by have := (hJ 255 (Nat.le_refl _)).1; rw [← hl0] at this; exact this)⟩, hP⟩, fun a N f h => by cases h⟩
  have X : lwX p s m #[Value.ref b] meth c cL_law 8 (some .boolean) D (t, s.heap.size) := ⟨X0, st_N hgv⟩
  refine W.eq (g2 := F0 m 7 ls [cv (lwO (t, s.heap.size)) (some 1)]) rfl ?_
  refine c_astore_n (k := 1) (i := 1) (lv' := [(1, cv (lwO (t, s.heap.size)) (some 1)), (0, .ref b)]) hx hb dL_law_7 rfl hl (Nat.le_of_ble_eq_true rfl) (lvKx lvK0) rfl (fun ls hl => ?_)
  refine lv_bipush (v := 9) hx hb dL_law_8 (by decide) ?_
  refine l_new (N := 9) X hI hS w_st5.2 (by decide) rfl (Nat.le_of_ble_eq_true rfl) (Nat.le_of_ble_eq_true rfl) (Nat.le_of_ble_eq_true rfl) dL_law_10 (fun a H hna hba hI hS => ?_)
  refine lx_astore_n (k := 2) (i := 2) (lv' := [(2, .ref a), (1, cv (lwO (t, s.heap.size)) (some 1)), (0, .ref b)]) hx hb dL_law_12 rfl hl (Nat.le_of_ble_eq_true rfl) (lvKr (lvKx lvK0)) rfl (fun ls hl => ?_)
  obtain ⟨V, hV⟩ : ∃ V, stA (nwA (σ, 0, fun _ => none) a 9) a 0 1 = some V := ⟨_, st_nw _ _ _⟩
  refine lv_aload_n hx hb dL_law_13 rfl (lv_at hl 0 rfl) ?_
  refine lv_iconst (v := 0) hx hb dL_law_14 (by decide) ?_
  refine lv_iconst (v := 1) hx hb dL_law_15 (by decide) ?_
  refine l_ast X hI hS hV dL_law_16 (fun H locs hI hS => ?_)
  refine lv_iconst (v := 0) hx hb dL_law_17 (by decide) ?_
  refine c_istore_n (k := 3) (i := 3) (lv' := [(3, .int 0), (2, .ref a), (1, cv (lwO (t, s.heap.size)) (some 1)), (0, .ref b)]) hx hb dL_law_18 rfl hl (Nat.le_of_ble_eq_true rfl) (lvKx (lvKr (lvKx lvK0))) rfl (fun ls hl => ?_)
  have CX : lwC s b L xs (t, s.heap.size) := ⟨hXX, hbl, Nat.le_refl _, hL⟩
  · exact N_L_law_19 (n := 5) X hl9 CX (fun {v} {V} {H} {locs} {cells} {slots} {ls} hv hI hS h1 h2 => by
      subst hv
      refine W_drop (fun z hz => (hS.2.2 z hz).1) ?_
      refine W.widen h1 h2 ?_
      exact lw_ret hx hb hrt hlk dL_law_240) hI hS (Nat.le_of_ble_eq_true rfl) (Nat.le_of_ble_eq_true rfl) (lv_sub hl [3, 2, 1, 0] rfl) (hLT L xs σ a V hL hσ hV)
