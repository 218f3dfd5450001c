set_option maxRecDepth 100000 in
theorem gv_in : (∀ i, i < 3 → ∀ j, j < 3 → i ≠ j → Cond.not (.castable (excN i) (excN j)) ∈ flatC (Jvm.Cond.and given_1 narrow_1)) := by decide +kernel
set_option maxRecDepth 100000 in
theorem gv_st : Cond.isRef (.static Bundle.tN "UNASSIGNED_STACK" Bundle.steD) ∈ flatC (Jvm.Cond.and given_1 narrow_1) ∧ Cond.isRef (.static Bundle.tN "SUPPRESSED_SENTINEL" Bundle.listD) ∈ flatC (Jvm.Cond.and given_1 narrow_1) ∧ Cond.arrayOf (.static "Cascadery" "INITIALS" "[I") .int ∈ flatC (Jvm.Cond.and given_1 narrow_1) ∧ Cond.eq (.length (.static "Cascadery" "INITIALS" "[I")) (.int 12) ∈ flatC (Jvm.Cond.and given_1 narrow_1) := by decide +kernel
set_option maxRecDepth 100000 in
theorem gv_el : ∀ j, j < 12 → Cond.eq (.elem (.static "Cascadery" "INITIALS" "[I") (.int (Int32.ofNat j))) (.int (vI0 j)) ∈ flatC (Jvm.Cond.and given_1 narrow_1) := by decide +kernel
set_option maxRecDepth 100000 in
theorem tb_ls : Cond.laysStatic "Cascadery" "INITIALS" "[I" ∈ lw_tbl ∧ Cond.laysStatic Bundle.tN "UNASSIGNED_STACK" Bundle.steD ∈ lw_tbl ∧ Cond.laysStatic Bundle.tN "SUPPRESSED_SENTINEL" Bundle.listD ∈ lw_tbl := by decide +kernel
set_option maxRecDepth 100000 in
theorem tb_ii : Cond.initialized "Cascadery" ∈ lw_tbl ∧ Cond.initialized Bundle.tN ∈ lw_tbl := by decide +kernel
theorem st_g {args : Array Value} {s : State} (hgv : (Jvm.Cond.and given_1 narrow_1).before args s = true) : ∀ c ∈ flatC (Jvm.Cond.and given_1 narrow_1), c.before args s = true := flat_of_before _ hgv
theorem st_N {args : Array Value} {s : State} (hgv : (Jvm.Cond.and given_1 narrow_1).before args s = true) : lNc s := fun i hi j hj hne => va_Nc.of (st_g hgv _ (gv_in i hi j hj hne))
/-- the array INITIALS -/
theorem st_I {args : Array Value} {s : State} (hgv : (Jvm.Cond.and given_1 narrow_1).before args s = true) : ∃ (t : Nat) (cell : Cell), (Term.static "Cascadery" "INITIALS" "[I").eval args s none [] s = some (.ref t) ∧ s.heap[t]? = some cell ∧ s.isArrayOf cell .int ∧ cell.vm ≠ .unknown ∧ 12 ≤ cell.slots.size ∧ ∀ j, j < 12 → cell.slots[j]? = some (.int (vI0 j)) := by
  obtain ⟨t, h1, cell, g1, g2, g3, g4, g5, g6, -⟩ := va_Tof (N := 12) (f := fun j => .int (vI0 j)) (A := fun a => s.heap.size ≤ a) (by decide) (st_g hgv _ gv_st.2.2.1) (va_eqt (st_g hgv _ gv_st.2.2.2)) (fun j hj => va_eqt (st_g hgv _ (gv_el j hj))) (fun a h => by omega)
  exact ⟨t, cell, h1, g1, g2, g3, g4, g6⟩
/-- the statics, whatever the addresses -/
theorem st_Z {args : Array Value} {s : State} (hts : ∀ w ∈ lw_tbl, w.before args s = true) (hgv : (Jvm.Cond.and given_1 narrow_1).before args s = true) {t : Nat} (ht : (Term.static "Cascadery" "INITIALS" "[I").eval args s none [] s = some (.ref t)) {Φ : cG} (h1 : Φ.1 = t) (h2 : Φ.2.1 = s.heap.size) : cZ Φ s s.heap := by
  have hA : ∀ a : Nat, a < s.heap.size → ¬ cReg Φ a := fun a ha h => by have := h.1; omega
  refine ⟨va_Zref (hts _ tb_ls.1) (hts _ tb_ii.1) (by rw [h1]; exact ht) hA, vx_Zqof (hts _ tb_ls.2.1) (hts _ tb_ii.2) (st_g hgv _ gv_st.1) hA, vx_Zqof (hts _ tb_ls.2.2) (hts _ tb_ii.2) (st_g hgv _ gv_st.2.1) hA⟩
theorem st_cell {D : cD} {Φ : cG} {s : State} {t : Nat} {cell : Cell} {c : cE} (h1 : Φ.1 = t) (g1 : s.heap[t]? = some cell) (g2 : s.isArrayOf cell .int) (g3 : cell.vm ≠ .unknown) (g4 : 12 ≤ cell.slots.size) (hD : D.2.2 21 = cell.cls) (hc : c.1 = 20) (hn : c.2.1 = 12) (g5 : ∀ j, j < 12 → cell.slots[j]? = some (.int (c.2.2.1 j))) : cAt D Φ 0 c s.heap :=
  ⟨fun z => absurd (hc ▸ z : 20 < 12) (by decide), fun ty hty => ⟨fun z => absurd rfl z, fun _ => ⟨hc, cell, by show s.heap[Φ.1]? = _; rw [h1]; exact g1, hD.symm, g2.1, g3, by rw [hn]; exact g4, fun j hj => g5 j (hn ▸ hj)⟩⟩⟩
theorem st_arr {s : State} {cell : Cell} (g2 : s.isArrayOf cell .int) : ArrOfT s cell.cls .int := fun n z => ⟨fun k h => (by cases h), g2.2⟩
def l0I : lC := (20, 12, [(11, (-1)), (8, (-1)), (5, 1), (2, (-1000000)), (1, 16)], [])
theorem l0_v : ∀ j, j < 12 → (dC l0I).2.2.1 j = vI0 j := by decide +kernel
theorem st_P {D : cD} {s : State} {t : Nat} {cell : Cell} (g1 : s.heap[t]? = some cell) (g2 : s.isArrayOf cell .int) (g3 : cell.vm ≠ .unknown) (g4 : 12 ≤ cell.slots.size) (hD : D.2.2 21 = cell.cls) (g5 : ∀ j, j < 12 → cell.slots[j]? = some (.int (vI0 j))) : cP D (t, s.heap.size, s.heap.size, s.heap.size) (dH [l0I]) s.heap := by
  have ht : t < s.heap.size := (Array.getElem?_eq_some_iff.mp g1).1
  refine ⟨fun a c hc => ?_, Nat.le_refl _, rfl, ht, Nat.le_refl _⟩
  cases a with
  | succ a => cases hc
  | zero =>
    cases hc
    exact ⟨st_cell rfl g1 g2 g3 g4 hD rfl rfl (fun j hj => by rw [l0_v j hj]; exact g5 j hj), Or.inl rfl⟩
theorem l0_L00 : nw (dH [l0I]) 11 = dH L00 := d_nw _ _
/-- the same cells, with a hole for the reference behind them -/
theorem cP.hole {D : cD} {t n : Nat} {L : List lC} {H H1 : Heap} {k : Nat} (hP : cP D (t, n, n, n) (dH L) H) (hL : 1 ≤ L.length) (z : H1.size = n + (L.length - 1) + k) (o : ∀ q, q < H.size → H1[q]? = H[q]?) : cP D (t, n, n + (L.length - 1), n + (L.length - 1) + k) ((dH L).1, L.length + k) H1 := by
  obtain ⟨h1, h2, h3, h4, h5⟩ := hP
  have hp : ∀ a, ph (t, n, n + (L.length - 1), n + (L.length - 1) + k) a = ph (t, n, n, n) a := fun a => rfl
  have hz : H.size = n + (L.length - 1) := by
    have h3' : H.size = ph (t, n, n, n) L.length := h3
    rw [h3']
    unfold ph
    rw [if_neg (by omega)]
  refine ⟨fun a c hc => ⟨?_, ?_⟩, by show 1 ≤ L.length + k; omega, ?_, h4, by show n + (L.length - 1) + k ≤ H1.size; omega⟩
  · have g := (h1 a c hc).1.push o
    exact g
  · rcases (h1 a c hc).2 with g | g
    · exact Or.inl g
    · by_cases ha : a = 0
      · exact Or.inl ha
      · refine Or.inr ⟨g.1, fun q => ?_⟩
        have hc' : (L[a]?).map dC = some c := hc
        have hlt : a < L.length := by
          cases h : L[a]? with
          | none => rw [h] at hc'; cases hc'
          | some v => exact (List.getElem?_eq_some_iff.mp h).1
        have q1 : n + (L.length - 1) ≤ ph (t, n, n, n) a := q.1
        unfold ph at q1
        rw [if_neg ha] at q1
        have q2 : n + (L.length - 1) ≤ n + (a - 1) := q1
        omega
  · show H1.size = ph (t, n, n, n) (L.length + k)
    unfold ph
    rw [if_neg (by omega)]
    show H1.size = n + (L.length + k - 1)
    omega
set_option maxRecDepth 100000 in
theorem w_st1 : Cond.classLink "CascaderyLaw" 8 "Cascadery" ∈ BG := List.mem_filter.mpr ⟨by decide +kernel, by decide +kernel⟩
set_option maxRecDepth 100000 in
theorem w_st2 : Cond.methodLink "CascaderyLaw" 134 yX11_init ∈ BG := List.mem_filter.mpr ⟨by decide +kernel, by decide +kernel⟩
set_option maxRecDepth 100000 in
theorem w_st3 : Cond.classLink "CascaderyLaw" 135 RX12 ∈ BG := List.mem_filter.mpr ⟨by decide +kernel, by decide +kernel⟩
set_option maxRecDepth 100000 in
theorem w_st4 : Cond.methodLink "CascaderyLaw" 137 yX12_init ∈ BG := List.mem_filter.mpr ⟨by decide +kernel, by decide +kernel⟩
set_option maxRecDepth 100000 in
theorem w_st5 : Cond.instantiable "Cascadery" 16 ∈ BG ∧ Cond.instantiable RX12 86 ∈ BG ∧ Cond.arrayClass .long ∈ BG := ⟨List.mem_filter.mpr ⟨by decide +kernel, by decide +kernel⟩, List.mem_filter.mpr ⟨by decide +kernel, by decide +kernel⟩, List.mem_filter.mpr ⟨by decide +kernel, by decide +kernel⟩⟩
set_option maxRecDepth 100000 in
theorem w_st6 : ∀ w ∈ u_ws RX12 TX12 86, goodWord w = true := by decide +kernel
theorem W_drop {p : Program} {l : Launch} {e : Env} {R : Room} {s : State} {m : MethodId} {args : Array Value} {below : List Frame} {meth : Method} {c : Code} {H : Heap} {J : List Loc} {cells slots : Nat} {Q : State → Prop} {g : JFrame} (hJ : ∀ z ∈ J, s.heap.size ≤ z.base) (k : W p l e R s m args below meth c H [] cells slots Q g) : W p l e R s m args below meth c H J cells slots Q g := fun T hT X => k T hT (X.dropFresh (locs := []) (J := J) hJ)
def tyM (k : Nat) : FieldType := if mLen k = 0 then .int else .array .int
theorem tyM_ok : ∀ k, k < 86 → parseFieldDescriptor (TX12 k).2.2.1 = some (tyM k) := by decide +kernel
theorem st_fl {l : Launch} (h : l.flags = flags0) : l.stackTraces = false := by
  show (!l.flags.contains noTraceFlag) = false
  rw [h]
  decide +kernel
theorem st_blind {D : mD} {mb : Nat} : FrameBlind (va_Pc [.ref mb] (fun U => mB D mb 0 U.heap ∧ mKi D U)) := fun a U g mk q => ⟨q.1, q.2.1, mK.moved (u := U) (U := U.calling g mk a) (Vm.Alike.refl U.vm) q.2.2.1, q.2.2.2⟩
theorem st_mi {p : Program} {l : Launch} {e : Env} {s : State} {m : MethodId} {args : Array Value} {below : List Frame} {meth : Method} {c : Code} {H : Heap} {locs : List Loc} {cells slots : Nat} {Q : State → Prop} {D : mD} {mb : Nat} {q : mS} {ls : Array Slot} (hx : p.tables.exec = Jvm.exec) (hb : c.code = cL_law) (hml : c.maxLocals = 7) (hown : s.vm.findClass "CascaderyLaw" = some m.cls) (hBG : ∀ w ∈ BG, w.before args s = true) (hM : mKi D s) (hq : f_X12_init = some q) (hB : mB D mb 0 H) (hz : s.heap.size ≤ mb) (hls : ls.size = 7) (hf : cells + 69 ≤ 601024 ∧ slots + 14325 ≤ 7293034)
    (kk : ∀ H1 : Heap, mP D mb q H1 → H1.size = mb + 70 → (∀ x, x < mb → H1[x]? = H[x]?) → W p l e lR s m args below meth c H1 locs (cells + 69) (slots + 14325) Q (F0 m 15 ls [.ref mb])) : W p l e lR s m args below meth c H locs cells slots Q (F0 m 12 ls [.ref mb, .ref mb]) := by
  have hr := va_runI (e := e) (H := H) (locs := locs) (cells := cells) (slots := slots) (below := below) (meth := meth) (R := lR) (b := mb) (As := []) (rest := [.ref mb]) (n := 0) (g := F0 m 12 ls [.ref mb, .ref mb]) ⟨hx, hb, hml, hown, hBG⟩ (K_X12_init l D mb hq) (cwI 0 hBG (bg_self ww_X12_init.2.2) rfl rfl rfl (hBG _ ww_X12_init.2.1) (hBG _ w_st4) (hBG _ ww_X12_init.1) rfl hy_X12_init ⟨by decide, by decide⟩) ⟨st_blind, fun U hU hW => ⟨rfl, by rw [hU]; exact hB, mK.moved hW.alike hM.1, by rw [hW.alike.findClass]; exact hM.2⟩⟩ rfl rfl hls rfl (lv_room (show (1 : Nat) + 0 ≤ 8 by decide)) dL_law_12 hf
  intro T hT XX
  obtain ⟨v', st₀, t, T', L9, h0, X', hL, e1, e2, ⟨hv, hp, hF, hsz⟩, st⟩ := hr T hT XX
  cases hv
  have X2 := X'.dropFresh (locs := locs) (J := L9) (fun z hz9 => Nat.le_trans hz (hL z hz9).1)
  obtain ⟨-, hk⟩ := hF
  have hB2 := hB.2.2
  rw [h0] at hk
  obtain ⟨t2, a1, b1⟩ := kk T'.heap (by rw [e1]; exact hp) (by rw [e1]; exact hsz) (fun x hx9 => by rw [e1]; exact hk x (by omega) (fun h => by have := h.1; omega)) T' rfl X2
  exact ⟨t2, st t2 a1, b1⟩
theorem LZ_len : LZ.length = 255 := by decide +kernel
theorem l00_rc : rc (dH L00) (some 1) 11 = some 1 := by rw [d_rc]; decide +kernel
set_option maxHeartbeats 4000000 in
theorem whole_start {p : Program} {e : Env} {s : State} {m : MethodId} {below : List Frame} {meth : Method} {c : Code} {b L : Nat} {xs : Nat → Int32} (l : Launch) (hflags : l.flags = flags0) (hL : L ≤ 3584) (h : lw_At p s m meth c b L xs) : W p l e room_1 s m #[Value.ref b] below meth c s.heap [] 0 0 (lw_Z below #[Value.ref b] s) (entryFrame m ([Value.ref b] : List Value).toArray 7) := by
  obtain ⟨hx, hb, hrt, hml, hown, hts, hXX, hbl, hlk, hgv⟩ := h
  have hl9 : l.stackTraces = false := st_fl hflags
  obtain ⟨t, cell, ht, g1, g2, g3, g4, g5⟩ := st_I hgv
  obtain ⟨D, hK, hD⟩ := st_K hts (st_arr g2)
  obtain ⟨Dm, hM⟩ := st_M hts
  obtain ⟨cL, hcL, -⟩ := st_int (hts _ tb_ai.2.1)
  obtain ⟨σ, hσ, hJ⟩ := J_start2
  have hP0 := st_P g1 g2 g3 g4 hD g5
  have hBG : ∀ w ∈ BG, w.before #[Value.ref b] s = true := fun w hw => hts w (List.mem_filter.mp hw).1
  have X : cX p s m #[Value.ref b] meth c cL_law 7 (some .boolean) "CascaderyLaw" D (t, s.heap.size, s.heap.size, s.heap.size) := ⟨hx, hb, hml, hown, hBG, hK, st_Z hts hgv ht rfl rfl, hrt, hlk⟩
  have hl := lv_entry [Value.ref b] (n := 7) (Nat.le_of_ble_eq_true rfl)
  rw [lg_entry_eq]
  generalize (lg_sl [Value.ref b] ++ List.replicate (7 - (lg_sl [Value.ref b]).length) Slot.unset).toArray = ls at hl ⊢
  have hl : lv_has ls 7 [(0, .ref b)] := hl
  have hS : va_S (cReg (t, s.heap.size, s.heap.size, s.heap.size)) s.heap s.heap [] := va_S.rf
  show W p l e lR s m #[Value.ref b] below meth c s.heap [] 0 0 (lw_Z below #[Value.ref b] s) (F0 m 0 ls [])
  refine c_new X hP0 hS (ci := 11) (Nat.le_of_ble_eq_true rfl) ⟨w_st1, w_st5.1, w_144⟩ (Nat.le_of_ble_eq_true rfl) (Nat.le_of_ble_eq_true rfl) dL_law_0 (fun H hP hS => ?_)
  refine c_dupq hx hb dL_law_3 ?_
  rw [l0_L00] at hP
  refine c_cw (c_runI X (K_X11_init l D (t, s.heap.size, s.heap.size, s.heap.size) (dH L00) 1 f_ctor) (r := some 1) l00_rc (Nat.le_of_ble_eq_true rfl) ⟨w_st2, ww_X11_init⟩ rfl rfl hy_X11_init rfl ⟨(Nat.le_of_ble_eq_true rfl), (Nat.le_of_ble_eq_true rfl)⟩ hP hS hl.1 (Nat.le_of_ble_eq_true rfl) dL_law_4 rfl ⟨(Nat.le_of_ble_eq_true rfl), (Nat.le_of_ble_eq_true rfl)⟩) hS (fun H locs hP hS => ?_)
  refine W_drop (fun z hz => (hS.2.2 z hz).1) ?_
  have hsz : H.size = s.heap.size + 254 := by
    have h3 : H.size = ph (t, s.heap.size, s.heap.size, s.heap.size) LZ.length := hP.2.2.1
    rw [LZ_len] at h3
    exact h3
  have hk1 : ∀ q, q < s.heap.size → H[q]? = s.heap[q]? := fun q hq => hS.2.1 q hq (fun h => by have : s.heap.size ≤ q := h.1; omega)
  refine W.eq (g2 := F0 m 7 ls [cv (t, s.heap.size, s.heap.size, s.heap.size) (some 1)]) rfl ?_
  refine c_astore_n (k := 1) (i := 1) (lv' := [(1, cv (t, s.heap.size, s.heap.size, s.heap.size) (some 1)), (0, .ref b)]) hx hb dL_law_7 rfl hl (Nat.le_of_ble_eq_true rfl) (lvKo lvK0) rfl (fun ls hl => ?_)
  refine W.newcK hx hb hown (hBG _ w_st3) (hBG _ w_st5.2.1) (hBG _ w_154) rfl dL_law_8 (show 254 + 1 ≤ 601024 by decide) (show 0 + 16 + 3074 + 86 ≤ 7293034 by decide) hM.1.1.2.1 rfl fun H1 kC hkC e1 z1 o1 => ?_
  refine lv_dup hx hb dL_law_11 rfl ?_
  have hB : mB Dm H.size 0 H1 := by
    refine ⟨?_, fun f _ hf => absurd hf (Nat.not_lt_zero _), z1⟩
    refine (u_born tyM hts tb_m.1 hM.1.1 hkC e1 tyM_ok).to (fun k hk => ?_)
    unfold tyM
    by_cases h0 : mLen k = 0
    · rw [if_pos h0, if_pos h0]; rfl
    · rw [if_neg h0, if_neg h0, if_neg (Nat.not_lt_zero _)]; rfl
  refine st_mi hx hb hml hown hBG hM hσ hB (by omega) hl.1 ⟨by decide, by decide⟩ (fun H2 hP2 z2 o2 => ?_)
  refine lv_astore_n (k := 2) hx hb dL_law_15 rfl hl (by decide) rfl (fun ls hl => ?_)
  refine lv_iconst (v := 1) hx hb dL_law_16 (by decide) ?_
  refine va_newaK (atype := .long) (N := 1) hx hb (hBG _ w_st5.2.2) rfl dL_law_17 rfl (by decide) rfl (by decide) (by decide) (by decide) z2 fun H3 cA e3 z3 o3 hAr hNm => ?_
  refine W.eq (g2 := F0 m 19 ls [.ref (H.size + 70)]) rfl ?_
  refine lv_astore_n (k := 3) hx hb dL_law_19 rfl hl (by decide) rfl (fun ls hl => ?_)
  refine lv_iconst (v := 0) hx hb dL_law_20 (by decide) ?_
  refine lv_istore hx hb dL_law_21 hl (by decide) rfl (fun ls hl => ?_)
  have o4 : ∀ q, q < H.size → H3[q]? = H[q]? := fun q hq => (o3 q (by omega)).trans ((o2 q hq).trans (o1 q hq))
  have hC : cP D (t, s.heap.size, s.heap.size + 254, s.heap.size + 254 + 71) ((dH LZ).1, 326) H3 := by
    have h9 := cP.hole (L := LZ) (H1 := H3) (k := 71) hP (by rw [LZ_len]; decide) (by rw [LZ_len]; omega) o4
    rw [LZ_len] at h9
    exact h9
  have XX : lX p s m #[Value.ref b] meth c D (t, s.heap.size, s.heap.size + 254, s.heap.size + 254 + 71) Dm H.size (H.size + 70) cA b L xs := ⟨⟨hx, hb, hml, hown, hBG, hK, st_Z hts hgv ht rfl rfl, hrt, hlk⟩, hM.1, hAr, st_N hgv, hXX, hbl, rfl, Nat.le_add_right _ _, hsz.symm, rfl, by rw [hsz]⟩
  have Wd : lWd D (t, s.heap.size, s.heap.size + 254, s.heap.size + 254 + 71) Dm H.size (H.size + 70) cA s.heap ((dH LZ).1, 326) σ 0 H3 := ⟨hC, hP2.kept (fun q h1 h2 h3 => o3 q (by omega)), ⟨fun _ => 0, rfl, e3⟩, by omega, fun q hq => (o4 q (by omega)).trans (hk1 q hq)⟩
  exact L_loop hl9 XX (J := J) lS9 (fun k S σ hk h => h.up) (fun k S σ h => h.rc) hL 512 0 ((dH LZ).1, 326) σ 0 H3 ls _ _ rfl (Nat.zero_le _) (hJ 326 (by decide)) Wd (lv_sub hl [4, 3, 2, 1, 0] rfl) (by decide) (by decide)
