/-! THE LAW'S LOOP -/
def lSims (Sim Sim1 : cS → mS → Prop) : Prop := sim_make Sim Sim1 ∧ sim_shadow Sim Sim1 ∧ sim_put Sim Sim1 ∧ sim_putTop Sim Sim1 ∧ sim_take Sim Sim1 ∧ sim_setClass Sim Sim1 ∧ sim_setState Sim Sim1 ∧ sim_setAttribute Sim Sim1 ∧ sim_setPart Sim Sim1 ∧ sim_shownParent Sim Sim1 ∧ sim_isIn Sim Sim1 ∧ sim_test Sim Sim1 ∧ sim_join Sim Sim1 ∧ sim_select Sim Sim1 ∧ sim_weight Sim Sim1 ∧ sim_matches Sim Sim1 ∧ sim_allThat Sim Sim1 ∧ sim_sheet Sim Sim1 ∧ sim_turn Sim Sim1 ∧ sim_rule Sim Sim1 ∧ sim_when Sim Sim1 ∧ sim_declare Sim Sim1 ∧ sim_declareVar Sim Sim1 ∧ sim_undeclare Sim Sim1 ∧ sim_setWidth Sim Sim1 ∧ sim_value Sim Sim1 ∧ sim_size Sim Sim1 ∧ sim_seen Sim Sim1 ∧ sim_made Sim Sim1 ∧ sim_why Sim Sim1 ∧ sim_valueAnew Sim Sim1 ∧ sim_marked Sim Sim1 ∧ sim_flushes Sim Sim1 ∧ sim_restyled Sim Sim1 ∧ sim_shared Sim Sim1 ∧ sim_tick Sim Sim1 ∧ sim_animation Sim Sim1 ∧ sim_frame Sim Sim1 ∧ sim_listen Sim Sim1
set_option maxRecDepth 20000 in
set_option maxHeartbeats 4000000 in
theorem L_iter {p : Program} {l : Launch} {e : Env} {s : State} {m : MethodId} {args : Array Value} {below : List Frame} {meth : Method} {c : Code} {H : Heap} {cells slots : Nat} {Q : State → Prop} {ls : Array Slot} {D : cD} {Φ : cG} {Dm : mD} {mb o : Nat} {cL : ClassId} {b L : Nat} {xs : Nat → Int32} {S : cS} {σ : mS} {w : Int64} {i : Int32} (hl9 : l.stackTraces = false) (X : lX p s m args meth c D Φ Dm mb o cL b L xs) {Sim Sim1 : cS → mS → Prop} (hsim : lSims Sim Sim1) (hup : ∀ S σ, Sim S σ → Sim1 S σ) (hrc : rc S (some 1) 11 = some 1) (hin : lIn i L) (Wd : lWd D Φ Dm mb o cL s.heap S σ w H) (hS : Sim S σ) (hl : lv_has ls 7 (lLv Φ b mb o i)) (hf : cells + 13 ≤ 601024 ∧ slots + 151 ≤ 7293034) (kk : ∀ (S1 : cS) (σ1 : mS) (w1 : Int64) (H1 : Heap) (ls1 : Array Slot), Sim1 S1 σ1 → lWd D Φ Dm mb o cL s.heap S1 σ1 w1 H1 → lv_has ls1 7 (lLv Φ b mb o i) → W p l e lR s m args below meth c H1 [] (cells + 13) (slots + 151) Q (F0 m 2797 ls1 [])) : W p l e lR s m args below meth c H [] cells slots Q (F0 m 33 ls []) := by
  have hx := X.1.1
  have hb := X.1.2.1
  refine lv_aload_n hx hb dL_law_33 rfl (lv_at hl 0 rfl) ?_
  refine lv_iload hx hb dL_law_34 (lv_at hl 4 rfl) ?_
  refine l_sld X Wd hin.1 dL_law_36 ?_
  refine lv_bipush (v := 63) hx hb dL_law_37 (by decide) ?_
  refine lv_iand hx hb dL_law_39 ?_
  obtain ⟨j, hj, he⟩ := pk_andE (xs i.toNatClampNeg) (m := 63) 6 (by decide)
  rw [he]
  have hji : (nI j).toInt = j := nI_toInt (by omega)
  by_cases h38 : 38 < j
  · refine lv_tableOut (tgt := 2797) hx hb dL_law_40 (Or.inr (by rw [hji]; omega)) (by omega) ?_
    refine W.widen (k := cells + 13) (n := slots + 151) (by omega) (by omega) ?_
    exact kk S σ w H ls (hup _ _ hS) Wd hl
  · clear he hji
    have hc : j = 0 ∨ j = 1 ∨ j = 2 ∨ j = 3 ∨ j = 4 ∨ j = 5 ∨ j = 6 ∨ j = 7 ∨ j = 8 ∨ j = 9 ∨ j = 10 ∨ j = 11 ∨ j = 12 ∨ j = 13 ∨ j = 14 ∨ j = 15 ∨ j = 16 ∨ j = 17 ∨ j = 18 ∨ j = 19 ∨ j = 20 ∨ j = 21 ∨ j = 22 ∨ j = 23 ∨ j = 24 ∨ j = 25 ∨ j = 26 ∨ j = 27 ∨ j = 28 ∨ j = 29 ∨ j = 30 ∨ j = 31 ∨ j = 32 ∨ j = 33 ∨ j = 34 ∨ j = 35 ∨ j = 36 ∨ j = 37 ∨ j = 38 := by omega
    rcases hc with rfl | rfl | rfl | rfl | rfl | rfl | rfl | rfl | rfl | rfl | rfl | rfl | rfl | rfl | rfl | rfl | rfl | rfl | rfl | rfl | rfl | rfl | rfl | rfl | rfl | rfl | rfl | rfl | rfl | rfl | rfl | rfl | rfl | rfl | rfl | rfl | rfl | rfl | rfl
    · refine lv_tableIn (off := 172) (tgt := 212) hx hb dL_law_40 (by decide) (by decide) rfl (by omega) ?_
      exact L_case_0 hl9 X hsim.1 hrc hin Wd hS hl hf kk
    · refine lv_tableIn (off := 228) (tgt := 268) hx hb dL_law_40 (by decide) (by decide) rfl (by omega) ?_
      exact L_case_1 hl9 X hsim.2.1 hrc hin Wd hS hl hf kk
    · refine lv_tableIn (off := 264) (tgt := 304) hx hb dL_law_40 (by decide) (by decide) rfl (by omega) ?_
      exact L_case_2 hl9 X hsim.2.2.1 hrc hin Wd hS hl hf kk
    · refine lv_tableIn (off := 324) (tgt := 364) hx hb dL_law_40 (by decide) (by decide) rfl (by omega) ?_
      exact L_case_3 hl9 X hsim.2.2.2.1 hrc hin Wd hS hl hf kk
    · refine lv_tableIn (off := 384) (tgt := 424) hx hb dL_law_40 (by decide) (by decide) rfl (by omega) ?_
      exact L_case_4 hl9 X hsim.2.2.2.2.1 hrc hin Wd hS hl hf kk
    · refine lv_tableIn (off := 440) (tgt := 480) hx hb dL_law_40 (by decide) (by decide) rfl (by omega) ?_
      exact L_case_5 hl9 X hsim.2.2.2.2.2.1 hrc hin Wd hS hl hf kk
    · refine lv_tableIn (off := 543) (tgt := 583) hx hb dL_law_40 (by decide) (by decide) rfl (by omega) ?_
      exact L_case_6 hl9 X hsim.2.2.2.2.2.2.1 hrc hin Wd hS hl hf kk
    · refine lv_tableIn (off := 646) (tgt := 686) hx hb dL_law_40 (by decide) (by decide) rfl (by omega) ?_
      exact L_case_7 hl9 X hsim.2.2.2.2.2.2.2.1 hrc hin Wd hS hl hf kk
    · refine lv_tableIn (off := 726) (tgt := 766) hx hb dL_law_40 (by decide) (by decide) rfl (by omega) ?_
      exact L_case_8 hl9 X hsim.2.2.2.2.2.2.2.2.1 hrc hin Wd hS hl hf kk
    · refine lv_tableIn (off := 794) (tgt := 834) hx hb dL_law_40 (by decide) (by decide) rfl (by omega) ?_
      exact L_case_9 hl9 X hsim.2.2.2.2.2.2.2.2.2.1 hrc hin Wd hS hl hf kk
    · refine lv_tableIn (off := 850) (tgt := 890) hx hb dL_law_40 (by decide) (by decide) rfl (by omega) ?_
      exact L_case_10 hl9 X hsim.2.2.2.2.2.2.2.2.2.2.1 hrc hin Wd hS hl hf kk
    · refine lv_tableIn (off := 913) (tgt := 953) hx hb dL_law_40 (by decide) (by decide) rfl (by omega) ?_
      exact L_case_11 hl9 X hsim.2.2.2.2.2.2.2.2.2.2.2.1 hrc hin Wd hS hl hf kk
    · refine lv_tableIn (off := 993) (tgt := 1033) hx hb dL_law_40 (by decide) (by decide) rfl (by omega) ?_
      exact L_case_12 hl9 X hsim.2.2.2.2.2.2.2.2.2.2.2.2.1 hrc hin Wd hS hl hf kk
    · refine lv_tableIn (off := 1049) (tgt := 1089) hx hb dL_law_40 (by decide) (by decide) rfl (by omega) ?_
      exact L_case_13 hl9 X hsim.2.2.2.2.2.2.2.2.2.2.2.2.2.1 hrc hin Wd hS hl hf kk
    · refine lv_tableIn (off := 1093) (tgt := 1133) hx hb dL_law_40 (by decide) (by decide) rfl (by omega) ?_
      exact L_case_14 hl9 X hsim.2.2.2.2.2.2.2.2.2.2.2.2.2.2.1 hrc hin Wd hS hl hf kk
    · refine lv_tableIn (off := 1149) (tgt := 1189) hx hb dL_law_40 (by decide) (by decide) rfl (by omega) ?_
      exact L_case_15 hl9 X hsim.2.2.2.2.2.2.2.2.2.2.2.2.2.2.2.1 hrc hin Wd hS hl hf kk
    · refine lv_tableIn (off := 1236) (tgt := 1276) hx hb dL_law_40 (by decide) (by decide) rfl (by omega) ?_
      exact L_case_16 hl9 X hsim.2.2.2.2.2.2.2.2.2.2.2.2.2.2.2.2.1 hrc hin Wd hS hl hf kk
    · refine lv_tableIn (off := 1304) (tgt := 1344) hx hb dL_law_40 (by decide) (by decide) rfl (by omega) ?_
      exact L_case_17 hl9 X hsim.2.2.2.2.2.2.2.2.2.2.2.2.2.2.2.2.2.1 hrc hin Wd hS hl hf kk
    · refine lv_tableIn (off := 1384) (tgt := 1424) hx hb dL_law_40 (by decide) (by decide) rfl (by omega) ?_
      exact L_case_18 hl9 X hsim.2.2.2.2.2.2.2.2.2.2.2.2.2.2.2.2.2.2.1 hrc hin Wd hS hl hf kk
    · refine lv_tableIn (off := 1475) (tgt := 1515) hx hb dL_law_40 (by decide) (by decide) rfl (by omega) ?_
      exact L_case_19 hl9 X hsim.2.2.2.2.2.2.2.2.2.2.2.2.2.2.2.2.2.2.2.1 hrc hin Wd hS hl hf kk
    · refine lv_tableIn (off := 1543) (tgt := 1583) hx hb dL_law_40 (by decide) (by decide) rfl (by omega) ?_
      exact L_case_20 hl9 X hsim.2.2.2.2.2.2.2.2.2.2.2.2.2.2.2.2.2.2.2.2.1 hrc hin Wd hS hl hf kk
    · refine lv_tableIn (off := 1603) (tgt := 1643) hx hb dL_law_40 (by decide) (by decide) rfl (by omega) ?_
      exact L_case_21 hl9 X hsim.2.2.2.2.2.2.2.2.2.2.2.2.2.2.2.2.2.2.2.2.2.1 hrc hin Wd hS hl hf kk
    · refine lv_tableIn (off := 1723) (tgt := 1763) hx hb dL_law_40 (by decide) (by decide) rfl (by omega) ?_
      exact L_case_22 hl9 X hsim.2.2.2.2.2.2.2.2.2.2.2.2.2.2.2.2.2.2.2.2.2.2.1 hrc hin Wd hS hl hf kk
    · refine lv_tableIn (off := 1857) (tgt := 1897) hx hb dL_law_40 (by decide) (by decide) rfl (by omega) ?_
      exact L_case_23 hl9 X hsim.2.2.2.2.2.2.2.2.2.2.2.2.2.2.2.2.2.2.2.2.2.2.2.1 hrc hin Wd hS hl hf kk
    · refine lv_tableIn (off := 1925) (tgt := 1965) hx hb dL_law_40 (by decide) (by decide) rfl (by omega) ?_
      exact L_case_24 hl9 X hsim.2.2.2.2.2.2.2.2.2.2.2.2.2.2.2.2.2.2.2.2.2.2.2.2.1 hrc hin Wd hS hl hf kk
    · refine lv_tableIn (off := 1981) (tgt := 2021) hx hb dL_law_40 (by decide) (by decide) rfl (by omega) ?_
      exact L_case_25 hl9 X hsim.2.2.2.2.2.2.2.2.2.2.2.2.2.2.2.2.2.2.2.2.2.2.2.2.2.1 hrc hin Wd hS hl hf kk
    · refine lv_tableIn (off := 2049) (tgt := 2089) hx hb dL_law_40 (by decide) (by decide) rfl (by omega) ?_
      exact L_case_26 hl9 X hsim.2.2.2.2.2.2.2.2.2.2.2.2.2.2.2.2.2.2.2.2.2.2.2.2.2.2.1 hrc hin Wd hS hl hf kk
    · refine lv_tableIn (off := 2105) (tgt := 2145) hx hb dL_law_40 (by decide) (by decide) rfl (by omega) ?_
      exact L_case_27 hl9 X hsim.2.2.2.2.2.2.2.2.2.2.2.2.2.2.2.2.2.2.2.2.2.2.2.2.2.2.2.1 hrc hin Wd hS hl hf kk
    · refine lv_tableIn (off := 2173) (tgt := 2213) hx hb dL_law_40 (by decide) (by decide) rfl (by omega) ?_
      exact L_case_28 hl9 X hsim.2.2.2.2.2.2.2.2.2.2.2.2.2.2.2.2.2.2.2.2.2.2.2.2.2.2.2.2.1 hrc hin Wd hS hl hf kk
    · refine lv_tableIn (off := 2229) (tgt := 2269) hx hb dL_law_40 (by decide) (by decide) rfl (by omega) ?_
      exact L_case_29 hl9 X hsim.2.2.2.2.2.2.2.2.2.2.2.2.2.2.2.2.2.2.2.2.2.2.2.2.2.2.2.2.2.1 hrc hin Wd hS hl hf kk
    · refine lv_tableIn (off := 2309) (tgt := 2349) hx hb dL_law_40 (by decide) (by decide) rfl (by omega) ?_
      exact L_case_30 hl9 X hsim.2.2.2.2.2.2.2.2.2.2.2.2.2.2.2.2.2.2.2.2.2.2.2.2.2.2.2.2.2.2.1 hrc hin Wd hS hl hf kk
    · refine lv_tableIn (off := 2377) (tgt := 2417) hx hb dL_law_40 (by decide) (by decide) rfl (by omega) ?_
      exact L_case_31 hl9 X hsim.2.2.2.2.2.2.2.2.2.2.2.2.2.2.2.2.2.2.2.2.2.2.2.2.2.2.2.2.2.2.2.1 hrc hin Wd hS hl hf kk
    · refine lv_tableIn (off := 2390) (tgt := 2430) hx hb dL_law_40 (by decide) (by decide) rfl (by omega) ?_
      exact L_case_32 hl9 X hsim.2.2.2.2.2.2.2.2.2.2.2.2.2.2.2.2.2.2.2.2.2.2.2.2.2.2.2.2.2.2.2.2.1 hrc hin Wd hS hl hf kk
    · refine lv_tableIn (off := 2403) (tgt := 2443) hx hb dL_law_40 (by decide) (by decide) rfl (by omega) ?_
      exact L_case_33 hl9 X hsim.2.2.2.2.2.2.2.2.2.2.2.2.2.2.2.2.2.2.2.2.2.2.2.2.2.2.2.2.2.2.2.2.2.1 hrc hin Wd hS hl hf kk
    · refine lv_tableIn (off := 2416) (tgt := 2456) hx hb dL_law_40 (by decide) (by decide) rfl (by omega) ?_
      exact L_case_34 hl9 X hsim.2.2.2.2.2.2.2.2.2.2.2.2.2.2.2.2.2.2.2.2.2.2.2.2.2.2.2.2.2.2.2.2.2.2.1 hrc hin Wd hS hl hf kk
    · refine lv_tableIn (off := 2429) (tgt := 2469) hx hb dL_law_40 (by decide) (by decide) rfl (by omega) ?_
      exact L_case_35 hl9 X hsim.2.2.2.2.2.2.2.2.2.2.2.2.2.2.2.2.2.2.2.2.2.2.2.2.2.2.2.2.2.2.2.2.2.2.2.1 hrc hin Wd hS hl hf kk
    · refine lv_tableIn (off := 2485) (tgt := 2525) hx hb dL_law_40 (by decide) (by decide) rfl (by omega) ?_
      exact L_case_36 hl9 X hsim.2.2.2.2.2.2.2.2.2.2.2.2.2.2.2.2.2.2.2.2.2.2.2.2.2.2.2.2.2.2.2.2.2.2.2.2.1 hrc hin Wd hS hl hf kk
    · refine lv_tableIn (off := 2573) (tgt := 2613) hx hb dL_law_40 (by decide) (by decide) rfl (by omega) ?_
      exact L_case_37 hl9 X hsim.2.2.2.2.2.2.2.2.2.2.2.2.2.2.2.2.2.2.2.2.2.2.2.2.2.2.2.2.2.2.2.2.2.2.2.2.2.1 hrc hin Wd hS hl hf kk
    · refine lv_tableIn (off := 2665) (tgt := 2705) hx hb dL_law_40 (by decide) (by decide) rfl (by omega) ?_
      exact L_case_38 hl9 X hsim.2.2.2.2.2.2.2.2.2.2.2.2.2.2.2.2.2.2.2.2.2.2.2.2.2.2.2.2.2.2.2.2.2.2.2.2.2.2 hrc hin Wd hS hl hf kk
theorem l_in7 {k L : Nat} (h : 7 * k + 7 ≤ L) (hL : L ≤ 3584) : lIn (nI (7 * k)) L := by
  have z : ∀ t, t < 7 → vp_in (nI (7 * k + t)) L := fun t ht => vp_in_nI (by omega) (by omega)
  refine ⟨z 0 (by decide), ?_, ?_, ?_, ?_, ?_, ?_⟩
  · exact (nI_add (7 * k) 1) ▸ z 1 (by decide)
  · exact (nI_add (7 * k) 2) ▸ z 2 (by decide)
  · exact (nI_add (7 * k) 3) ▸ z 3 (by decide)
  · exact (nI_add (7 * k) 4) ▸ z 4 (by decide)
  · exact (nI_add (7 * k) 5) ▸ z 5 (by decide)
  · exact (nI_add (7 * k) 6) ▸ z 6 (by decide)
theorem l_cmp {k L : Nat} (hk : 7 * k ≤ L) (hL : L ≤ 3584) : (nI L - 7 < nI (7 * k)) = (L < 7 * k + 7) := by
  rw [Int32.lt_iff_toInt_lt, show (7 : Int32) = nI 7 from rfl, pk_sub_toInt (by omega) (by omega), nI_toInt (by omega)]
  exact propext ⟨fun h => by omega, fun h => by omega⟩
theorem lvKo {i j o : Nat} {lv : List (Nat × Value)} (k : lvK i lv) : lvK i ((j, .ref o) :: lv) := fun q hq => (List.mem_cons.mp hq).elim (fun e => Or.inr (by rw [e]; rfl)) (k q)
set_option maxHeartbeats 4000000 in
theorem L_loop {p : Program} {l : Launch} {e : Env} {s : State} {m : MethodId} {below : List Frame} {meth : Method} {c : Code} {D : cD} {Φ : cG} {Dm : mD} {mb o : Nat} {cL : ClassId} {b L : Nat} {xs : Nat → Int32} (hl9 : l.stackTraces = false) (X : lX p s m #[Value.ref b] meth c D Φ Dm mb o cL b L xs) {J : Nat → cS → mS → Prop} (hsim : ∀ k, k < 512 → lSims (J k) (J (k + 1))) (hup : ∀ k S σ, k < 512 → J k S σ → J (k + 1) S σ) (hrc : ∀ k S σ, J k S σ → rc S (some 1) 11 = some 1) (hL : L ≤ 3584) : ∀ (d k : Nat) (S : cS) (σ : mS) (w : Int64) (H : Heap) (ls : Array Slot) (cells slots : Nat), k + d = 512 → 7 * k ≤ L → J k S σ → lWd D Φ Dm mb o cL s.heap S σ w H → lv_has ls 7 (lLv Φ b mb o (nI (7 * k))) → cells + 13 * d ≤ 601024 → slots + 151 * d ≤ 7293034 → W p l e lR s m #[Value.ref b] below meth c H [] cells slots (lw_Z below #[Value.ref b] s) (F0 m 23 ls []) := by
  have hx := X.1.1
  have hb := X.1.2.1
  intro d
  induction d with
  | zero =>
    intro k S σ w H ls cells slots hk hkL hJ Wd hl hc1 hc2
    have hl2 : lv_has ls 7 [(0, .ref b), (1, cv Φ (some 1)), (2, .ref mb), (3, .ref o), (4, .int (nI (7 * k)))] := hl
    refine lv_iload hx hb dL_law_23 (lv_at hl2 4 rfl) ?_
    refine lv_aload_n hx hb dL_law_25 rfl (lv_at hl2 0 rfl) ?_
    refine va_slen (A := cReg Φ) hx hb X.2.2.2.2.1 X.2.2.2.2.2.1 (fun h => by have := (X.reg h).1; have := X.2.2.2.2.2.1; omega) (lWd_S X Wd) dL_law_26 ?_
    refine lv_bipush (v := 7) hx hb dL_law_27 (by decide) ?_
    refine lv_isub hx hb dL_law_29 ?_
    refine lv_icmp_gt (tgt := 2803) hx hb dL_law_30 (by omega) (fun _ => ?_) (fun hc => ?_)
    · refine lv_iconst (v := 1) hx hb dL_law_2803 (by decide) ?_
      refine W.widen (k := 601024) (n := 7293034) (by omega) (by omega) ?_
      exact lw_ret hx hb X.1.2.2.2.2.2.2.2.1 X.1.2.2.2.2.2.2.2.2 dL_law_2804
    · exfalso
      have hc : ¬ (nI L - 7 < nI (7 * k)) := hc
      rw [l_cmp hkL hL] at hc
      omega
  | succ d ih =>
    intro k S σ w H ls cells slots hk hkL hJ Wd hl hc1 hc2
    have hl2 : lv_has ls 7 [(0, .ref b), (1, cv Φ (some 1)), (2, .ref mb), (3, .ref o), (4, .int (nI (7 * k)))] := hl
    refine lv_iload hx hb dL_law_23 (lv_at hl2 4 rfl) ?_
    refine lv_aload_n hx hb dL_law_25 rfl (lv_at hl2 0 rfl) ?_
    refine va_slen (A := cReg Φ) hx hb X.2.2.2.2.1 X.2.2.2.2.2.1 (fun h => by have := (X.reg h).1; have := X.2.2.2.2.2.1; omega) (lWd_S X Wd) dL_law_26 ?_
    refine lv_bipush (v := 7) hx hb dL_law_27 (by decide) ?_
    refine lv_isub hx hb dL_law_29 ?_
    refine lv_icmp_gt (tgt := 2803) hx hb dL_law_30 (by omega) (fun _ => ?_) (fun hc => ?_)
    · refine lv_iconst (v := 1) hx hb dL_law_2803 (by decide) ?_
      refine W.widen (k := 601024) (n := 7293034) (by omega) (by omega) ?_
      exact lw_ret hx hb X.1.2.2.2.2.2.2.2.1 X.1.2.2.2.2.2.2.2.2 dL_law_2804
    · have hc : ¬ (nI L - 7 < nI (7 * k)) := hc
      rw [l_cmp hkL hL] at hc
      refine L_iter hl9 X (hsim k (by omega)) (fun S σ h => hup k S σ (by omega) h) (hrc k S σ hJ) (l_in7 (by omega) hL) Wd hJ hl ⟨by omega, by omega⟩ (fun S1 σ1 w1 H1 ls1 hJ1 Wd1 hl1 => ?_)
      have hl3 : lv_has ls1 7 [(0, .ref b), (1, cv Φ (some 1)), (2, .ref mb), (3, .ref o), (4, .int (nI (7 * k)))] := hl1
      refine c_iinc (v := nI (7 * (k + 1))) hx hb dL_law_2797 hl3 (k := 4) rfl (by rw [show 7 * (k + 1) = 7 * k + 7 by omega, ← nI_add]; rfl) (Nat.le_of_ble_eq_true rfl) (lvKa rfl (lvKa rfl (lvKa rfl (lvKo (lvKi lvK0))))) rfl (fun ls hl => ?_)
      refine lv_goto (tgt := 23) hx hb dL_law_2800 (by omega) ?_
      exact ih (k + 1) S1 σ1 w1 H1 ls (cells + 13) (slots + 151) (by omega) (by omega) hJ1 Wd1 (lv_sub hl [1, 2, 3, 4, 0] rfl) (by omega) (by omega)
