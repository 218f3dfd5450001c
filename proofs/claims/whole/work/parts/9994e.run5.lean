/-! THE RUN OF THE LAW: 9994e.run5 -/
set_option maxRecDepth 20000 in
set_option maxHeartbeats 4000000 in
theorem L_case_26 {p : Program} {l : Launch} {e : Env} {s : State} {m : MethodId} {args : Array Value} {below : List Frame} {meth : Method} {c : Code} {H : Heap} {cells slots : Nat} {Q : State → Prop} {ls : Array Slot} {D : cD} {Φ : cG} {Dm : mD} {mb o : Nat} {cL : ClassId} {b L : Nat} {xs : Nat → Int32} {S : cS} {σ : mS} {w : Int64} {i : Int32} (hl9 : l.stackTraces = false) (X : lX p s m args meth c D Φ Dm mb o cL b L xs) {Sim Sim1 : cS → mS → Prop} (hsim : sim_size Sim Sim1) (hrc : rc S (some 1) 11 = some 1) (hin : lIn i L) (Wd : lWd D Φ Dm mb o cL s.heap S σ w H) (hS : Sim S σ) (hl : lv_has ls 7 (lLv Φ b mb o i)) (hf : cells + 13 ≤ 601024 ∧ slots + 151 ≤ 7293034) (kk : ∀ (S1 : cS) (σ1 : mS) (w1 : Int64) (H1 : Heap) (ls1 : Array Slot), Sim1 S1 σ1 → lWd D Φ Dm mb o cL s.heap S1 σ1 w1 H1 → lv_has ls1 7 (lLv Φ b mb o i) → W p l e lR s m args below meth c H1 [] (cells + 13) (slots + 151) Q (F0 m 2797 ls1 [])) : W p l e lR s m args below meth c H [] cells slots Q (F0 m 2089 ls []) := by
  have hx := X.1.1
  have hb := X.1.2.1
  have hts := X.1.2.2.2.2.1
  have hl : lv_has ls 7 [(0, .ref b), (1, cv Φ (some 1)), (2, .ref mb), (3, .ref o), (4, .int i)] := hl
  obtain ⟨q, r, hq, hr, hag, hnx⟩ := hsim S σ (xs (i + 1).toNatClampNeg) hS 
  refine c_aload_n hx hb dL_law_2089 rfl (lv_at hl 1 rfl) ?_
  refine lv_aload_n hx hb dL_law_2090 rfl (lv_at hl 0 rfl) ?_
  refine lv_iload hx hb dL_law_2091 (lv_at hl 4 rfl) ?_
  refine lv_iconst (v := 1) hx hb dL_law_2093 (by decide) ?_
  refine lv_iadd hx hb dL_law_2094 ?_
  refine l_sld X Wd hin.2.1 dL_law_2095 ?_
  refine lv_aload_n hx hb dL_law_2096 rfl (lv_at hl 3 rfl) ?_
  refine l_w1 (rest := []) (v := (r.2.2 81)) X Wd (K_L_size l hl9 D Φ S o cL w 1 (xs (i + 1).toNatClampNeg) hrc hq hag.1) ⟨w_1457, ww_L_size⟩ hy_L_size rfl ⟨(Nat.le_of_ble_eq_true rfl), (Nat.le_of_ble_eq_true rfl)⟩ hl.1 (Nat.le_of_ble_eq_true rfl) dL_law_2097 rfl ⟨by omega, by omega⟩ (fun n9 w H hn hx9 Wd => ?_)
  refine c_istore hx hb dL_law_2100 hl (Nat.le_of_ble_eq_true rfl) (lvKa rfl (lvKa rfl (lvKa rfl (lvKa rfl (lvKi lvK0))))) rfl (fun ls (hl : lv_has ls 7 [(5, .int (r.2.2 81)), (0, .ref b), (1, cv Φ (some 1)), (2, .ref mb), (3, .ref o), (4, .int i)]) => ?_)
  refine lv_aload_n hx hb dL_law_2102 rfl (lv_at hl 3 rfl) ?_
  refine lv_aload_n hx hb dL_law_2103 rfl (lv_at hl 1 rfl) ?_
  refine lv_iload hx hb dL_law_2104 (lv_at hl 5 rfl) ?_
  refine lv_iconst (v := 1) hx hb dL_law_2106 (by decide) ?_
  refine lv_iadd hx hb dL_law_2107 ?_
  refine l_sld X Wd hin.2.1 dL_law_2108 ?_
  refine l_mw X Wd (l_mrun (n := 1) (rest := []) X Wd (K_size l Dm mb σ (xs (i + 1).toNatClampNeg) hr) ⟨w_2298, w_2299, w_2300, w_2301⟩ (hyX rfl (by decide +kernel)) rfl ⟨(Nat.le_of_ble_eq_true rfl), (Nat.le_of_ble_eq_true rfl)⟩ hl.1 (Nat.le_of_ble_eq_true rfl) dL_law_2109 rfl ⟨by omega, by omega⟩) (fun H Wd => ?_)
  refine W.eq (g2 := F0 m 2112 ls [.int r.1]) rfl ?_
  refine c_istore hx hb dL_law_2112 hl (Nat.le_of_ble_eq_true rfl) (lvKi (lvKa rfl (lvKa rfl (lvKa rfl (lvKa rfl (lvKa rfl lvK0)))))) rfl (fun ls (hl : lv_has ls 7 [(6, .int r.1), (5, .int (r.2.2 81)), (0, .ref b), (1, cv Φ (some 1)), (2, .ref mb), (3, .ref o), (4, .int i)]) => ?_)
  refine lv_aload_n hx hb dL_law_2114 rfl (lv_at hl 4 rfl) ?_
  refine l_mr (l_mrun (n := 0) (rest := []) X Wd (K_thrown l Dm mb r.2 (r := r.2.2 81) rfl) ⟨w_1838, w_1839, w_1840, w_1841⟩ (hyX rfl (by decide +kernel)) rfl ⟨(Nat.le_of_ble_eq_true rfl), (Nat.le_of_ble_eq_true rfl)⟩ hl.1 (Nat.le_of_ble_eq_true rfl) dL_law_2115 rfl ⟨by omega, by omega⟩) ?_
  refine lv_iload hx hb dL_law_2118 (lv_at hl 1 rfl) ?_
  refine lv_icmp_eq (tgt := 2125) hx hb dL_law_2120 rfl (fun _ => ?_) (fun hc => absurd rfl hc)
  refine lv_iload hx hb dL_law_2125 (lv_at hl 1 rfl) ?_
  refine lv_if_ne (tgt := 2142) hx hb dL_law_2127 rfl (fun hc => ?_) (fun hc => ?_)
  · refine lv_goto (tgt := 2797) hx hb dL_law_2142 rfl ?_
    refine W.widen (k := cells + 13) (n := slots + 151) (by omega) (by omega) ?_
    exact kk _ _ _ H ls (hnx _ hn) Wd (lv_sub hl [2, 3, 4, 5, 6] rfl)
  · obtain ⟨u, hu⟩ := lcd_z2 hag.1 hc
    have hw9 := hx9 u hu
    have hw8 := hag.2 u hu
    refine lv_aload_n hx hb dL_law_2130 rfl (lv_at hl 5 rfl) ?_
    refine lv_iconst (v := 0) hx hb dL_law_2131 (by decide) ?_
    refine l_lald X Wd dL_law_2132 ?_
    refine lv_iload hx hb dL_law_2133 (lv_at hl 0 rfl) ?_
    refine lv_i2l (v := lvN r.1) hx hb dL_law_2135 rfl ?_
    refine W.lcmp hx hb dL_law_2136 ?_
    refine lv_if_eq (tgt := 2142) hx hb dL_law_2137 rfl (fun _ => ?_) (fun hc => absurd (by rw [hw9, hw8]; exact lg_cmp_self _) hc)
    refine lv_goto (tgt := 2797) hx hb dL_law_2142 rfl ?_
    refine W.widen (k := cells + 13) (n := slots + 151) (by omega) (by omega) ?_
    exact kk _ _ _ H ls (hnx _ hn) Wd (lv_sub hl [2, 3, 4, 5, 6] rfl)
set_option maxRecDepth 20000 in
set_option maxHeartbeats 4000000 in
theorem L_case_27 {p : Program} {l : Launch} {e : Env} {s : State} {m : MethodId} {args : Array Value} {below : List Frame} {meth : Method} {c : Code} {H : Heap} {cells slots : Nat} {Q : State → Prop} {ls : Array Slot} {D : cD} {Φ : cG} {Dm : mD} {mb o : Nat} {cL : ClassId} {b L : Nat} {xs : Nat → Int32} {S : cS} {σ : mS} {w : Int64} {i : Int32} (hl9 : l.stackTraces = false) (X : lX p s m args meth c D Φ Dm mb o cL b L xs) {Sim Sim1 : cS → mS → Prop} (hsim : sim_seen Sim Sim1) (hrc : rc S (some 1) 11 = some 1) (hin : lIn i L) (Wd : lWd D Φ Dm mb o cL s.heap S σ w H) (hS : Sim S σ) (hl : lv_has ls 7 (lLv Φ b mb o i)) (hf : cells + 13 ≤ 601024 ∧ slots + 151 ≤ 7293034) (kk : ∀ (S1 : cS) (σ1 : mS) (w1 : Int64) (H1 : Heap) (ls1 : Array Slot), Sim1 S1 σ1 → lWd D Φ Dm mb o cL s.heap S1 σ1 w1 H1 → lv_has ls1 7 (lLv Φ b mb o i) → W p l e lR s m args below meth c H1 [] (cells + 13) (slots + 151) Q (F0 m 2797 ls1 [])) : W p l e lR s m args below meth c H [] cells slots Q (F0 m 2145 ls []) := by
  have hx := X.1.1
  have hb := X.1.2.1
  have hts := X.1.2.2.2.2.1
  have hl : lv_has ls 7 [(0, .ref b), (1, cv Φ (some 1)), (2, .ref mb), (3, .ref o), (4, .int i)] := hl
  obtain ⟨q, r, hq, hr, hag, hnx⟩ := hsim S σ (xs (i + 1).toNatClampNeg) (xs (i + 2).toNatClampNeg) hS 
  refine c_aload_n hx hb dL_law_2145 rfl (lv_at hl 1 rfl) ?_
  refine lv_aload_n hx hb dL_law_2146 rfl (lv_at hl 0 rfl) ?_
  refine lv_iload hx hb dL_law_2147 (lv_at hl 4 rfl) ?_
  refine lv_iconst (v := 1) hx hb dL_law_2149 (by decide) ?_
  refine lv_iadd hx hb dL_law_2150 ?_
  refine l_sld X Wd hin.2.1 dL_law_2151 ?_
  refine lv_aload_n hx hb dL_law_2152 rfl (lv_at hl 0 rfl) ?_
  refine lv_iload hx hb dL_law_2153 (lv_at hl 4 rfl) ?_
  refine lv_iconst (v := 2) hx hb dL_law_2155 (by decide) ?_
  refine lv_iadd hx hb dL_law_2156 ?_
  refine l_sld X Wd hin.2.2.1 dL_law_2157 ?_
  refine lv_aload_n hx hb dL_law_2158 rfl (lv_at hl 3 rfl) ?_
  refine l_w1 (rest := []) (v := (r.2.2 81)) X Wd (K_L_seen l hl9 D Φ S o cL w 1 (xs (i + 1).toNatClampNeg) (xs (i + 2).toNatClampNeg) hrc hq hag.1) ⟨w_1464, ww_L_seen⟩ hy_L_seen rfl ⟨(Nat.le_of_ble_eq_true rfl), (Nat.le_of_ble_eq_true rfl)⟩ hl.1 (Nat.le_of_ble_eq_true rfl) dL_law_2159 rfl ⟨by omega, by omega⟩ (fun n9 w H hn hx9 Wd => ?_)
  refine c_istore hx hb dL_law_2162 hl (Nat.le_of_ble_eq_true rfl) (lvKa rfl (lvKa rfl (lvKa rfl (lvKa rfl (lvKi lvK0))))) rfl (fun ls (hl : lv_has ls 7 [(5, .int (r.2.2 81)), (0, .ref b), (1, cv Φ (some 1)), (2, .ref mb), (3, .ref o), (4, .int i)]) => ?_)
  refine lv_aload_n hx hb dL_law_2164 rfl (lv_at hl 3 rfl) ?_
  refine lv_aload_n hx hb dL_law_2165 rfl (lv_at hl 1 rfl) ?_
  refine lv_iload hx hb dL_law_2166 (lv_at hl 5 rfl) ?_
  refine lv_iconst (v := 1) hx hb dL_law_2168 (by decide) ?_
  refine lv_iadd hx hb dL_law_2169 ?_
  refine l_sld X Wd hin.2.1 dL_law_2170 ?_
  refine lv_aload_n hx hb dL_law_2171 rfl (lv_at hl 1 rfl) ?_
  refine lv_iload hx hb dL_law_2172 (lv_at hl 5 rfl) ?_
  refine lv_iconst (v := 2) hx hb dL_law_2174 (by decide) ?_
  refine lv_iadd hx hb dL_law_2175 ?_
  refine l_sld X Wd hin.2.2.1 dL_law_2176 ?_
  refine l_mw X Wd (l_mrun (n := 2) (rest := []) X Wd (K_seen l Dm mb σ (xs (i + 1).toNatClampNeg) (xs (i + 2).toNatClampNeg) hr) ⟨w_2302, w_2303, w_2304, w_2305⟩ (hyX rfl (by decide +kernel)) rfl ⟨(Nat.le_of_ble_eq_true rfl), (Nat.le_of_ble_eq_true rfl)⟩ hl.1 (Nat.le_of_ble_eq_true rfl) dL_law_2177 rfl ⟨by omega, by omega⟩) (fun H Wd => ?_)
  refine W.eq (g2 := F0 m 2180 ls [.int r.1]) rfl ?_
  refine c_istore hx hb dL_law_2180 hl (Nat.le_of_ble_eq_true rfl) (lvKi (lvKa rfl (lvKa rfl (lvKa rfl (lvKa rfl (lvKa rfl lvK0)))))) rfl (fun ls (hl : lv_has ls 7 [(6, .int r.1), (5, .int (r.2.2 81)), (0, .ref b), (1, cv Φ (some 1)), (2, .ref mb), (3, .ref o), (4, .int i)]) => ?_)
  refine lv_aload_n hx hb dL_law_2182 rfl (lv_at hl 4 rfl) ?_
  refine l_mr (l_mrun (n := 0) (rest := []) X Wd (K_thrown l Dm mb r.2 (r := r.2.2 81) rfl) ⟨w_1838, w_1839, w_1840, w_1841⟩ (hyX rfl (by decide +kernel)) rfl ⟨(Nat.le_of_ble_eq_true rfl), (Nat.le_of_ble_eq_true rfl)⟩ hl.1 (Nat.le_of_ble_eq_true rfl) dL_law_2183 rfl ⟨by omega, by omega⟩) ?_
  refine lv_iload hx hb dL_law_2186 (lv_at hl 1 rfl) ?_
  refine lv_icmp_eq (tgt := 2193) hx hb dL_law_2188 rfl (fun _ => ?_) (fun hc => absurd rfl hc)
  refine lv_iload hx hb dL_law_2193 (lv_at hl 1 rfl) ?_
  refine lv_if_ne (tgt := 2210) hx hb dL_law_2195 rfl (fun hc => ?_) (fun hc => ?_)
  · refine lv_goto (tgt := 2797) hx hb dL_law_2210 rfl ?_
    refine W.widen (k := cells + 13) (n := slots + 151) (by omega) (by omega) ?_
    exact kk _ _ _ H ls (hnx _ hn) Wd (lv_sub hl [2, 3, 4, 5, 6] rfl)
  · obtain ⟨u, hu⟩ := lcd_z3 hag.1 hc
    have hw9 := hx9 u hu
    have hw8 := hag.2 u hu
    refine lv_aload_n hx hb dL_law_2198 rfl (lv_at hl 5 rfl) ?_
    refine lv_iconst (v := 0) hx hb dL_law_2199 (by decide) ?_
    refine l_lald X Wd dL_law_2200 ?_
    refine lv_iload hx hb dL_law_2201 (lv_at hl 0 rfl) ?_
    refine lv_i2l (v := lvN r.1) hx hb dL_law_2203 rfl ?_
    refine W.lcmp hx hb dL_law_2204 ?_
    refine lv_if_eq (tgt := 2210) hx hb dL_law_2205 rfl (fun _ => ?_) (fun hc => absurd (by rw [hw9, hw8]; exact lg_cmp_self _) hc)
    refine lv_goto (tgt := 2797) hx hb dL_law_2210 rfl ?_
    refine W.widen (k := cells + 13) (n := slots + 151) (by omega) (by omega) ?_
    exact kk _ _ _ H ls (hnx _ hn) Wd (lv_sub hl [2, 3, 4, 5, 6] rfl)
set_option maxRecDepth 20000 in
set_option maxHeartbeats 4000000 in
theorem L_case_28 {p : Program} {l : Launch} {e : Env} {s : State} {m : MethodId} {args : Array Value} {below : List Frame} {meth : Method} {c : Code} {H : Heap} {cells slots : Nat} {Q : State → Prop} {ls : Array Slot} {D : cD} {Φ : cG} {Dm : mD} {mb o : Nat} {cL : ClassId} {b L : Nat} {xs : Nat → Int32} {S : cS} {σ : mS} {w : Int64} {i : Int32} (hl9 : l.stackTraces = false) (X : lX p s m args meth c D Φ Dm mb o cL b L xs) {Sim Sim1 : cS → mS → Prop} (hsim : sim_made Sim Sim1) (hrc : rc S (some 1) 11 = some 1) (hin : lIn i L) (Wd : lWd D Φ Dm mb o cL s.heap S σ w H) (hS : Sim S σ) (hl : lv_has ls 7 (lLv Φ b mb o i)) (hf : cells + 13 ≤ 601024 ∧ slots + 151 ≤ 7293034) (kk : ∀ (S1 : cS) (σ1 : mS) (w1 : Int64) (H1 : Heap) (ls1 : Array Slot), Sim1 S1 σ1 → lWd D Φ Dm mb o cL s.heap S1 σ1 w1 H1 → lv_has ls1 7 (lLv Φ b mb o i) → W p l e lR s m args below meth c H1 [] (cells + 13) (slots + 151) Q (F0 m 2797 ls1 [])) : W p l e lR s m args below meth c H [] cells slots Q (F0 m 2213 ls []) := by
  have hx := X.1.1
  have hb := X.1.2.1
  have hts := X.1.2.2.2.2.1
  have hl : lv_has ls 7 [(0, .ref b), (1, cv Φ (some 1)), (2, .ref mb), (3, .ref o), (4, .int i)] := hl
  obtain ⟨q, r, hq, hr, hag, hnx⟩ := hsim S σ (xs (i + 1).toNatClampNeg) hS 
  refine c_aload_n hx hb dL_law_2213 rfl (lv_at hl 1 rfl) ?_
  refine lv_aload_n hx hb dL_law_2214 rfl (lv_at hl 0 rfl) ?_
  refine lv_iload hx hb dL_law_2215 (lv_at hl 4 rfl) ?_
  refine lv_iconst (v := 1) hx hb dL_law_2217 (by decide) ?_
  refine lv_iadd hx hb dL_law_2218 ?_
  refine l_sld X Wd hin.2.1 dL_law_2219 ?_
  refine lv_aload_n hx hb dL_law_2220 rfl (lv_at hl 3 rfl) ?_
  refine l_w1 (rest := []) (v := (r.2.2 81)) X Wd (K_L_made l hl9 D Φ S o cL w 1 (xs (i + 1).toNatClampNeg) hrc hq hag.1) ⟨w_1472, ww_L_made⟩ hy_L_made rfl ⟨(Nat.le_of_ble_eq_true rfl), (Nat.le_of_ble_eq_true rfl)⟩ hl.1 (Nat.le_of_ble_eq_true rfl) dL_law_2221 rfl ⟨by omega, by omega⟩ (fun n9 w H hn hx9 Wd => ?_)
  refine c_istore hx hb dL_law_2224 hl (Nat.le_of_ble_eq_true rfl) (lvKa rfl (lvKa rfl (lvKa rfl (lvKa rfl (lvKi lvK0))))) rfl (fun ls (hl : lv_has ls 7 [(5, .int (r.2.2 81)), (0, .ref b), (1, cv Φ (some 1)), (2, .ref mb), (3, .ref o), (4, .int i)]) => ?_)
  refine lv_aload_n hx hb dL_law_2226 rfl (lv_at hl 3 rfl) ?_
  refine lv_aload_n hx hb dL_law_2227 rfl (lv_at hl 1 rfl) ?_
  refine lv_iload hx hb dL_law_2228 (lv_at hl 5 rfl) ?_
  refine lv_iconst (v := 1) hx hb dL_law_2230 (by decide) ?_
  refine lv_iadd hx hb dL_law_2231 ?_
  refine l_sld X Wd hin.2.1 dL_law_2232 ?_
  refine l_mw X Wd (l_mrun (n := 1) (rest := []) X Wd (K_made l Dm mb σ (xs (i + 1).toNatClampNeg) hr) ⟨w_2306, w_2307, w_2308, w_2309⟩ (hyX rfl (by decide +kernel)) rfl ⟨(Nat.le_of_ble_eq_true rfl), (Nat.le_of_ble_eq_true rfl)⟩ hl.1 (Nat.le_of_ble_eq_true rfl) dL_law_2233 rfl ⟨by omega, by omega⟩) (fun H Wd => ?_)
  refine W.eq (g2 := F0 m 2236 ls [.int r.1]) rfl ?_
  refine c_istore hx hb dL_law_2236 hl (Nat.le_of_ble_eq_true rfl) (lvKi (lvKa rfl (lvKa rfl (lvKa rfl (lvKa rfl (lvKa rfl lvK0)))))) rfl (fun ls (hl : lv_has ls 7 [(6, .int r.1), (5, .int (r.2.2 81)), (0, .ref b), (1, cv Φ (some 1)), (2, .ref mb), (3, .ref o), (4, .int i)]) => ?_)
  refine lv_aload_n hx hb dL_law_2238 rfl (lv_at hl 4 rfl) ?_
  refine l_mr (l_mrun (n := 0) (rest := []) X Wd (K_thrown l Dm mb r.2 (r := r.2.2 81) rfl) ⟨w_1838, w_1839, w_1840, w_1841⟩ (hyX rfl (by decide +kernel)) rfl ⟨(Nat.le_of_ble_eq_true rfl), (Nat.le_of_ble_eq_true rfl)⟩ hl.1 (Nat.le_of_ble_eq_true rfl) dL_law_2239 rfl ⟨by omega, by omega⟩) ?_
  refine lv_iload hx hb dL_law_2242 (lv_at hl 1 rfl) ?_
  refine lv_icmp_eq (tgt := 2249) hx hb dL_law_2244 rfl (fun _ => ?_) (fun hc => absurd rfl hc)
  refine lv_iload hx hb dL_law_2249 (lv_at hl 1 rfl) ?_
  refine lv_if_ne (tgt := 2266) hx hb dL_law_2251 rfl (fun hc => ?_) (fun hc => ?_)
  · refine lv_goto (tgt := 2797) hx hb dL_law_2266 rfl ?_
    refine W.widen (k := cells + 13) (n := slots + 151) (by omega) (by omega) ?_
    exact kk _ _ _ H ls (hnx _ hn) Wd (lv_sub hl [2, 3, 4, 5, 6] rfl)
  · obtain ⟨u, hu⟩ := lcd_z2 hag.1 hc
    have hw9 := hx9 u hu
    have hw8 := hag.2 u hu
    refine lv_aload_n hx hb dL_law_2254 rfl (lv_at hl 5 rfl) ?_
    refine lv_iconst (v := 0) hx hb dL_law_2255 (by decide) ?_
    refine l_lald X Wd dL_law_2256 ?_
    refine lv_iload hx hb dL_law_2257 (lv_at hl 0 rfl) ?_
    refine lv_i2l (v := lvN r.1) hx hb dL_law_2259 rfl ?_
    refine W.lcmp hx hb dL_law_2260 ?_
    refine lv_if_eq (tgt := 2266) hx hb dL_law_2261 rfl (fun _ => ?_) (fun hc => absurd (by rw [hw9, hw8]; exact lg_cmp_self _) hc)
    refine lv_goto (tgt := 2797) hx hb dL_law_2266 rfl ?_
    refine W.widen (k := cells + 13) (n := slots + 151) (by omega) (by omega) ?_
    exact kk _ _ _ H ls (hnx _ hn) Wd (lv_sub hl [2, 3, 4, 5, 6] rfl)
set_option maxRecDepth 20000 in
set_option maxHeartbeats 4000000 in
theorem L_case_29 {p : Program} {l : Launch} {e : Env} {s : State} {m : MethodId} {args : Array Value} {below : List Frame} {meth : Method} {c : Code} {H : Heap} {cells slots : Nat} {Q : State → Prop} {ls : Array Slot} {D : cD} {Φ : cG} {Dm : mD} {mb o : Nat} {cL : ClassId} {b L : Nat} {xs : Nat → Int32} {S : cS} {σ : mS} {w : Int64} {i : Int32} (hl9 : l.stackTraces = false) (X : lX p s m args meth c D Φ Dm mb o cL b L xs) {Sim Sim1 : cS → mS → Prop} (hsim : sim_why Sim Sim1) (hrc : rc S (some 1) 11 = some 1) (hin : lIn i L) (Wd : lWd D Φ Dm mb o cL s.heap S σ w H) (hS : Sim S σ) (hl : lv_has ls 7 (lLv Φ b mb o i)) (hf : cells + 13 ≤ 601024 ∧ slots + 151 ≤ 7293034) (kk : ∀ (S1 : cS) (σ1 : mS) (w1 : Int64) (H1 : Heap) (ls1 : Array Slot), Sim1 S1 σ1 → lWd D Φ Dm mb o cL s.heap S1 σ1 w1 H1 → lv_has ls1 7 (lLv Φ b mb o i) → W p l e lR s m args below meth c H1 [] (cells + 13) (slots + 151) Q (F0 m 2797 ls1 [])) : W p l e lR s m args below meth c H [] cells slots Q (F0 m 2269 ls []) := by
  have hx := X.1.1
  have hb := X.1.2.1
  have hts := X.1.2.2.2.2.1
  have hl : lv_has ls 7 [(0, .ref b), (1, cv Φ (some 1)), (2, .ref mb), (3, .ref o), (4, .int i)] := hl
  obtain ⟨q, r, hq, hr, hag, hnx⟩ := hsim S σ (xs (i + 1).toNatClampNeg) (xs (i + 2).toNatClampNeg) (xs (i + 3).toNatClampNeg) hS 
  refine c_aload_n hx hb dL_law_2269 rfl (lv_at hl 1 rfl) ?_
  refine lv_aload_n hx hb dL_law_2270 rfl (lv_at hl 0 rfl) ?_
  refine lv_iload hx hb dL_law_2271 (lv_at hl 4 rfl) ?_
  refine lv_iconst (v := 1) hx hb dL_law_2273 (by decide) ?_
  refine lv_iadd hx hb dL_law_2274 ?_
  refine l_sld X Wd hin.2.1 dL_law_2275 ?_
  refine lv_aload_n hx hb dL_law_2276 rfl (lv_at hl 0 rfl) ?_
  refine lv_iload hx hb dL_law_2277 (lv_at hl 4 rfl) ?_
  refine lv_iconst (v := 2) hx hb dL_law_2279 (by decide) ?_
  refine lv_iadd hx hb dL_law_2280 ?_
  refine l_sld X Wd hin.2.2.1 dL_law_2281 ?_
  refine lv_aload_n hx hb dL_law_2282 rfl (lv_at hl 0 rfl) ?_
  refine lv_iload hx hb dL_law_2283 (lv_at hl 4 rfl) ?_
  refine lv_iconst (v := 3) hx hb dL_law_2285 (by decide) ?_
  refine lv_iadd hx hb dL_law_2286 ?_
  refine l_sld X Wd hin.2.2.2.1 dL_law_2287 ?_
  refine lv_aload_n hx hb dL_law_2288 rfl (lv_at hl 3 rfl) ?_
  refine l_w1 (rest := []) (v := (r.2.2 81)) X Wd (K_L_why l hl9 D Φ S o cL w 1 (xs (i + 1).toNatClampNeg) (xs (i + 2).toNatClampNeg) (xs (i + 3).toNatClampNeg) hrc hq hag.1) ⟨w_1483, ww_L_why⟩ hy_L_why rfl ⟨(Nat.le_of_ble_eq_true rfl), (Nat.le_of_ble_eq_true rfl)⟩ hl.1 (Nat.le_of_ble_eq_true rfl) dL_law_2289 rfl ⟨by omega, by omega⟩ (fun n9 w H hn hx9 Wd => ?_)
  refine c_istore hx hb dL_law_2292 hl (Nat.le_of_ble_eq_true rfl) (lvKa rfl (lvKa rfl (lvKa rfl (lvKa rfl (lvKi lvK0))))) rfl (fun ls (hl : lv_has ls 7 [(5, .int (r.2.2 81)), (0, .ref b), (1, cv Φ (some 1)), (2, .ref mb), (3, .ref o), (4, .int i)]) => ?_)
  refine lv_aload_n hx hb dL_law_2294 rfl (lv_at hl 3 rfl) ?_
  refine lv_aload_n hx hb dL_law_2295 rfl (lv_at hl 1 rfl) ?_
  refine lv_iload hx hb dL_law_2296 (lv_at hl 5 rfl) ?_
  refine lv_iconst (v := 1) hx hb dL_law_2298 (by decide) ?_
  refine lv_iadd hx hb dL_law_2299 ?_
  refine l_sld X Wd hin.2.1 dL_law_2300 ?_
  refine lv_aload_n hx hb dL_law_2301 rfl (lv_at hl 1 rfl) ?_
  refine lv_iload hx hb dL_law_2302 (lv_at hl 5 rfl) ?_
  refine lv_iconst (v := 2) hx hb dL_law_2304 (by decide) ?_
  refine lv_iadd hx hb dL_law_2305 ?_
  refine l_sld X Wd hin.2.2.1 dL_law_2306 ?_
  refine lv_aload_n hx hb dL_law_2307 rfl (lv_at hl 1 rfl) ?_
  refine lv_iload hx hb dL_law_2308 (lv_at hl 5 rfl) ?_
  refine lv_iconst (v := 3) hx hb dL_law_2310 (by decide) ?_
  refine lv_iadd hx hb dL_law_2311 ?_
  refine l_sld X Wd hin.2.2.2.1 dL_law_2312 ?_
  refine l_mw X Wd (l_mrun (n := 3) (rest := []) X Wd (K_why l Dm mb σ (xs (i + 1).toNatClampNeg) (xs (i + 2).toNatClampNeg) (xs (i + 3).toNatClampNeg) hr) ⟨w_2310, w_2311, w_2312, w_2313⟩ (hyX rfl (by decide +kernel)) rfl ⟨(Nat.le_of_ble_eq_true rfl), (Nat.le_of_ble_eq_true rfl)⟩ hl.1 (Nat.le_of_ble_eq_true rfl) dL_law_2313 rfl ⟨by omega, by omega⟩) (fun H Wd => ?_)
  refine W.eq (g2 := F0 m 2316 ls [.int r.1]) rfl ?_
  refine c_istore hx hb dL_law_2316 hl (Nat.le_of_ble_eq_true rfl) (lvKi (lvKa rfl (lvKa rfl (lvKa rfl (lvKa rfl (lvKa rfl lvK0)))))) rfl (fun ls (hl : lv_has ls 7 [(6, .int r.1), (5, .int (r.2.2 81)), (0, .ref b), (1, cv Φ (some 1)), (2, .ref mb), (3, .ref o), (4, .int i)]) => ?_)
  refine lv_aload_n hx hb dL_law_2318 rfl (lv_at hl 4 rfl) ?_
  refine l_mr (l_mrun (n := 0) (rest := []) X Wd (K_thrown l Dm mb r.2 (r := r.2.2 81) rfl) ⟨w_1838, w_1839, w_1840, w_1841⟩ (hyX rfl (by decide +kernel)) rfl ⟨(Nat.le_of_ble_eq_true rfl), (Nat.le_of_ble_eq_true rfl)⟩ hl.1 (Nat.le_of_ble_eq_true rfl) dL_law_2319 rfl ⟨by omega, by omega⟩) ?_
  refine lv_iload hx hb dL_law_2322 (lv_at hl 1 rfl) ?_
  refine lv_icmp_eq (tgt := 2329) hx hb dL_law_2324 rfl (fun _ => ?_) (fun hc => absurd rfl hc)
  refine lv_iload hx hb dL_law_2329 (lv_at hl 1 rfl) ?_
  refine lv_if_ne (tgt := 2346) hx hb dL_law_2331 rfl (fun hc => ?_) (fun hc => ?_)
  · refine lv_goto (tgt := 2797) hx hb dL_law_2346 rfl ?_
    refine W.widen (k := cells + 13) (n := slots + 151) (by omega) (by omega) ?_
    exact kk _ _ _ H ls (hnx _ hn) Wd (lv_sub hl [2, 3, 4, 5, 6] rfl)
  · obtain ⟨u, hu⟩ := lcd_z3 hag.1 hc
    have hw9 := hx9 u hu
    have hw8 := hag.2 u hu
    refine lv_aload_n hx hb dL_law_2334 rfl (lv_at hl 5 rfl) ?_
    refine lv_iconst (v := 0) hx hb dL_law_2335 (by decide) ?_
    refine l_lald X Wd dL_law_2336 ?_
    refine lv_iload hx hb dL_law_2337 (lv_at hl 0 rfl) ?_
    refine lv_i2l (v := lvN r.1) hx hb dL_law_2339 rfl ?_
    refine W.lcmp hx hb dL_law_2340 ?_
    refine lv_if_eq (tgt := 2346) hx hb dL_law_2341 rfl (fun _ => ?_) (fun hc => absurd (by rw [hw9, hw8]; exact lg_cmp_self _) hc)
    refine lv_goto (tgt := 2797) hx hb dL_law_2346 rfl ?_
    refine W.widen (k := cells + 13) (n := slots + 151) (by omega) (by omega) ?_
    exact kk _ _ _ H ls (hnx _ hn) Wd (lv_sub hl [2, 3, 4, 5, 6] rfl)
set_option maxRecDepth 20000 in
set_option maxHeartbeats 4000000 in
theorem L_case_30 {p : Program} {l : Launch} {e : Env} {s : State} {m : MethodId} {args : Array Value} {below : List Frame} {meth : Method} {c : Code} {H : Heap} {cells slots : Nat} {Q : State → Prop} {ls : Array Slot} {D : cD} {Φ : cG} {Dm : mD} {mb o : Nat} {cL : ClassId} {b L : Nat} {xs : Nat → Int32} {S : cS} {σ : mS} {w : Int64} {i : Int32} (hl9 : l.stackTraces = false) (X : lX p s m args meth c D Φ Dm mb o cL b L xs) {Sim Sim1 : cS → mS → Prop} (hsim : sim_valueAnew Sim Sim1) (hrc : rc S (some 1) 11 = some 1) (hin : lIn i L) (Wd : lWd D Φ Dm mb o cL s.heap S σ w H) (hS : Sim S σ) (hl : lv_has ls 7 (lLv Φ b mb o i)) (hf : cells + 13 ≤ 601024 ∧ slots + 151 ≤ 7293034) (kk : ∀ (S1 : cS) (σ1 : mS) (w1 : Int64) (H1 : Heap) (ls1 : Array Slot), Sim1 S1 σ1 → lWd D Φ Dm mb o cL s.heap S1 σ1 w1 H1 → lv_has ls1 7 (lLv Φ b mb o i) → W p l e lR s m args below meth c H1 [] (cells + 13) (slots + 151) Q (F0 m 2797 ls1 [])) : W p l e lR s m args below meth c H [] cells slots Q (F0 m 2349 ls []) := by
  have hx := X.1.1
  have hb := X.1.2.1
  have hts := X.1.2.2.2.2.1
  have hl : lv_has ls 7 [(0, .ref b), (1, cv Φ (some 1)), (2, .ref mb), (3, .ref o), (4, .int i)] := hl
  obtain ⟨q, r, hq, hr, hag, hnx⟩ := hsim S σ (xs (i + 1).toNatClampNeg) (xs (i + 2).toNatClampNeg) hS 
  refine c_aload_n hx hb dL_law_2349 rfl (lv_at hl 1 rfl) ?_
  refine lv_aload_n hx hb dL_law_2350 rfl (lv_at hl 0 rfl) ?_
  refine lv_iload hx hb dL_law_2351 (lv_at hl 4 rfl) ?_
  refine lv_iconst (v := 1) hx hb dL_law_2353 (by decide) ?_
  refine lv_iadd hx hb dL_law_2354 ?_
  refine l_sld X Wd hin.2.1 dL_law_2355 ?_
  refine lv_aload_n hx hb dL_law_2356 rfl (lv_at hl 0 rfl) ?_
  refine lv_iload hx hb dL_law_2357 (lv_at hl 4 rfl) ?_
  refine lv_iconst (v := 2) hx hb dL_law_2359 (by decide) ?_
  refine lv_iadd hx hb dL_law_2360 ?_
  refine l_sld X Wd hin.2.2.1 dL_law_2361 ?_
  refine lv_aload_n hx hb dL_law_2362 rfl (lv_at hl 3 rfl) ?_
  refine l_w1 (rest := []) (v := (r.2.2 81)) X Wd (K_L_valueAnew l hl9 D Φ S o cL w 1 (xs (i + 1).toNatClampNeg) (xs (i + 2).toNatClampNeg) hrc hq hag.1) ⟨w_1498, ww_L_valueAnew⟩ hy_L_valueAnew rfl ⟨(Nat.le_of_ble_eq_true rfl), (Nat.le_of_ble_eq_true rfl)⟩ hl.1 (Nat.le_of_ble_eq_true rfl) dL_law_2363 rfl ⟨by omega, by omega⟩ (fun n9 w H hn hx9 Wd => ?_)
  refine c_istore hx hb dL_law_2366 hl (Nat.le_of_ble_eq_true rfl) (lvKa rfl (lvKa rfl (lvKa rfl (lvKa rfl (lvKi lvK0))))) rfl (fun ls (hl : lv_has ls 7 [(5, .int (r.2.2 81)), (0, .ref b), (1, cv Φ (some 1)), (2, .ref mb), (3, .ref o), (4, .int i)]) => ?_)
  refine lv_aload_n hx hb dL_law_2368 rfl (lv_at hl 3 rfl) ?_
  refine lv_aload_n hx hb dL_law_2369 rfl (lv_at hl 1 rfl) ?_
  refine lv_iload hx hb dL_law_2370 (lv_at hl 5 rfl) ?_
  refine lv_iconst (v := 1) hx hb dL_law_2372 (by decide) ?_
  refine lv_iadd hx hb dL_law_2373 ?_
  refine l_sld X Wd hin.2.1 dL_law_2374 ?_
  refine lv_aload_n hx hb dL_law_2375 rfl (lv_at hl 1 rfl) ?_
  refine lv_iload hx hb dL_law_2376 (lv_at hl 5 rfl) ?_
  refine lv_iconst (v := 2) hx hb dL_law_2378 (by decide) ?_
  refine lv_iadd hx hb dL_law_2379 ?_
  refine l_sld X Wd hin.2.2.1 dL_law_2380 ?_
  refine l_mw X Wd (l_mrun (n := 2) (rest := []) X Wd (K_valueAnew l Dm mb σ (xs (i + 1).toNatClampNeg) (xs (i + 2).toNatClampNeg) hr) ⟨w_2314, w_2315, w_2316, w_2317⟩ (hyX rfl (by decide +kernel)) rfl ⟨(Nat.le_of_ble_eq_true rfl), (Nat.le_of_ble_eq_true rfl)⟩ hl.1 (Nat.le_of_ble_eq_true rfl) dL_law_2381 rfl ⟨by omega, by omega⟩) (fun H Wd => ?_)
  refine W.eq (g2 := F0 m 2384 ls [.int r.1]) rfl ?_
  refine c_istore hx hb dL_law_2384 hl (Nat.le_of_ble_eq_true rfl) (lvKi (lvKa rfl (lvKa rfl (lvKa rfl (lvKa rfl (lvKa rfl lvK0)))))) rfl (fun ls (hl : lv_has ls 7 [(6, .int r.1), (5, .int (r.2.2 81)), (0, .ref b), (1, cv Φ (some 1)), (2, .ref mb), (3, .ref o), (4, .int i)]) => ?_)
  refine lv_aload_n hx hb dL_law_2386 rfl (lv_at hl 4 rfl) ?_
  refine l_mr (l_mrun (n := 0) (rest := []) X Wd (K_thrown l Dm mb r.2 (r := r.2.2 81) rfl) ⟨w_1838, w_1839, w_1840, w_1841⟩ (hyX rfl (by decide +kernel)) rfl ⟨(Nat.le_of_ble_eq_true rfl), (Nat.le_of_ble_eq_true rfl)⟩ hl.1 (Nat.le_of_ble_eq_true rfl) dL_law_2387 rfl ⟨by omega, by omega⟩) ?_
  refine lv_iload hx hb dL_law_2390 (lv_at hl 1 rfl) ?_
  refine lv_icmp_eq (tgt := 2397) hx hb dL_law_2392 rfl (fun _ => ?_) (fun hc => absurd rfl hc)
  refine lv_iload hx hb dL_law_2397 (lv_at hl 1 rfl) ?_
  refine lv_if_ne (tgt := 2414) hx hb dL_law_2399 rfl (fun hc => ?_) (fun hc => ?_)
  · refine lv_goto (tgt := 2797) hx hb dL_law_2414 rfl ?_
    refine W.widen (k := cells + 13) (n := slots + 151) (by omega) (by omega) ?_
    exact kk _ _ _ H ls (hnx _ hn) Wd (lv_sub hl [2, 3, 4, 5, 6] rfl)
  · obtain ⟨u, hu⟩ := lcd_z3 hag.1 hc
    have hw9 := hx9 u hu
    have hw8 := hag.2 u hu
    refine lv_aload_n hx hb dL_law_2402 rfl (lv_at hl 5 rfl) ?_
    refine lv_iconst (v := 0) hx hb dL_law_2403 (by decide) ?_
    refine l_lald X Wd dL_law_2404 ?_
    refine lv_iload hx hb dL_law_2405 (lv_at hl 0 rfl) ?_
    refine lv_i2l (v := lvN r.1) hx hb dL_law_2407 rfl ?_
    refine W.lcmp hx hb dL_law_2408 ?_
    refine lv_if_eq (tgt := 2414) hx hb dL_law_2409 rfl (fun _ => ?_) (fun hc => absurd (by rw [hw9, hw8]; exact lg_cmp_self _) hc)
    refine lv_goto (tgt := 2797) hx hb dL_law_2414 rfl ?_
    refine W.widen (k := cells + 13) (n := slots + 151) (by omega) (by omega) ?_
    exact kk _ _ _ H ls (hnx _ hn) Wd (lv_sub hl [2, 3, 4, 5, 6] rfl)
set_option maxRecDepth 20000 in
set_option maxHeartbeats 4000000 in
theorem L_case_31 {p : Program} {l : Launch} {e : Env} {s : State} {m : MethodId} {args : Array Value} {below : List Frame} {meth : Method} {c : Code} {H : Heap} {cells slots : Nat} {Q : State → Prop} {ls : Array Slot} {D : cD} {Φ : cG} {Dm : mD} {mb o : Nat} {cL : ClassId} {b L : Nat} {xs : Nat → Int32} {S : cS} {σ : mS} {w : Int64} {i : Int32} (hl9 : l.stackTraces = false) (X : lX p s m args meth c D Φ Dm mb o cL b L xs) {Sim Sim1 : cS → mS → Prop} (hsim : sim_marked Sim Sim1) (hrc : rc S (some 1) 11 = some 1) (hin : lIn i L) (Wd : lWd D Φ Dm mb o cL s.heap S σ w H) (hS : Sim S σ) (hl : lv_has ls 7 (lLv Φ b mb o i)) (hf : cells + 13 ≤ 601024 ∧ slots + 151 ≤ 7293034) (kk : ∀ (S1 : cS) (σ1 : mS) (w1 : Int64) (H1 : Heap) (ls1 : Array Slot), Sim1 S1 σ1 → lWd D Φ Dm mb o cL s.heap S1 σ1 w1 H1 → lv_has ls1 7 (lLv Φ b mb o i) → W p l e lR s m args below meth c H1 [] (cells + 13) (slots + 151) Q (F0 m 2797 ls1 [])) : W p l e lR s m args below meth c H [] cells slots Q (F0 m 2417 ls []) := by
  have hx := X.1.1
  have hb := X.1.2.1
  have hts := X.1.2.2.2.2.1
  have hl : lv_has ls 7 [(0, .ref b), (1, cv Φ (some 1)), (2, .ref mb), (3, .ref o), (4, .int i)] := hl
  obtain ⟨hS, r, hq, hr⟩ := hsim S σ hS
  refine c_aload_n hx hb dL_law_2417 rfl (lv_at hl 1 rfl) ?_
  refine c_cr (c_runV (rest := []) X.1 (K_X11_marked l D Φ S 1 hq) hrc (Nat.le_of_ble_eq_true rfl) ⟨w_715, ww_X11_marked⟩ rfl hy_X11_marked rfl ⟨(Nat.le_of_ble_eq_true rfl), (Nat.le_of_ble_eq_true rfl)⟩ Wd.1 (lWd_S X Wd) hl.1 (Nat.le_of_ble_eq_true rfl) dL_law_2418 rfl ⟨by omega, by omega⟩) ?_
  refine lv_aload_n hx hb dL_law_2421 rfl (lv_at hl 2 rfl) ?_
  refine l_mr (l_mrun (n := 0) (rest := [.int r]) X Wd (K_marked l Dm mb σ hr) ⟨w_2318, w_2319, w_2320, w_2321⟩ (hyX rfl (by decide +kernel)) rfl ⟨(Nat.le_of_ble_eq_true rfl), (Nat.le_of_ble_eq_true rfl)⟩ hl.1 (Nat.le_of_ble_eq_true rfl) dL_law_2422 rfl ⟨by omega, by omega⟩) ?_
  refine lv_icmp_eq (tgt := 2797) hx hb dL_law_2425 rfl (fun _ => ?_) (fun hc => absurd rfl hc)
  refine W.widen (k := cells + 13) (n := slots + 151) (by omega) (by omega) ?_
  exact kk S σ w H ls hS Wd (lv_sub hl [0, 1, 2, 3, 4] rfl)
set_option maxRecDepth 20000 in
set_option maxHeartbeats 4000000 in
theorem L_case_32 {p : Program} {l : Launch} {e : Env} {s : State} {m : MethodId} {args : Array Value} {below : List Frame} {meth : Method} {c : Code} {H : Heap} {cells slots : Nat} {Q : State → Prop} {ls : Array Slot} {D : cD} {Φ : cG} {Dm : mD} {mb o : Nat} {cL : ClassId} {b L : Nat} {xs : Nat → Int32} {S : cS} {σ : mS} {w : Int64} {i : Int32} (hl9 : l.stackTraces = false) (X : lX p s m args meth c D Φ Dm mb o cL b L xs) {Sim Sim1 : cS → mS → Prop} (hsim : sim_flushes Sim Sim1) (hrc : rc S (some 1) 11 = some 1) (hin : lIn i L) (Wd : lWd D Φ Dm mb o cL s.heap S σ w H) (hS : Sim S σ) (hl : lv_has ls 7 (lLv Φ b mb o i)) (hf : cells + 13 ≤ 601024 ∧ slots + 151 ≤ 7293034) (kk : ∀ (S1 : cS) (σ1 : mS) (w1 : Int64) (H1 : Heap) (ls1 : Array Slot), Sim1 S1 σ1 → lWd D Φ Dm mb o cL s.heap S1 σ1 w1 H1 → lv_has ls1 7 (lLv Φ b mb o i) → W p l e lR s m args below meth c H1 [] (cells + 13) (slots + 151) Q (F0 m 2797 ls1 [])) : W p l e lR s m args below meth c H [] cells slots Q (F0 m 2430 ls []) := by
  have hx := X.1.1
  have hb := X.1.2.1
  have hts := X.1.2.2.2.2.1
  have hl : lv_has ls 7 [(0, .ref b), (1, cv Φ (some 1)), (2, .ref mb), (3, .ref o), (4, .int i)] := hl
  obtain ⟨hS, r, hq, hr⟩ := hsim S σ hS
  refine c_aload_n hx hb dL_law_2430 rfl (lv_at hl 1 rfl) ?_
  refine c_cr (c_runV (rest := []) X.1 (K_X11_flushes l D Φ S 1 hq) hrc (Nat.le_of_ble_eq_true rfl) ⟨w_719, ww_X11_flushes⟩ rfl hy_X11_flushes rfl ⟨(Nat.le_of_ble_eq_true rfl), (Nat.le_of_ble_eq_true rfl)⟩ Wd.1 (lWd_S X Wd) hl.1 (Nat.le_of_ble_eq_true rfl) dL_law_2431 rfl ⟨by omega, by omega⟩) ?_
  refine lv_aload_n hx hb dL_law_2434 rfl (lv_at hl 2 rfl) ?_
  refine l_mr (l_mrun (n := 0) (rest := [.int r]) X Wd (K_flushes l Dm mb σ hr) ⟨w_2322, w_2323, w_2324, w_2325⟩ (hyX rfl (by decide +kernel)) rfl ⟨(Nat.le_of_ble_eq_true rfl), (Nat.le_of_ble_eq_true rfl)⟩ hl.1 (Nat.le_of_ble_eq_true rfl) dL_law_2435 rfl ⟨by omega, by omega⟩) ?_
  refine lv_icmp_eq (tgt := 2797) hx hb dL_law_2438 rfl (fun _ => ?_) (fun hc => absurd rfl hc)
  refine W.widen (k := cells + 13) (n := slots + 151) (by omega) (by omega) ?_
  exact kk S σ w H ls hS Wd (lv_sub hl [0, 1, 2, 3, 4] rfl)
set_option maxRecDepth 20000 in
set_option maxHeartbeats 4000000 in
theorem L_case_33 {p : Program} {l : Launch} {e : Env} {s : State} {m : MethodId} {args : Array Value} {below : List Frame} {meth : Method} {c : Code} {H : Heap} {cells slots : Nat} {Q : State → Prop} {ls : Array Slot} {D : cD} {Φ : cG} {Dm : mD} {mb o : Nat} {cL : ClassId} {b L : Nat} {xs : Nat → Int32} {S : cS} {σ : mS} {w : Int64} {i : Int32} (hl9 : l.stackTraces = false) (X : lX p s m args meth c D Φ Dm mb o cL b L xs) {Sim Sim1 : cS → mS → Prop} (hsim : sim_restyled Sim Sim1) (hrc : rc S (some 1) 11 = some 1) (hin : lIn i L) (Wd : lWd D Φ Dm mb o cL s.heap S σ w H) (hS : Sim S σ) (hl : lv_has ls 7 (lLv Φ b mb o i)) (hf : cells + 13 ≤ 601024 ∧ slots + 151 ≤ 7293034) (kk : ∀ (S1 : cS) (σ1 : mS) (w1 : Int64) (H1 : Heap) (ls1 : Array Slot), Sim1 S1 σ1 → lWd D Φ Dm mb o cL s.heap S1 σ1 w1 H1 → lv_has ls1 7 (lLv Φ b mb o i) → W p l e lR s m args below meth c H1 [] (cells + 13) (slots + 151) Q (F0 m 2797 ls1 [])) : W p l e lR s m args below meth c H [] cells slots Q (F0 m 2443 ls []) := by
  have hx := X.1.1
  have hb := X.1.2.1
  have hts := X.1.2.2.2.2.1
  have hl : lv_has ls 7 [(0, .ref b), (1, cv Φ (some 1)), (2, .ref mb), (3, .ref o), (4, .int i)] := hl
  obtain ⟨hS, r, hq, hr⟩ := hsim S σ hS
  refine c_aload_n hx hb dL_law_2443 rfl (lv_at hl 1 rfl) ?_
  refine c_cr (c_runV (rest := []) X.1 (K_X11_restyled l D Φ S 1 hq) hrc (Nat.le_of_ble_eq_true rfl) ⟨w_723, ww_X11_restyled⟩ rfl hy_X11_restyled rfl ⟨(Nat.le_of_ble_eq_true rfl), (Nat.le_of_ble_eq_true rfl)⟩ Wd.1 (lWd_S X Wd) hl.1 (Nat.le_of_ble_eq_true rfl) dL_law_2444 rfl ⟨by omega, by omega⟩) ?_
  refine lv_aload_n hx hb dL_law_2447 rfl (lv_at hl 2 rfl) ?_
  refine l_mr (l_mrun (n := 0) (rest := [.int r]) X Wd (K_restyled l Dm mb σ hr) ⟨w_2326, w_2327, w_2328, w_2329⟩ (hyX rfl (by decide +kernel)) rfl ⟨(Nat.le_of_ble_eq_true rfl), (Nat.le_of_ble_eq_true rfl)⟩ hl.1 (Nat.le_of_ble_eq_true rfl) dL_law_2448 rfl ⟨by omega, by omega⟩) ?_
  refine lv_icmp_eq (tgt := 2797) hx hb dL_law_2451 rfl (fun _ => ?_) (fun hc => absurd rfl hc)
  refine W.widen (k := cells + 13) (n := slots + 151) (by omega) (by omega) ?_
  exact kk S σ w H ls hS Wd (lv_sub hl [0, 1, 2, 3, 4] rfl)
set_option maxRecDepth 20000 in
set_option maxHeartbeats 4000000 in
theorem L_case_34 {p : Program} {l : Launch} {e : Env} {s : State} {m : MethodId} {args : Array Value} {below : List Frame} {meth : Method} {c : Code} {H : Heap} {cells slots : Nat} {Q : State → Prop} {ls : Array Slot} {D : cD} {Φ : cG} {Dm : mD} {mb o : Nat} {cL : ClassId} {b L : Nat} {xs : Nat → Int32} {S : cS} {σ : mS} {w : Int64} {i : Int32} (hl9 : l.stackTraces = false) (X : lX p s m args meth c D Φ Dm mb o cL b L xs) {Sim Sim1 : cS → mS → Prop} (hsim : sim_shared Sim Sim1) (hrc : rc S (some 1) 11 = some 1) (hin : lIn i L) (Wd : lWd D Φ Dm mb o cL s.heap S σ w H) (hS : Sim S σ) (hl : lv_has ls 7 (lLv Φ b mb o i)) (hf : cells + 13 ≤ 601024 ∧ slots + 151 ≤ 7293034) (kk : ∀ (S1 : cS) (σ1 : mS) (w1 : Int64) (H1 : Heap) (ls1 : Array Slot), Sim1 S1 σ1 → lWd D Φ Dm mb o cL s.heap S1 σ1 w1 H1 → lv_has ls1 7 (lLv Φ b mb o i) → W p l e lR s m args below meth c H1 [] (cells + 13) (slots + 151) Q (F0 m 2797 ls1 [])) : W p l e lR s m args below meth c H [] cells slots Q (F0 m 2456 ls []) := by
  have hx := X.1.1
  have hb := X.1.2.1
  have hts := X.1.2.2.2.2.1
  have hl : lv_has ls 7 [(0, .ref b), (1, cv Φ (some 1)), (2, .ref mb), (3, .ref o), (4, .int i)] := hl
  obtain ⟨hS, r, hq, hr⟩ := hsim S σ hS
  refine c_aload_n hx hb dL_law_2456 rfl (lv_at hl 1 rfl) ?_
  refine c_cr (c_runV (rest := []) X.1 (K_X11_shared l D Φ S 1 hq) hrc (Nat.le_of_ble_eq_true rfl) ⟨w_727, ww_X11_shared⟩ rfl hy_X11_shared rfl ⟨(Nat.le_of_ble_eq_true rfl), (Nat.le_of_ble_eq_true rfl)⟩ Wd.1 (lWd_S X Wd) hl.1 (Nat.le_of_ble_eq_true rfl) dL_law_2457 rfl ⟨by omega, by omega⟩) ?_
  refine lv_aload_n hx hb dL_law_2460 rfl (lv_at hl 2 rfl) ?_
  refine l_mr (l_mrun (n := 0) (rest := [.int r]) X Wd (K_shared l Dm mb σ hr) ⟨w_2330, w_2331, w_2332, w_2333⟩ (hyX rfl (by decide +kernel)) rfl ⟨(Nat.le_of_ble_eq_true rfl), (Nat.le_of_ble_eq_true rfl)⟩ hl.1 (Nat.le_of_ble_eq_true rfl) dL_law_2461 rfl ⟨by omega, by omega⟩) ?_
  refine lv_icmp_eq (tgt := 2797) hx hb dL_law_2464 rfl (fun _ => ?_) (fun hc => absurd rfl hc)
  refine W.widen (k := cells + 13) (n := slots + 151) (by omega) (by omega) ?_
  exact kk S σ w H ls hS Wd (lv_sub hl [0, 1, 2, 3, 4] rfl)
set_option maxRecDepth 20000 in
set_option maxHeartbeats 4000000 in
theorem L_case_35 {p : Program} {l : Launch} {e : Env} {s : State} {m : MethodId} {args : Array Value} {below : List Frame} {meth : Method} {c : Code} {H : Heap} {cells slots : Nat} {Q : State → Prop} {ls : Array Slot} {D : cD} {Φ : cG} {Dm : mD} {mb o : Nat} {cL : ClassId} {b L : Nat} {xs : Nat → Int32} {S : cS} {σ : mS} {w : Int64} {i : Int32} (hl9 : l.stackTraces = false) (X : lX p s m args meth c D Φ Dm mb o cL b L xs) {Sim Sim1 : cS → mS → Prop} (hsim : sim_tick Sim Sim1) (hrc : rc S (some 1) 11 = some 1) (hin : lIn i L) (Wd : lWd D Φ Dm mb o cL s.heap S σ w H) (hS : Sim S σ) (hl : lv_has ls 7 (lLv Φ b mb o i)) (hf : cells + 13 ≤ 601024 ∧ slots + 151 ≤ 7293034) (kk : ∀ (S1 : cS) (σ1 : mS) (w1 : Int64) (H1 : Heap) (ls1 : Array Slot), Sim1 S1 σ1 → lWd D Φ Dm mb o cL s.heap S1 σ1 w1 H1 → lv_has ls1 7 (lLv Φ b mb o i) → W p l e lR s m args below meth c H1 [] (cells + 13) (slots + 151) Q (F0 m 2797 ls1 [])) : W p l e lR s m args below meth c H [] cells slots Q (F0 m 2469 ls []) := by
  have hx := X.1.1
  have hb := X.1.2.1
  have hts := X.1.2.2.2.2.1
  have hl : lv_has ls 7 [(0, .ref b), (1, cv Φ (some 1)), (2, .ref mb), (3, .ref o), (4, .int i)] := hl
  obtain ⟨q, r, hq, hr, hag, hnx⟩ := hsim S σ (xs (i + 1).toNatClampNeg) hS 
  refine c_aload_n hx hb dL_law_2469 rfl (lv_at hl 1 rfl) ?_
  refine lv_aload_n hx hb dL_law_2470 rfl (lv_at hl 0 rfl) ?_
  refine lv_iload hx hb dL_law_2471 (lv_at hl 4 rfl) ?_
  refine lv_iconst (v := 1) hx hb dL_law_2473 (by decide) ?_
  refine lv_iadd hx hb dL_law_2474 ?_
  refine l_sld X Wd hin.2.1 dL_law_2475 ?_
  refine lv_aload_n hx hb dL_law_2476 rfl (lv_at hl 3 rfl) ?_
  refine l_w1 (rest := []) (v := (r.2.2 81)) X Wd (K_L_tick l hl9 D Φ S o cL w 1 (xs (i + 1).toNatClampNeg) hrc hq hag.1) ⟨w_1509, ww_L_tick⟩ hy_L_tick rfl ⟨(Nat.le_of_ble_eq_true rfl), (Nat.le_of_ble_eq_true rfl)⟩ hl.1 (Nat.le_of_ble_eq_true rfl) dL_law_2477 rfl ⟨by omega, by omega⟩ (fun n9 w H hn hx9 Wd => ?_)
  refine c_istore hx hb dL_law_2480 hl (Nat.le_of_ble_eq_true rfl) (lvKa rfl (lvKa rfl (lvKa rfl (lvKa rfl (lvKi lvK0))))) rfl (fun ls (hl : lv_has ls 7 [(5, .int (r.2.2 81)), (0, .ref b), (1, cv Φ (some 1)), (2, .ref mb), (3, .ref o), (4, .int i)]) => ?_)
  refine lv_aload_n hx hb dL_law_2482 rfl (lv_at hl 3 rfl) ?_
  refine lv_aload_n hx hb dL_law_2483 rfl (lv_at hl 1 rfl) ?_
  refine lv_iload hx hb dL_law_2484 (lv_at hl 5 rfl) ?_
  refine lv_iconst (v := 1) hx hb dL_law_2486 (by decide) ?_
  refine lv_iadd hx hb dL_law_2487 ?_
  refine l_sld X Wd hin.2.1 dL_law_2488 ?_
  refine l_mw X Wd (l_mrun (n := 1) (rest := []) X Wd (K_tick l Dm mb σ (xs (i + 1).toNatClampNeg) hr) ⟨w_2334, w_2335, w_2336, w_2337⟩ (hyX rfl (by decide +kernel)) rfl ⟨(Nat.le_of_ble_eq_true rfl), (Nat.le_of_ble_eq_true rfl)⟩ hl.1 (Nat.le_of_ble_eq_true rfl) dL_law_2489 rfl ⟨by omega, by omega⟩) (fun H Wd => ?_)
  refine W.eq (g2 := F0 m 2492 ls [.int r.1]) rfl ?_
  refine c_istore hx hb dL_law_2492 hl (Nat.le_of_ble_eq_true rfl) (lvKi (lvKa rfl (lvKa rfl (lvKa rfl (lvKa rfl (lvKa rfl lvK0)))))) rfl (fun ls (hl : lv_has ls 7 [(6, .int r.1), (5, .int (r.2.2 81)), (0, .ref b), (1, cv Φ (some 1)), (2, .ref mb), (3, .ref o), (4, .int i)]) => ?_)
  refine lv_aload_n hx hb dL_law_2494 rfl (lv_at hl 4 rfl) ?_
  refine l_mr (l_mrun (n := 0) (rest := []) X Wd (K_thrown l Dm mb r.2 (r := r.2.2 81) rfl) ⟨w_1838, w_1839, w_1840, w_1841⟩ (hyX rfl (by decide +kernel)) rfl ⟨(Nat.le_of_ble_eq_true rfl), (Nat.le_of_ble_eq_true rfl)⟩ hl.1 (Nat.le_of_ble_eq_true rfl) dL_law_2495 rfl ⟨by omega, by omega⟩) ?_
  refine lv_iload hx hb dL_law_2498 (lv_at hl 1 rfl) ?_
  refine lv_icmp_eq (tgt := 2505) hx hb dL_law_2500 rfl (fun _ => ?_) (fun hc => absurd rfl hc)
  refine lv_iload hx hb dL_law_2505 (lv_at hl 1 rfl) ?_
  refine lv_if_ne (tgt := 2522) hx hb dL_law_2507 rfl (fun hc => ?_) (fun hc => ?_)
  · refine lv_goto (tgt := 2797) hx hb dL_law_2522 rfl ?_
    refine W.widen (k := cells + 13) (n := slots + 151) (by omega) (by omega) ?_
    exact kk _ _ _ H ls (hnx _ hn) Wd (lv_sub hl [2, 3, 4, 5, 6] rfl)
  · obtain ⟨u, hu⟩ := lcd_z1 hag.1 hc
    have hw9 := hx9 u hu
    have hw8 := hag.2 u hu
    refine lv_aload_n hx hb dL_law_2510 rfl (lv_at hl 5 rfl) ?_
    refine lv_iconst (v := 0) hx hb dL_law_2511 (by decide) ?_
    refine l_lald X Wd dL_law_2512 ?_
    refine lv_iload hx hb dL_law_2513 (lv_at hl 0 rfl) ?_
    refine lv_i2l (v := lvN r.1) hx hb dL_law_2515 rfl ?_
    refine W.lcmp hx hb dL_law_2516 ?_
    refine lv_if_eq (tgt := 2522) hx hb dL_law_2517 rfl (fun _ => ?_) (fun hc => absurd (by rw [hw9, hw8]; exact lg_cmp_self _) hc)
    refine lv_goto (tgt := 2797) hx hb dL_law_2522 rfl ?_
    refine W.widen (k := cells + 13) (n := slots + 151) (by omega) (by omega) ?_
    exact kk _ _ _ H ls (hnx _ hn) Wd (lv_sub hl [2, 3, 4, 5, 6] rfl)
set_option maxRecDepth 20000 in
set_option maxHeartbeats 4000000 in
theorem L_case_36 {p : Program} {l : Launch} {e : Env} {s : State} {m : MethodId} {args : Array Value} {below : List Frame} {meth : Method} {c : Code} {H : Heap} {cells slots : Nat} {Q : State → Prop} {ls : Array Slot} {D : cD} {Φ : cG} {Dm : mD} {mb o : Nat} {cL : ClassId} {b L : Nat} {xs : Nat → Int32} {S : cS} {σ : mS} {w : Int64} {i : Int32} (hl9 : l.stackTraces = false) (X : lX p s m args meth c D Φ Dm mb o cL b L xs) {Sim Sim1 : cS → mS → Prop} (hsim : sim_animation Sim Sim1) (hrc : rc S (some 1) 11 = some 1) (hin : lIn i L) (Wd : lWd D Φ Dm mb o cL s.heap S σ w H) (hS : Sim S σ) (hl : lv_has ls 7 (lLv Φ b mb o i)) (hf : cells + 13 ≤ 601024 ∧ slots + 151 ≤ 7293034) (kk : ∀ (S1 : cS) (σ1 : mS) (w1 : Int64) (H1 : Heap) (ls1 : Array Slot), Sim1 S1 σ1 → lWd D Φ Dm mb o cL s.heap S1 σ1 w1 H1 → lv_has ls1 7 (lLv Φ b mb o i) → W p l e lR s m args below meth c H1 [] (cells + 13) (slots + 151) Q (F0 m 2797 ls1 [])) : W p l e lR s m args below meth c H [] cells slots Q (F0 m 2525 ls []) := by
  have hx := X.1.1
  have hb := X.1.2.1
  have hts := X.1.2.2.2.2.1
  have hl : lv_has ls 7 [(0, .ref b), (1, cv Φ (some 1)), (2, .ref mb), (3, .ref o), (4, .int i)] := hl
  obtain ⟨q, r, hq, hr, hag, hnx⟩ := hsim S σ (xs (i + 1).toNatClampNeg) (xs (i + 2).toNatClampNeg) (xs (i + 3).toNatClampNeg) (lz (xs (i + 4).toNatClampNeg)) hS (lz_01 _)
  refine c_aload_n hx hb dL_law_2525 rfl (lv_at hl 1 rfl) ?_
  refine lv_aload_n hx hb dL_law_2526 rfl (lv_at hl 0 rfl) ?_
  refine lv_iload hx hb dL_law_2527 (lv_at hl 4 rfl) ?_
  refine lv_iconst (v := 1) hx hb dL_law_2529 (by decide) ?_
  refine lv_iadd hx hb dL_law_2530 ?_
  refine l_sld X Wd hin.2.1 dL_law_2531 ?_
  refine lv_aload_n hx hb dL_law_2532 rfl (lv_at hl 0 rfl) ?_
  refine lv_iload hx hb dL_law_2533 (lv_at hl 4 rfl) ?_
  refine lv_iconst (v := 2) hx hb dL_law_2535 (by decide) ?_
  refine lv_iadd hx hb dL_law_2536 ?_
  refine l_sld X Wd hin.2.2.1 dL_law_2537 ?_
  refine lv_aload_n hx hb dL_law_2538 rfl (lv_at hl 0 rfl) ?_
  refine lv_iload hx hb dL_law_2539 (lv_at hl 4 rfl) ?_
  refine lv_iconst (v := 3) hx hb dL_law_2541 (by decide) ?_
  refine lv_iadd hx hb dL_law_2542 ?_
  refine l_sld X Wd hin.2.2.2.1 dL_law_2543 ?_
  refine lv_aload_n hx hb dL_law_2544 rfl (lv_at hl 0 rfl) ?_
  refine lv_iload hx hb dL_law_2545 (lv_at hl 4 rfl) ?_
  refine lv_iconst (v := 4) hx hb dL_law_2547 (by decide) ?_
  refine lv_iadd hx hb dL_law_2548 ?_
  refine l_sld X Wd hin.2.2.2.2.1 dL_law_2549 ?_
  refine l_tern hx hb dL_law_2550 dL_law_2553 dL_law_2554 dL_law_2557 ?_
  refine l_w0 (rest := []) (v := (r.2 81)) X Wd (K_L_animation l hl9 D Φ S 1 (xs (i + 1).toNatClampNeg) (xs (i + 2).toNatClampNeg) (xs (i + 3).toNatClampNeg) (lz (xs (i + 4).toNatClampNeg)) hrc hq hag) ⟨w_1516, ww_L_animation⟩ hy_L_animation rfl ⟨(Nat.le_of_ble_eq_true rfl), (Nat.le_of_ble_eq_true rfl)⟩ hl.1 (Nat.le_of_ble_eq_true rfl) dL_law_2558 rfl ⟨by omega, by omega⟩ (fun n9 H hn Wd => ?_)
  refine c_istore hx hb dL_law_2561 hl (Nat.le_of_ble_eq_true rfl) (lvKa rfl (lvKa rfl (lvKa rfl (lvKa rfl (lvKi lvK0))))) rfl (fun ls (hl : lv_has ls 7 [(5, .int (r.2 81)), (0, .ref b), (1, cv Φ (some 1)), (2, .ref mb), (3, .ref o), (4, .int i)]) => ?_)
  refine lv_aload_n hx hb dL_law_2563 rfl (lv_at hl 3 rfl) ?_
  refine lv_aload_n hx hb dL_law_2564 rfl (lv_at hl 1 rfl) ?_
  refine lv_iload hx hb dL_law_2565 (lv_at hl 5 rfl) ?_
  refine lv_iconst (v := 1) hx hb dL_law_2567 (by decide) ?_
  refine lv_iadd hx hb dL_law_2568 ?_
  refine l_sld X Wd hin.2.1 dL_law_2569 ?_
  refine lv_aload_n hx hb dL_law_2570 rfl (lv_at hl 1 rfl) ?_
  refine lv_iload hx hb dL_law_2571 (lv_at hl 5 rfl) ?_
  refine lv_iconst (v := 2) hx hb dL_law_2573 (by decide) ?_
  refine lv_iadd hx hb dL_law_2574 ?_
  refine l_sld X Wd hin.2.2.1 dL_law_2575 ?_
  refine lv_aload_n hx hb dL_law_2576 rfl (lv_at hl 1 rfl) ?_
  refine lv_iload hx hb dL_law_2577 (lv_at hl 5 rfl) ?_
  refine lv_iconst (v := 3) hx hb dL_law_2579 (by decide) ?_
  refine lv_iadd hx hb dL_law_2580 ?_
  refine l_sld X Wd hin.2.2.2.1 dL_law_2581 ?_
  refine lv_aload_n hx hb dL_law_2582 rfl (lv_at hl 1 rfl) ?_
  refine lv_iload hx hb dL_law_2583 (lv_at hl 5 rfl) ?_
  refine lv_iconst (v := 4) hx hb dL_law_2585 (by decide) ?_
  refine lv_iadd hx hb dL_law_2586 ?_
  refine l_sld X Wd hin.2.2.2.2.1 dL_law_2587 ?_
  refine l_tern hx hb dL_law_2588 dL_law_2591 dL_law_2592 dL_law_2595 ?_
  refine l_mw X Wd (l_mrun (n := 4) (rest := []) X Wd (K_animation l Dm mb σ (xs (i + 1).toNatClampNeg) (xs (i + 2).toNatClampNeg) (xs (i + 3).toNatClampNeg) (lz (xs (i + 4).toNatClampNeg)) hr) ⟨w_2338, w_2339, w_2340, w_2341⟩ (hyX rfl (by decide +kernel)) rfl ⟨(Nat.le_of_ble_eq_true rfl), (Nat.le_of_ble_eq_true rfl)⟩ hl.1 (Nat.le_of_ble_eq_true rfl) dL_law_2596 rfl ⟨by omega, by omega⟩) (fun H Wd => ?_)
  refine W.eq (g2 := F0 m 2599 ls []) rfl ?_
  refine lv_aload_n hx hb dL_law_2599 rfl (lv_at hl 3 rfl) ?_
  refine l_mr (l_mrun (n := 0) (rest := []) X Wd (K_thrown l Dm mb r (r := r.2 81) rfl) ⟨w_1838, w_1839, w_1840, w_1841⟩ (hyX rfl (by decide +kernel)) rfl ⟨(Nat.le_of_ble_eq_true rfl), (Nat.le_of_ble_eq_true rfl)⟩ hl.1 (Nat.le_of_ble_eq_true rfl) dL_law_2600 rfl ⟨by omega, by omega⟩) ?_
  refine lv_iload hx hb dL_law_2603 (lv_at hl 0 rfl) ?_
  refine lv_icmp_eq (tgt := 2610) hx hb dL_law_2605 rfl (fun _ => ?_) (fun hc => absurd rfl hc)
  refine lv_goto (tgt := 2797) hx hb dL_law_2610 rfl ?_
  refine W.widen (k := cells + 13) (n := slots + 151) (by omega) (by omega) ?_
  exact kk _ _ _ H ls (hnx _ hn) Wd (lv_sub hl [1, 2, 3, 4, 5] rfl)
set_option maxRecDepth 20000 in
set_option maxHeartbeats 4000000 in
theorem L_case_37 {p : Program} {l : Launch} {e : Env} {s : State} {m : MethodId} {args : Array Value} {below : List Frame} {meth : Method} {c : Code} {H : Heap} {cells slots : Nat} {Q : State → Prop} {ls : Array Slot} {D : cD} {Φ : cG} {Dm : mD} {mb o : Nat} {cL : ClassId} {b L : Nat} {xs : Nat → Int32} {S : cS} {σ : mS} {w : Int64} {i : Int32} (hl9 : l.stackTraces = false) (X : lX p s m args meth c D Φ Dm mb o cL b L xs) {Sim Sim1 : cS → mS → Prop} (hsim : sim_frame Sim Sim1) (hrc : rc S (some 1) 11 = some 1) (hin : lIn i L) (Wd : lWd D Φ Dm mb o cL s.heap S σ w H) (hS : Sim S σ) (hl : lv_has ls 7 (lLv Φ b mb o i)) (hf : cells + 13 ≤ 601024 ∧ slots + 151 ≤ 7293034) (kk : ∀ (S1 : cS) (σ1 : mS) (w1 : Int64) (H1 : Heap) (ls1 : Array Slot), Sim1 S1 σ1 → lWd D Φ Dm mb o cL s.heap S1 σ1 w1 H1 → lv_has ls1 7 (lLv Φ b mb o i) → W p l e lR s m args below meth c H1 [] (cells + 13) (slots + 151) Q (F0 m 2797 ls1 [])) : W p l e lR s m args below meth c H [] cells slots Q (F0 m 2613 ls []) := by
  have hx := X.1.1
  have hb := X.1.2.1
  have hts := X.1.2.2.2.2.1
  have hl : lv_has ls 7 [(0, .ref b), (1, cv Φ (some 1)), (2, .ref mb), (3, .ref o), (4, .int i)] := hl
  obtain ⟨q, r, hq, hr, hag, hnx⟩ := hsim S σ (xs (i + 1).toNatClampNeg) (xs (i + 2).toNatClampNeg) (xs (i + 3).toNatClampNeg) (xs (i + 4).toNatClampNeg) hS 
  refine c_aload_n hx hb dL_law_2613 rfl (lv_at hl 1 rfl) ?_
  refine lv_aload_n hx hb dL_law_2614 rfl (lv_at hl 0 rfl) ?_
  refine lv_iload hx hb dL_law_2615 (lv_at hl 4 rfl) ?_
  refine lv_iconst (v := 1) hx hb dL_law_2617 (by decide) ?_
  refine lv_iadd hx hb dL_law_2618 ?_
  refine l_sld X Wd hin.2.1 dL_law_2619 ?_
  refine lv_aload_n hx hb dL_law_2620 rfl (lv_at hl 0 rfl) ?_
  refine lv_iload hx hb dL_law_2621 (lv_at hl 4 rfl) ?_
  refine lv_iconst (v := 2) hx hb dL_law_2623 (by decide) ?_
  refine lv_iadd hx hb dL_law_2624 ?_
  refine l_sld X Wd hin.2.2.1 dL_law_2625 ?_
  refine lv_aload_n hx hb dL_law_2626 rfl (lv_at hl 0 rfl) ?_
  refine lv_iload hx hb dL_law_2627 (lv_at hl 4 rfl) ?_
  refine lv_iconst (v := 3) hx hb dL_law_2629 (by decide) ?_
  refine lv_iadd hx hb dL_law_2630 ?_
  refine l_sld X Wd hin.2.2.2.1 dL_law_2631 ?_
  refine lv_aload_n hx hb dL_law_2632 rfl (lv_at hl 0 rfl) ?_
  refine lv_iload hx hb dL_law_2633 (lv_at hl 4 rfl) ?_
  refine lv_iconst (v := 4) hx hb dL_law_2635 (by decide) ?_
  refine lv_iadd hx hb dL_law_2636 ?_
  refine l_sld X Wd hin.2.2.2.2.1 dL_law_2637 ?_
  refine lv_aload_n hx hb dL_law_2638 rfl (lv_at hl 3 rfl) ?_
  refine l_w1 (rest := []) (v := (r.2.2 81)) X Wd (K_L_frame l hl9 D Φ S o cL w 1 (xs (i + 1).toNatClampNeg) (xs (i + 2).toNatClampNeg) (xs (i + 3).toNatClampNeg) (xs (i + 4).toNatClampNeg) hrc hq hag.1) ⟨w_1523, ww_L_frame⟩ hy_L_frame rfl ⟨(Nat.le_of_ble_eq_true rfl), (Nat.le_of_ble_eq_true rfl)⟩ hl.1 (Nat.le_of_ble_eq_true rfl) dL_law_2639 rfl ⟨by omega, by omega⟩ (fun n9 w H hn hx9 Wd => ?_)
  refine c_istore hx hb dL_law_2642 hl (Nat.le_of_ble_eq_true rfl) (lvKa rfl (lvKa rfl (lvKa rfl (lvKa rfl (lvKi lvK0))))) rfl (fun ls (hl : lv_has ls 7 [(5, .int (r.2.2 81)), (0, .ref b), (1, cv Φ (some 1)), (2, .ref mb), (3, .ref o), (4, .int i)]) => ?_)
  refine lv_aload_n hx hb dL_law_2644 rfl (lv_at hl 3 rfl) ?_
  refine lv_aload_n hx hb dL_law_2645 rfl (lv_at hl 1 rfl) ?_
  refine lv_iload hx hb dL_law_2646 (lv_at hl 5 rfl) ?_
  refine lv_iconst (v := 1) hx hb dL_law_2648 (by decide) ?_
  refine lv_iadd hx hb dL_law_2649 ?_
  refine l_sld X Wd hin.2.1 dL_law_2650 ?_
  refine lv_aload_n hx hb dL_law_2651 rfl (lv_at hl 1 rfl) ?_
  refine lv_iload hx hb dL_law_2652 (lv_at hl 5 rfl) ?_
  refine lv_iconst (v := 2) hx hb dL_law_2654 (by decide) ?_
  refine lv_iadd hx hb dL_law_2655 ?_
  refine l_sld X Wd hin.2.2.1 dL_law_2656 ?_
  refine lv_aload_n hx hb dL_law_2657 rfl (lv_at hl 1 rfl) ?_
  refine lv_iload hx hb dL_law_2658 (lv_at hl 5 rfl) ?_
  refine lv_iconst (v := 3) hx hb dL_law_2660 (by decide) ?_
  refine lv_iadd hx hb dL_law_2661 ?_
  refine l_sld X Wd hin.2.2.2.1 dL_law_2662 ?_
  refine lv_aload_n hx hb dL_law_2663 rfl (lv_at hl 1 rfl) ?_
  refine lv_iload hx hb dL_law_2664 (lv_at hl 5 rfl) ?_
  refine lv_iconst (v := 4) hx hb dL_law_2666 (by decide) ?_
  refine lv_iadd hx hb dL_law_2667 ?_
  refine l_sld X Wd hin.2.2.2.2.1 dL_law_2668 ?_
  refine l_mw X Wd (l_mrun (n := 4) (rest := []) X Wd (K_frame l Dm mb σ (xs (i + 1).toNatClampNeg) (xs (i + 2).toNatClampNeg) (xs (i + 3).toNatClampNeg) (xs (i + 4).toNatClampNeg) hr) ⟨w_2342, w_2343, w_2344, w_2345⟩ (hyX rfl (by decide +kernel)) rfl ⟨(Nat.le_of_ble_eq_true rfl), (Nat.le_of_ble_eq_true rfl)⟩ hl.1 (Nat.le_of_ble_eq_true rfl) dL_law_2669 rfl ⟨by omega, by omega⟩) (fun H Wd => ?_)
  refine W.eq (g2 := F0 m 2672 ls [.int r.1]) rfl ?_
  refine c_istore hx hb dL_law_2672 hl (Nat.le_of_ble_eq_true rfl) (lvKi (lvKa rfl (lvKa rfl (lvKa rfl (lvKa rfl (lvKa rfl lvK0)))))) rfl (fun ls (hl : lv_has ls 7 [(6, .int r.1), (5, .int (r.2.2 81)), (0, .ref b), (1, cv Φ (some 1)), (2, .ref mb), (3, .ref o), (4, .int i)]) => ?_)
  refine lv_aload_n hx hb dL_law_2674 rfl (lv_at hl 4 rfl) ?_
  refine l_mr (l_mrun (n := 0) (rest := []) X Wd (K_thrown l Dm mb r.2 (r := r.2.2 81) rfl) ⟨w_1838, w_1839, w_1840, w_1841⟩ (hyX rfl (by decide +kernel)) rfl ⟨(Nat.le_of_ble_eq_true rfl), (Nat.le_of_ble_eq_true rfl)⟩ hl.1 (Nat.le_of_ble_eq_true rfl) dL_law_2675 rfl ⟨by omega, by omega⟩) ?_
  refine lv_iload hx hb dL_law_2678 (lv_at hl 1 rfl) ?_
  refine lv_icmp_eq (tgt := 2685) hx hb dL_law_2680 rfl (fun _ => ?_) (fun hc => absurd rfl hc)
  refine lv_iload hx hb dL_law_2685 (lv_at hl 1 rfl) ?_
  refine lv_if_ne (tgt := 2702) hx hb dL_law_2687 rfl (fun hc => ?_) (fun hc => ?_)
  · refine lv_goto (tgt := 2797) hx hb dL_law_2702 rfl ?_
    refine W.widen (k := cells + 13) (n := slots + 151) (by omega) (by omega) ?_
    exact kk _ _ _ H ls (hnx _ hn) Wd (lv_sub hl [2, 3, 4, 5, 6] rfl)
  · obtain ⟨u, hu⟩ := lcd_z1 hag.1 hc
    have hw9 := hx9 u hu
    have hw8 := hag.2 u hu
    refine lv_aload_n hx hb dL_law_2690 rfl (lv_at hl 5 rfl) ?_
    refine lv_iconst (v := 0) hx hb dL_law_2691 (by decide) ?_
    refine l_lald X Wd dL_law_2692 ?_
    refine lv_iload hx hb dL_law_2693 (lv_at hl 0 rfl) ?_
    refine lv_i2l (v := lvN r.1) hx hb dL_law_2695 rfl ?_
    refine W.lcmp hx hb dL_law_2696 ?_
    refine lv_if_eq (tgt := 2702) hx hb dL_law_2697 rfl (fun _ => ?_) (fun hc => absurd (by rw [hw9, hw8]; exact lg_cmp_self _) hc)
    refine lv_goto (tgt := 2797) hx hb dL_law_2702 rfl ?_
    refine W.widen (k := cells + 13) (n := slots + 151) (by omega) (by omega) ?_
    exact kk _ _ _ H ls (hnx _ hn) Wd (lv_sub hl [2, 3, 4, 5, 6] rfl)
set_option maxRecDepth 20000 in
set_option maxHeartbeats 4000000 in
theorem L_case_38 {p : Program} {l : Launch} {e : Env} {s : State} {m : MethodId} {args : Array Value} {below : List Frame} {meth : Method} {c : Code} {H : Heap} {cells slots : Nat} {Q : State → Prop} {ls : Array Slot} {D : cD} {Φ : cG} {Dm : mD} {mb o : Nat} {cL : ClassId} {b L : Nat} {xs : Nat → Int32} {S : cS} {σ : mS} {w : Int64} {i : Int32} (hl9 : l.stackTraces = false) (X : lX p s m args meth c D Φ Dm mb o cL b L xs) {Sim Sim1 : cS → mS → Prop} (hsim : sim_listen Sim Sim1) (hrc : rc S (some 1) 11 = some 1) (hin : lIn i L) (Wd : lWd D Φ Dm mb o cL s.heap S σ w H) (hS : Sim S σ) (hl : lv_has ls 7 (lLv Φ b mb o i)) (hf : cells + 13 ≤ 601024 ∧ slots + 151 ≤ 7293034) (kk : ∀ (S1 : cS) (σ1 : mS) (w1 : Int64) (H1 : Heap) (ls1 : Array Slot), Sim1 S1 σ1 → lWd D Φ Dm mb o cL s.heap S1 σ1 w1 H1 → lv_has ls1 7 (lLv Φ b mb o i) → W p l e lR s m args below meth c H1 [] (cells + 13) (slots + 151) Q (F0 m 2797 ls1 [])) : W p l e lR s m args below meth c H [] cells slots Q (F0 m 2705 ls []) := by
  have hx := X.1.1
  have hb := X.1.2.1
  have hts := X.1.2.2.2.2.1
  have hl : lv_has ls 7 [(0, .ref b), (1, cv Φ (some 1)), (2, .ref mb), (3, .ref o), (4, .int i)] := hl
  obtain ⟨q, r, hq, hr, hag, hnx⟩ := hsim S σ (xs (i + 1).toNatClampNeg) (xs (i + 2).toNatClampNeg) (xs (i + 3).toNatClampNeg) (xs (i + 4).toNatClampNeg) hS 
  refine c_aload_n hx hb dL_law_2705 rfl (lv_at hl 1 rfl) ?_
  refine lv_aload_n hx hb dL_law_2706 rfl (lv_at hl 0 rfl) ?_
  refine lv_iload hx hb dL_law_2707 (lv_at hl 4 rfl) ?_
  refine lv_iconst (v := 1) hx hb dL_law_2709 (by decide) ?_
  refine lv_iadd hx hb dL_law_2710 ?_
  refine l_sld X Wd hin.2.1 dL_law_2711 ?_
  refine lv_aload_n hx hb dL_law_2712 rfl (lv_at hl 0 rfl) ?_
  refine lv_iload hx hb dL_law_2713 (lv_at hl 4 rfl) ?_
  refine lv_iconst (v := 2) hx hb dL_law_2715 (by decide) ?_
  refine lv_iadd hx hb dL_law_2716 ?_
  refine l_sld X Wd hin.2.2.1 dL_law_2717 ?_
  refine lv_aload_n hx hb dL_law_2718 rfl (lv_at hl 0 rfl) ?_
  refine lv_iload hx hb dL_law_2719 (lv_at hl 4 rfl) ?_
  refine lv_iconst (v := 3) hx hb dL_law_2721 (by decide) ?_
  refine lv_iadd hx hb dL_law_2722 ?_
  refine l_sld X Wd hin.2.2.2.1 dL_law_2723 ?_
  refine lv_aload_n hx hb dL_law_2724 rfl (lv_at hl 0 rfl) ?_
  refine lv_iload hx hb dL_law_2725 (lv_at hl 4 rfl) ?_
  refine lv_iconst (v := 4) hx hb dL_law_2727 (by decide) ?_
  refine lv_iadd hx hb dL_law_2728 ?_
  refine l_sld X Wd hin.2.2.2.2.1 dL_law_2729 ?_
  refine lv_aload_n hx hb dL_law_2730 rfl (lv_at hl 3 rfl) ?_
  refine l_w1 (rest := []) (v := (r.2.2 81)) X Wd (K_L_listen l hl9 D Φ S o cL w 1 (xs (i + 1).toNatClampNeg) (xs (i + 2).toNatClampNeg) (xs (i + 3).toNatClampNeg) (xs (i + 4).toNatClampNeg) hrc hq hag.1) ⟨w_1540, ww_L_listen⟩ hy_L_listen rfl ⟨(Nat.le_of_ble_eq_true rfl), (Nat.le_of_ble_eq_true rfl)⟩ hl.1 (Nat.le_of_ble_eq_true rfl) dL_law_2731 rfl ⟨by omega, by omega⟩ (fun n9 w H hn hx9 Wd => ?_)
  refine c_istore hx hb dL_law_2734 hl (Nat.le_of_ble_eq_true rfl) (lvKa rfl (lvKa rfl (lvKa rfl (lvKa rfl (lvKi lvK0))))) rfl (fun ls (hl : lv_has ls 7 [(5, .int (r.2.2 81)), (0, .ref b), (1, cv Φ (some 1)), (2, .ref mb), (3, .ref o), (4, .int i)]) => ?_)
  refine lv_aload_n hx hb dL_law_2736 rfl (lv_at hl 3 rfl) ?_
  refine lv_aload_n hx hb dL_law_2737 rfl (lv_at hl 1 rfl) ?_
  refine lv_iload hx hb dL_law_2738 (lv_at hl 5 rfl) ?_
  refine lv_iconst (v := 1) hx hb dL_law_2740 (by decide) ?_
  refine lv_iadd hx hb dL_law_2741 ?_
  refine l_sld X Wd hin.2.1 dL_law_2742 ?_
  refine lv_aload_n hx hb dL_law_2743 rfl (lv_at hl 1 rfl) ?_
  refine lv_iload hx hb dL_law_2744 (lv_at hl 5 rfl) ?_
  refine lv_iconst (v := 2) hx hb dL_law_2746 (by decide) ?_
  refine lv_iadd hx hb dL_law_2747 ?_
  refine l_sld X Wd hin.2.2.1 dL_law_2748 ?_
  refine lv_aload_n hx hb dL_law_2749 rfl (lv_at hl 1 rfl) ?_
  refine lv_iload hx hb dL_law_2750 (lv_at hl 5 rfl) ?_
  refine lv_iconst (v := 3) hx hb dL_law_2752 (by decide) ?_
  refine lv_iadd hx hb dL_law_2753 ?_
  refine l_sld X Wd hin.2.2.2.1 dL_law_2754 ?_
  refine lv_aload_n hx hb dL_law_2755 rfl (lv_at hl 1 rfl) ?_
  refine lv_iload hx hb dL_law_2756 (lv_at hl 5 rfl) ?_
  refine lv_iconst (v := 4) hx hb dL_law_2758 (by decide) ?_
  refine lv_iadd hx hb dL_law_2759 ?_
  refine l_sld X Wd hin.2.2.2.2.1 dL_law_2760 ?_
  refine l_mw X Wd (l_mrun (n := 4) (rest := []) X Wd (K_listen l Dm mb σ (xs (i + 1).toNatClampNeg) (xs (i + 2).toNatClampNeg) (xs (i + 3).toNatClampNeg) (xs (i + 4).toNatClampNeg) hr) ⟨w_2346, w_2347, w_2348, w_2349⟩ (hyX rfl (by decide +kernel)) rfl ⟨(Nat.le_of_ble_eq_true rfl), (Nat.le_of_ble_eq_true rfl)⟩ hl.1 (Nat.le_of_ble_eq_true rfl) dL_law_2761 rfl ⟨by omega, by omega⟩) (fun H Wd => ?_)
  refine W.eq (g2 := F0 m 2764 ls [.int r.1]) rfl ?_
  refine c_istore hx hb dL_law_2764 hl (Nat.le_of_ble_eq_true rfl) (lvKi (lvKa rfl (lvKa rfl (lvKa rfl (lvKa rfl (lvKa rfl lvK0)))))) rfl (fun ls (hl : lv_has ls 7 [(6, .int r.1), (5, .int (r.2.2 81)), (0, .ref b), (1, cv Φ (some 1)), (2, .ref mb), (3, .ref o), (4, .int i)]) => ?_)
  refine lv_aload_n hx hb dL_law_2766 rfl (lv_at hl 4 rfl) ?_
  refine l_mr (l_mrun (n := 0) (rest := []) X Wd (K_thrown l Dm mb r.2 (r := r.2.2 81) rfl) ⟨w_1838, w_1839, w_1840, w_1841⟩ (hyX rfl (by decide +kernel)) rfl ⟨(Nat.le_of_ble_eq_true rfl), (Nat.le_of_ble_eq_true rfl)⟩ hl.1 (Nat.le_of_ble_eq_true rfl) dL_law_2767 rfl ⟨by omega, by omega⟩) ?_
  refine lv_iload hx hb dL_law_2770 (lv_at hl 1 rfl) ?_
  refine lv_icmp_eq (tgt := 2777) hx hb dL_law_2772 rfl (fun _ => ?_) (fun hc => absurd rfl hc)
  refine lv_iload hx hb dL_law_2777 (lv_at hl 1 rfl) ?_
  refine lv_if_ne (tgt := 2794) hx hb dL_law_2779 rfl (fun hc => ?_) (fun hc => ?_)
  · refine lv_goto (tgt := 2797) hx hb dL_law_2794 rfl ?_
    refine W.widen (k := cells + 13) (n := slots + 151) (by omega) (by omega) ?_
    exact kk _ _ _ H ls (hnx _ hn) Wd (lv_sub hl [2, 3, 4, 5, 6] rfl)
  · obtain ⟨u, hu⟩ := lcd_z3 hag.1 hc
    have hw9 := hx9 u hu
    have hw8 := hag.2 u hu
    refine lv_aload_n hx hb dL_law_2782 rfl (lv_at hl 5 rfl) ?_
    refine lv_iconst (v := 0) hx hb dL_law_2783 (by decide) ?_
    refine l_lald X Wd dL_law_2784 ?_
    refine lv_iload hx hb dL_law_2785 (lv_at hl 0 rfl) ?_
    refine lv_i2l (v := lvN r.1) hx hb dL_law_2787 rfl ?_
    refine W.lcmp hx hb dL_law_2788 ?_
    refine lv_if_eq (tgt := 2794) hx hb dL_law_2789 rfl (fun _ => ?_) (fun hc => absurd (by rw [hw9, hw8]; exact lg_cmp_self _) hc)
    refine lv_goto (tgt := 2797) hx hb dL_law_2794 rfl ?_
    refine W.widen (k := cells + 13) (n := slots + 151) (by omega) (by omega) ?_
    exact kk _ _ _ H ls (hnx _ hn) Wd (lv_sub hl [2, 3, 4, 5, 6] rfl)
