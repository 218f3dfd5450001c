/-! THE RUN OF THE LAW: 9994d.run4 -/
set_option maxRecDepth 20000 in
set_option maxHeartbeats 4000000 in
theorem L_case_13 {p : Program} {l : Launch} {e : Env} {s : State} {m : MethodId} {args : Array Value} {below : List Frame} {meth : Method} {c : Code} {H : Heap} {cells slots : Nat} {Q : State → Prop} {ls : Array Slot} {D : cD} {Φ : cG} {Dm : mD} {mb o : Nat} {cL : ClassId} {b L : Nat} {xs : Nat → Int32} {S : cS} {σ : mS} {w : Int64} {i : Int32} (hl9 : l.stackTraces = false) (X : lX p s m args meth c D Φ Dm mb o cL b L xs) {Sim Sim1 : cS → mS → Prop} (hsim : sim_select Sim Sim1) (hrc : rc S (some 1) 11 = some 1) (hin : lIn i L) (Wd : lWd D Φ Dm mb o cL s.heap S σ w H) (hS : Sim S σ) (hl : lv_has ls 7 (lLv Φ b mb o i)) (hf : cells + 13 ≤ 601024 ∧ slots + 151 ≤ 7293034) (kk : ∀ (S1 : cS) (σ1 : mS) (w1 : Int64) (H1 : Heap) (ls1 : Array Slot), Sim1 S1 σ1 → lWd D Φ Dm mb o cL s.heap S1 σ1 w1 H1 → lv_has ls1 7 (lLv Φ b mb o i) → W p l e lR s m args below meth c H1 [] (cells + 13) (slots + 151) Q (F0 m 2797 ls1 [])) : W p l e lR s m args below meth c H [] cells slots Q (F0 m 1089 ls []) := by
  have hx := X.1.1
  have hb := X.1.2.1
  have hts := X.1.2.2.2.2.1
  have hl : lv_has ls 7 [(0, .ref b), (1, cv Φ (some 1)), (2, .ref mb), (3, .ref o), (4, .int i)] := hl
  obtain ⟨q, r, hq, hr, hag, hnx⟩ := hsim S σ  hS 
  refine c_aload_n hx hb dL_law_1089 rfl (lv_at hl 1 rfl) ?_
  refine lv_aload_n hx hb dL_law_1090 rfl (lv_at hl 3 rfl) ?_
  refine l_w1 (rest := []) (v := (r.2.2 81)) X Wd (K_L_select l hl9 D Φ S o cL w 1  hrc hq hag.1) ⟨w_1071, ww_L_select⟩ hy_L_select rfl ⟨(Nat.le_of_ble_eq_true rfl), (Nat.le_of_ble_eq_true rfl)⟩ hl.1 (Nat.le_of_ble_eq_true rfl) dL_law_1091 rfl ⟨by omega, by omega⟩ (fun n9 w H hn hx9 Wd => ?_)
  refine c_istore hx hb dL_law_1094 hl (Nat.le_of_ble_eq_true rfl) (lvKa rfl (lvKa rfl (lvKa rfl (lvKa rfl (lvKi lvK0))))) rfl (fun ls (hl : lv_has ls 7 [(5, .int (r.2.2 81)), (0, .ref b), (1, cv Φ (some 1)), (2, .ref mb), (3, .ref o), (4, .int i)]) => ?_)
  refine lv_aload_n hx hb dL_law_1096 rfl (lv_at hl 3 rfl) ?_
  refine l_mw X Wd (l_mrun (n := 0) (rest := []) X Wd (K_select l Dm mb σ  hr) ⟨w_1994, w_1995, w_1996, w_1997⟩ (hyX rfl (by decide +kernel)) rfl ⟨(Nat.le_of_ble_eq_true rfl), (Nat.le_of_ble_eq_true rfl)⟩ hl.1 (Nat.le_of_ble_eq_true rfl) dL_law_1097 rfl ⟨by omega, by omega⟩) (fun H Wd => ?_)
  refine W.eq (g2 := F0 m 1100 ls [.int r.1]) rfl ?_
  refine c_istore hx hb dL_law_1100 hl (Nat.le_of_ble_eq_true rfl) (lvKi (lvKa rfl (lvKa rfl (lvKa rfl (lvKa rfl (lvKa rfl lvK0)))))) rfl (fun ls (hl : lv_has ls 7 [(6, .int r.1), (5, .int (r.2.2 81)), (0, .ref b), (1, cv Φ (some 1)), (2, .ref mb), (3, .ref o), (4, .int i)]) => ?_)
  refine lv_aload_n hx hb dL_law_1102 rfl (lv_at hl 4 rfl) ?_
  refine l_mr (l_mrun (n := 0) (rest := []) X Wd (K_thrown l Dm mb r.2 (r := r.2.2 81) rfl) ⟨w_1838, w_1839, w_1840, w_1841⟩ (hyX rfl (by decide +kernel)) rfl ⟨(Nat.le_of_ble_eq_true rfl), (Nat.le_of_ble_eq_true rfl)⟩ hl.1 (Nat.le_of_ble_eq_true rfl) dL_law_1103 rfl ⟨by omega, by omega⟩) ?_
  refine lv_iload hx hb dL_law_1106 (lv_at hl 1 rfl) ?_
  refine lv_icmp_eq (tgt := 1113) hx hb dL_law_1108 rfl (fun _ => ?_) (fun hc => absurd rfl hc)
  refine lv_iload hx hb dL_law_1113 (lv_at hl 1 rfl) ?_
  refine lv_if_ne (tgt := 1130) hx hb dL_law_1115 rfl (fun hc => ?_) (fun hc => ?_)
  · refine lv_goto (tgt := 2797) hx hb dL_law_1130 rfl ?_
    refine W.widen (k := cells + 13) (n := slots + 151) (by omega) (by omega) ?_
    exact kk _ _ _ H ls (hnx _ hn) Wd (lv_sub hl [2, 3, 4, 5, 6] rfl)
  · obtain ⟨u, hu⟩ := lcd_z1 hag.1 hc
    have hw9 := hx9 u hu
    have hw8 := hag.2 u hu
    refine lv_aload_n hx hb dL_law_1118 rfl (lv_at hl 5 rfl) ?_
    refine lv_iconst (v := 0) hx hb dL_law_1119 (by decide) ?_
    refine l_lald X Wd dL_law_1120 ?_
    refine lv_iload hx hb dL_law_1121 (lv_at hl 0 rfl) ?_
    refine lv_i2l (v := lvN r.1) hx hb dL_law_1123 rfl ?_
    refine W.lcmp hx hb dL_law_1124 ?_
    refine lv_if_eq (tgt := 1130) hx hb dL_law_1125 rfl (fun _ => ?_) (fun hc => absurd (by rw [hw9, hw8]; exact lg_cmp_self _) hc)
    refine lv_goto (tgt := 2797) hx hb dL_law_1130 rfl ?_
    refine W.widen (k := cells + 13) (n := slots + 151) (by omega) (by omega) ?_
    exact kk _ _ _ H ls (hnx _ hn) Wd (lv_sub hl [2, 3, 4, 5, 6] rfl)
set_option maxRecDepth 20000 in
set_option maxHeartbeats 4000000 in
theorem L_case_14 {p : Program} {l : Launch} {e : Env} {s : State} {m : MethodId} {args : Array Value} {below : List Frame} {meth : Method} {c : Code} {H : Heap} {cells slots : Nat} {Q : State → Prop} {ls : Array Slot} {D : cD} {Φ : cG} {Dm : mD} {mb o : Nat} {cL : ClassId} {b L : Nat} {xs : Nat → Int32} {S : cS} {σ : mS} {w : Int64} {i : Int32} (hl9 : l.stackTraces = false) (X : lX p s m args meth c D Φ Dm mb o cL b L xs) {Sim Sim1 : cS → mS → Prop} (hsim : sim_weight Sim Sim1) (hrc : rc S (some 1) 11 = some 1) (hin : lIn i L) (Wd : lWd D Φ Dm mb o cL s.heap S σ w H) (hS : Sim S σ) (hl : lv_has ls 7 (lLv Φ b mb o i)) (hf : cells + 13 ≤ 601024 ∧ slots + 151 ≤ 7293034) (kk : ∀ (S1 : cS) (σ1 : mS) (w1 : Int64) (H1 : Heap) (ls1 : Array Slot), Sim1 S1 σ1 → lWd D Φ Dm mb o cL s.heap S1 σ1 w1 H1 → lv_has ls1 7 (lLv Φ b mb o i) → W p l e lR s m args below meth c H1 [] (cells + 13) (slots + 151) Q (F0 m 2797 ls1 [])) : W p l e lR s m args below meth c H [] cells slots Q (F0 m 1133 ls []) := by
  have hx := X.1.1
  have hb := X.1.2.1
  have hts := X.1.2.2.2.2.1
  have hl : lv_has ls 7 [(0, .ref b), (1, cv Φ (some 1)), (2, .ref mb), (3, .ref o), (4, .int i)] := hl
  obtain ⟨q, r, hq, hr, hag, hnx⟩ := hsim S σ (xs (i + 1).toNatClampNeg) hS 
  refine c_aload_n hx hb dL_law_1133 rfl (lv_at hl 1 rfl) ?_
  refine lv_aload_n hx hb dL_law_1134 rfl (lv_at hl 0 rfl) ?_
  refine lv_iload hx hb dL_law_1135 (lv_at hl 4 rfl) ?_
  refine lv_iconst (v := 1) hx hb dL_law_1137 (by decide) ?_
  refine lv_iadd hx hb dL_law_1138 ?_
  refine l_sld X Wd hin.2.1 dL_law_1139 ?_
  refine lv_aload_n hx hb dL_law_1140 rfl (lv_at hl 3 rfl) ?_
  refine l_w1 (rest := []) (v := (r.2.2 81)) X Wd (K_L_weight l hl9 D Φ S o cL w 1 (xs (i + 1).toNatClampNeg) hrc hq hag.1) ⟨w_1087, ww_L_weight⟩ hy_L_weight rfl ⟨(Nat.le_of_ble_eq_true rfl), (Nat.le_of_ble_eq_true rfl)⟩ hl.1 (Nat.le_of_ble_eq_true rfl) dL_law_1141 rfl ⟨by omega, by omega⟩ (fun n9 w H hn hx9 Wd => ?_)
  refine c_istore hx hb dL_law_1144 hl (Nat.le_of_ble_eq_true rfl) (lvKa rfl (lvKa rfl (lvKa rfl (lvKa rfl (lvKi lvK0))))) rfl (fun ls (hl : lv_has ls 7 [(5, .int (r.2.2 81)), (0, .ref b), (1, cv Φ (some 1)), (2, .ref mb), (3, .ref o), (4, .int i)]) => ?_)
  refine lv_aload_n hx hb dL_law_1146 rfl (lv_at hl 3 rfl) ?_
  refine lv_aload_n hx hb dL_law_1147 rfl (lv_at hl 1 rfl) ?_
  refine lv_iload hx hb dL_law_1148 (lv_at hl 5 rfl) ?_
  refine lv_iconst (v := 1) hx hb dL_law_1150 (by decide) ?_
  refine lv_iadd hx hb dL_law_1151 ?_
  refine l_sld X Wd hin.2.1 dL_law_1152 ?_
  refine l_mw X Wd (l_mrun (n := 1) (rest := []) X Wd (K_weight l Dm mb σ (xs (i + 1).toNatClampNeg) hr) ⟨w_2011, w_2012, w_2013, w_2014⟩ (hyX rfl (by decide +kernel)) rfl ⟨(Nat.le_of_ble_eq_true rfl), (Nat.le_of_ble_eq_true rfl)⟩ hl.1 (Nat.le_of_ble_eq_true rfl) dL_law_1153 rfl ⟨by omega, by omega⟩) (fun H Wd => ?_)
  refine W.eq (g2 := F0 m 1156 ls [.int r.1]) rfl ?_
  refine c_istore hx hb dL_law_1156 hl (Nat.le_of_ble_eq_true rfl) (lvKi (lvKa rfl (lvKa rfl (lvKa rfl (lvKa rfl (lvKa rfl lvK0)))))) rfl (fun ls (hl : lv_has ls 7 [(6, .int r.1), (5, .int (r.2.2 81)), (0, .ref b), (1, cv Φ (some 1)), (2, .ref mb), (3, .ref o), (4, .int i)]) => ?_)
  refine lv_aload_n hx hb dL_law_1158 rfl (lv_at hl 4 rfl) ?_
  refine l_mr (l_mrun (n := 0) (rest := []) X Wd (K_thrown l Dm mb r.2 (r := r.2.2 81) rfl) ⟨w_1838, w_1839, w_1840, w_1841⟩ (hyX rfl (by decide +kernel)) rfl ⟨(Nat.le_of_ble_eq_true rfl), (Nat.le_of_ble_eq_true rfl)⟩ hl.1 (Nat.le_of_ble_eq_true rfl) dL_law_1159 rfl ⟨by omega, by omega⟩) ?_
  refine lv_iload hx hb dL_law_1162 (lv_at hl 1 rfl) ?_
  refine lv_icmp_eq (tgt := 1169) hx hb dL_law_1164 rfl (fun _ => ?_) (fun hc => absurd rfl hc)
  refine lv_iload hx hb dL_law_1169 (lv_at hl 1 rfl) ?_
  refine lv_if_ne (tgt := 1186) hx hb dL_law_1171 rfl (fun hc => ?_) (fun hc => ?_)
  · refine lv_goto (tgt := 2797) hx hb dL_law_1186 rfl ?_
    refine W.widen (k := cells + 13) (n := slots + 151) (by omega) (by omega) ?_
    exact kk _ _ _ H ls (hnx _ hn) Wd (lv_sub hl [2, 3, 4, 5, 6] rfl)
  · obtain ⟨u, hu⟩ := lcd_z1 hag.1 hc
    have hw9 := hx9 u hu
    have hw8 := hag.2 u hu
    refine lv_aload_n hx hb dL_law_1174 rfl (lv_at hl 5 rfl) ?_
    refine lv_iconst (v := 0) hx hb dL_law_1175 (by decide) ?_
    refine l_lald X Wd dL_law_1176 ?_
    refine lv_iload hx hb dL_law_1177 (lv_at hl 0 rfl) ?_
    refine lv_i2l (v := lvN r.1) hx hb dL_law_1179 rfl ?_
    refine W.lcmp hx hb dL_law_1180 ?_
    refine lv_if_eq (tgt := 1186) hx hb dL_law_1181 rfl (fun _ => ?_) (fun hc => absurd (by rw [hw9, hw8]; exact lg_cmp_self _) hc)
    refine lv_goto (tgt := 2797) hx hb dL_law_1186 rfl ?_
    refine W.widen (k := cells + 13) (n := slots + 151) (by omega) (by omega) ?_
    exact kk _ _ _ H ls (hnx _ hn) Wd (lv_sub hl [2, 3, 4, 5, 6] rfl)
set_option maxRecDepth 20000 in
set_option maxHeartbeats 4000000 in
theorem L_case_15 {p : Program} {l : Launch} {e : Env} {s : State} {m : MethodId} {args : Array Value} {below : List Frame} {meth : Method} {c : Code} {H : Heap} {cells slots : Nat} {Q : State → Prop} {ls : Array Slot} {D : cD} {Φ : cG} {Dm : mD} {mb o : Nat} {cL : ClassId} {b L : Nat} {xs : Nat → Int32} {S : cS} {σ : mS} {w : Int64} {i : Int32} (hl9 : l.stackTraces = false) (X : lX p s m args meth c D Φ Dm mb o cL b L xs) {Sim Sim1 : cS → mS → Prop} (hsim : sim_matches Sim Sim1) (hrc : rc S (some 1) 11 = some 1) (hin : lIn i L) (Wd : lWd D Φ Dm mb o cL s.heap S σ w H) (hS : Sim S σ) (hl : lv_has ls 7 (lLv Φ b mb o i)) (hf : cells + 13 ≤ 601024 ∧ slots + 151 ≤ 7293034) (kk : ∀ (S1 : cS) (σ1 : mS) (w1 : Int64) (H1 : Heap) (ls1 : Array Slot), Sim1 S1 σ1 → lWd D Φ Dm mb o cL s.heap S1 σ1 w1 H1 → lv_has ls1 7 (lLv Φ b mb o i) → W p l e lR s m args below meth c H1 [] (cells + 13) (slots + 151) Q (F0 m 2797 ls1 [])) : W p l e lR s m args below meth c H [] cells slots Q (F0 m 1189 ls []) := by
  have hx := X.1.1
  have hb := X.1.2.1
  have hts := X.1.2.2.2.2.1
  have hl : lv_has ls 7 [(0, .ref b), (1, cv Φ (some 1)), (2, .ref mb), (3, .ref o), (4, .int i)] := hl
  obtain ⟨q, r, hq, hr, hag, hnx⟩ := hsim S σ (xs (i + 1).toNatClampNeg) (xs (i + 2).toNatClampNeg) (xs (i + 3).toNatClampNeg) hS 
  refine c_aload_n hx hb dL_law_1189 rfl (lv_at hl 1 rfl) ?_
  refine lv_aload_n hx hb dL_law_1190 rfl (lv_at hl 0 rfl) ?_
  refine lv_iload hx hb dL_law_1191 (lv_at hl 4 rfl) ?_
  refine lv_iconst (v := 1) hx hb dL_law_1193 (by decide) ?_
  refine lv_iadd hx hb dL_law_1194 ?_
  refine l_sld X Wd hin.2.1 dL_law_1195 ?_
  refine lv_aload_n hx hb dL_law_1196 rfl (lv_at hl 0 rfl) ?_
  refine lv_iload hx hb dL_law_1197 (lv_at hl 4 rfl) ?_
  refine lv_iconst (v := 2) hx hb dL_law_1199 (by decide) ?_
  refine lv_iadd hx hb dL_law_1200 ?_
  refine l_sld X Wd hin.2.2.1 dL_law_1201 ?_
  refine lv_aload_n hx hb dL_law_1202 rfl (lv_at hl 0 rfl) ?_
  refine lv_iload hx hb dL_law_1203 (lv_at hl 4 rfl) ?_
  refine lv_iconst (v := 3) hx hb dL_law_1205 (by decide) ?_
  refine lv_iadd hx hb dL_law_1206 ?_
  refine l_sld X Wd hin.2.2.2.1 dL_law_1207 ?_
  refine lv_aload_n hx hb dL_law_1208 rfl (lv_at hl 3 rfl) ?_
  refine l_w1 (rest := []) (v := (r.2.2 81)) X Wd (K_L_matches l hl9 D Φ S o cL w 1 (xs (i + 1).toNatClampNeg) (xs (i + 2).toNatClampNeg) (xs (i + 3).toNatClampNeg) hrc hq hag.1) ⟨w_1098, ww_L_matches⟩ hy_L_matches rfl ⟨(Nat.le_of_ble_eq_true rfl), (Nat.le_of_ble_eq_true rfl)⟩ hl.1 (Nat.le_of_ble_eq_true rfl) dL_law_1209 rfl ⟨by omega, by omega⟩ (fun n9 w H hn hx9 Wd => ?_)
  refine c_istore hx hb dL_law_1212 hl (Nat.le_of_ble_eq_true rfl) (lvKa rfl (lvKa rfl (lvKa rfl (lvKa rfl (lvKi lvK0))))) rfl (fun ls (hl : lv_has ls 7 [(5, .int (r.2.2 81)), (0, .ref b), (1, cv Φ (some 1)), (2, .ref mb), (3, .ref o), (4, .int i)]) => ?_)
  refine lv_aload_n hx hb dL_law_1214 rfl (lv_at hl 3 rfl) ?_
  refine lv_aload_n hx hb dL_law_1215 rfl (lv_at hl 1 rfl) ?_
  refine lv_iload hx hb dL_law_1216 (lv_at hl 5 rfl) ?_
  refine lv_iconst (v := 1) hx hb dL_law_1218 (by decide) ?_
  refine lv_iadd hx hb dL_law_1219 ?_
  refine l_sld X Wd hin.2.1 dL_law_1220 ?_
  refine lv_aload_n hx hb dL_law_1221 rfl (lv_at hl 1 rfl) ?_
  refine lv_iload hx hb dL_law_1222 (lv_at hl 5 rfl) ?_
  refine lv_iconst (v := 2) hx hb dL_law_1224 (by decide) ?_
  refine lv_iadd hx hb dL_law_1225 ?_
  refine l_sld X Wd hin.2.2.1 dL_law_1226 ?_
  refine lv_aload_n hx hb dL_law_1227 rfl (lv_at hl 1 rfl) ?_
  refine lv_iload hx hb dL_law_1228 (lv_at hl 5 rfl) ?_
  refine lv_iconst (v := 3) hx hb dL_law_1230 (by decide) ?_
  refine lv_iadd hx hb dL_law_1231 ?_
  refine l_sld X Wd hin.2.2.2.1 dL_law_1232 ?_
  refine l_mw X Wd (l_mrun (n := 3) (rest := []) X Wd (K_matches l Dm mb σ (xs (i + 1).toNatClampNeg) (xs (i + 2).toNatClampNeg) (xs (i + 3).toNatClampNeg) hr) ⟨w_2019, w_2020, w_2021, w_2022⟩ (hyX rfl (by decide +kernel)) rfl ⟨(Nat.le_of_ble_eq_true rfl), (Nat.le_of_ble_eq_true rfl)⟩ hl.1 (Nat.le_of_ble_eq_true rfl) dL_law_1233 rfl ⟨by omega, by omega⟩) (fun H Wd => ?_)
  refine W.eq (g2 := F0 m 1236 ls [.int r.1]) rfl ?_
  refine c_istore hx hb dL_law_1236 hl (Nat.le_of_ble_eq_true rfl) (lvKi (lvKa rfl (lvKa rfl (lvKa rfl (lvKa rfl (lvKa rfl lvK0)))))) rfl (fun ls (hl : lv_has ls 7 [(6, .int r.1), (5, .int (r.2.2 81)), (0, .ref b), (1, cv Φ (some 1)), (2, .ref mb), (3, .ref o), (4, .int i)]) => ?_)
  refine lv_aload_n hx hb dL_law_1238 rfl (lv_at hl 4 rfl) ?_
  refine l_mr (l_mrun (n := 0) (rest := []) X Wd (K_thrown l Dm mb r.2 (r := r.2.2 81) rfl) ⟨w_1838, w_1839, w_1840, w_1841⟩ (hyX rfl (by decide +kernel)) rfl ⟨(Nat.le_of_ble_eq_true rfl), (Nat.le_of_ble_eq_true rfl)⟩ hl.1 (Nat.le_of_ble_eq_true rfl) dL_law_1239 rfl ⟨by omega, by omega⟩) ?_
  refine lv_iload hx hb dL_law_1242 (lv_at hl 1 rfl) ?_
  refine lv_icmp_eq (tgt := 1249) hx hb dL_law_1244 rfl (fun _ => ?_) (fun hc => absurd rfl hc)
  refine lv_iload hx hb dL_law_1249 (lv_at hl 1 rfl) ?_
  refine lv_if_ne (tgt := 1273) hx hb dL_law_1251 rfl (fun hc => ?_) (fun hc => ?_)
  · refine lv_goto (tgt := 2797) hx hb dL_law_1273 rfl ?_
    refine W.widen (k := cells + 13) (n := slots + 151) (by omega) (by omega) ?_
    exact kk _ _ _ H ls (hnx _ hn) Wd (lv_sub hl [2, 3, 4, 5, 6] rfl)
  · obtain ⟨u, hu⟩ := lcd_z1 hag.1 hc
    have hw9 := hx9 u hu
    have hw8 := hag.2 u hu
    refine lv_aload_n hx hb dL_law_1254 rfl (lv_at hl 5 rfl) ?_
    refine lv_iconst (v := 0) hx hb dL_law_1255 (by decide) ?_
    refine l_lald X Wd dL_law_1256 ?_
    refine lv_iload hx hb dL_law_1257 (lv_at hl 0 rfl) ?_
    refine l_ternL hx hb dL_law_1259 dL_law_1262 dL_law_1263 dL_law_1266 ?_
    refine W.lcmp hx hb dL_law_1267 ?_
    refine lv_if_eq (tgt := 1273) hx hb dL_law_1268 rfl (fun _ => ?_) (fun hc => absurd (by rw [hw9, hw8]; exact lg_cmp_self _) hc)
    refine lv_goto (tgt := 2797) hx hb dL_law_1273 rfl ?_
    refine W.widen (k := cells + 13) (n := slots + 151) (by omega) (by omega) ?_
    exact kk _ _ _ H ls (hnx _ hn) Wd (lv_sub hl [2, 3, 4, 5, 6] rfl)
set_option maxRecDepth 20000 in
set_option maxHeartbeats 4000000 in
theorem L_case_16 {p : Program} {l : Launch} {e : Env} {s : State} {m : MethodId} {args : Array Value} {below : List Frame} {meth : Method} {c : Code} {H : Heap} {cells slots : Nat} {Q : State → Prop} {ls : Array Slot} {D : cD} {Φ : cG} {Dm : mD} {mb o : Nat} {cL : ClassId} {b L : Nat} {xs : Nat → Int32} {S : cS} {σ : mS} {w : Int64} {i : Int32} (hl9 : l.stackTraces = false) (X : lX p s m args meth c D Φ Dm mb o cL b L xs) {Sim Sim1 : cS → mS → Prop} (hsim : sim_allThat Sim Sim1) (hrc : rc S (some 1) 11 = some 1) (hin : lIn i L) (Wd : lWd D Φ Dm mb o cL s.heap S σ w H) (hS : Sim S σ) (hl : lv_has ls 7 (lLv Φ b mb o i)) (hf : cells + 13 ≤ 601024 ∧ slots + 151 ≤ 7293034) (kk : ∀ (S1 : cS) (σ1 : mS) (w1 : Int64) (H1 : Heap) (ls1 : Array Slot), Sim1 S1 σ1 → lWd D Φ Dm mb o cL s.heap S1 σ1 w1 H1 → lv_has ls1 7 (lLv Φ b mb o i) → W p l e lR s m args below meth c H1 [] (cells + 13) (slots + 151) Q (F0 m 2797 ls1 [])) : W p l e lR s m args below meth c H [] cells slots Q (F0 m 1276 ls []) := by
  have hx := X.1.1
  have hb := X.1.2.1
  have hts := X.1.2.2.2.2.1
  have hl : lv_has ls 7 [(0, .ref b), (1, cv Φ (some 1)), (2, .ref mb), (3, .ref o), (4, .int i)] := hl
  obtain ⟨q, r, hq, hr, hag, hnx⟩ := hsim S σ (xs (i + 1).toNatClampNeg) (xs (i + 2).toNatClampNeg) hS 
  refine c_aload_n hx hb dL_law_1276 rfl (lv_at hl 1 rfl) ?_
  refine lv_aload_n hx hb dL_law_1277 rfl (lv_at hl 0 rfl) ?_
  refine lv_iload hx hb dL_law_1278 (lv_at hl 4 rfl) ?_
  refine lv_iconst (v := 1) hx hb dL_law_1280 (by decide) ?_
  refine lv_iadd hx hb dL_law_1281 ?_
  refine l_sld X Wd hin.2.1 dL_law_1282 ?_
  refine lv_aload_n hx hb dL_law_1283 rfl (lv_at hl 0 rfl) ?_
  refine lv_iload hx hb dL_law_1284 (lv_at hl 4 rfl) ?_
  refine lv_iconst (v := 2) hx hb dL_law_1286 (by decide) ?_
  refine lv_iadd hx hb dL_law_1287 ?_
  refine l_sld X Wd hin.2.2.1 dL_law_1288 ?_
  refine lv_aload_n hx hb dL_law_1289 rfl (lv_at hl 3 rfl) ?_
  refine l_w1 (rest := []) (v := (r.2.2 81)) X Wd (K_L_allThat l hl9 D Φ S o cL w 1 (xs (i + 1).toNatClampNeg) (xs (i + 2).toNatClampNeg) hrc hq hag.1) ⟨w_1152, ww_L_allThat⟩ hy_L_allThat rfl ⟨(Nat.le_of_ble_eq_true rfl), (Nat.le_of_ble_eq_true rfl)⟩ hl.1 (Nat.le_of_ble_eq_true rfl) dL_law_1290 rfl ⟨by omega, by omega⟩ (fun n9 w H hn hx9 Wd => ?_)
  refine c_istore hx hb dL_law_1293 hl (Nat.le_of_ble_eq_true rfl) (lvKa rfl (lvKa rfl (lvKa rfl (lvKa rfl (lvKi lvK0))))) rfl (fun ls (hl : lv_has ls 7 [(5, .int (r.2.2 81)), (0, .ref b), (1, cv Φ (some 1)), (2, .ref mb), (3, .ref o), (4, .int i)]) => ?_)
  refine lv_aload_n hx hb dL_law_1295 rfl (lv_at hl 3 rfl) ?_
  refine lv_aload_n hx hb dL_law_1296 rfl (lv_at hl 1 rfl) ?_
  refine lv_iload hx hb dL_law_1297 (lv_at hl 5 rfl) ?_
  refine lv_iconst (v := 1) hx hb dL_law_1299 (by decide) ?_
  refine lv_iadd hx hb dL_law_1300 ?_
  refine l_sld X Wd hin.2.1 dL_law_1301 ?_
  refine lv_aload_n hx hb dL_law_1302 rfl (lv_at hl 1 rfl) ?_
  refine lv_iload hx hb dL_law_1303 (lv_at hl 5 rfl) ?_
  refine lv_iconst (v := 2) hx hb dL_law_1305 (by decide) ?_
  refine lv_iadd hx hb dL_law_1306 ?_
  refine l_sld X Wd hin.2.2.1 dL_law_1307 ?_
  refine l_mw X Wd (l_mrun (n := 2) (rest := []) X Wd (K_allThat l Dm mb σ (xs (i + 1).toNatClampNeg) (xs (i + 2).toNatClampNeg) hr) ⟨w_2067, w_2068, w_2069, w_2070⟩ (hyX rfl (by decide +kernel)) rfl ⟨(Nat.le_of_ble_eq_true rfl), (Nat.le_of_ble_eq_true rfl)⟩ hl.1 (Nat.le_of_ble_eq_true rfl) dL_law_1308 rfl ⟨by omega, by omega⟩) (fun H Wd => ?_)
  refine W.eq (g2 := F0 m 1311 ls [.int r.1]) rfl ?_
  refine c_istore hx hb dL_law_1311 hl (Nat.le_of_ble_eq_true rfl) (lvKi (lvKa rfl (lvKa rfl (lvKa rfl (lvKa rfl (lvKa rfl lvK0)))))) rfl (fun ls (hl : lv_has ls 7 [(6, .int r.1), (5, .int (r.2.2 81)), (0, .ref b), (1, cv Φ (some 1)), (2, .ref mb), (3, .ref o), (4, .int i)]) => ?_)
  refine lv_aload_n hx hb dL_law_1313 rfl (lv_at hl 4 rfl) ?_
  refine l_mr (l_mrun (n := 0) (rest := []) X Wd (K_thrown l Dm mb r.2 (r := r.2.2 81) rfl) ⟨w_1838, w_1839, w_1840, w_1841⟩ (hyX rfl (by decide +kernel)) rfl ⟨(Nat.le_of_ble_eq_true rfl), (Nat.le_of_ble_eq_true rfl)⟩ hl.1 (Nat.le_of_ble_eq_true rfl) dL_law_1314 rfl ⟨by omega, by omega⟩) ?_
  refine lv_iload hx hb dL_law_1317 (lv_at hl 1 rfl) ?_
  refine lv_icmp_eq (tgt := 1324) hx hb dL_law_1319 rfl (fun _ => ?_) (fun hc => absurd rfl hc)
  refine lv_iload hx hb dL_law_1324 (lv_at hl 1 rfl) ?_
  refine lv_if_ne (tgt := 1341) hx hb dL_law_1326 rfl (fun hc => ?_) (fun hc => ?_)
  · refine lv_goto (tgt := 2797) hx hb dL_law_1341 rfl ?_
    refine W.widen (k := cells + 13) (n := slots + 151) (by omega) (by omega) ?_
    exact kk _ _ _ H ls (hnx _ hn) Wd (lv_sub hl [2, 3, 4, 5, 6] rfl)
  · obtain ⟨u, hu⟩ := lcd_z1 hag.1 hc
    have hw9 := hx9 u hu
    have hw8 := hag.2 u hu
    refine lv_aload_n hx hb dL_law_1329 rfl (lv_at hl 5 rfl) ?_
    refine lv_iconst (v := 0) hx hb dL_law_1330 (by decide) ?_
    refine l_lald X Wd dL_law_1331 ?_
    refine lv_iload hx hb dL_law_1332 (lv_at hl 0 rfl) ?_
    refine lv_i2l (v := lvN r.1) hx hb dL_law_1334 rfl ?_
    refine W.lcmp hx hb dL_law_1335 ?_
    refine lv_if_eq (tgt := 1341) hx hb dL_law_1336 rfl (fun _ => ?_) (fun hc => absurd (by rw [hw9, hw8]; exact lg_cmp_self _) hc)
    refine lv_goto (tgt := 2797) hx hb dL_law_1341 rfl ?_
    refine W.widen (k := cells + 13) (n := slots + 151) (by omega) (by omega) ?_
    exact kk _ _ _ H ls (hnx _ hn) Wd (lv_sub hl [2, 3, 4, 5, 6] rfl)
set_option maxRecDepth 20000 in
set_option maxHeartbeats 4000000 in
theorem L_case_17 {p : Program} {l : Launch} {e : Env} {s : State} {m : MethodId} {args : Array Value} {below : List Frame} {meth : Method} {c : Code} {H : Heap} {cells slots : Nat} {Q : State → Prop} {ls : Array Slot} {D : cD} {Φ : cG} {Dm : mD} {mb o : Nat} {cL : ClassId} {b L : Nat} {xs : Nat → Int32} {S : cS} {σ : mS} {w : Int64} {i : Int32} (hl9 : l.stackTraces = false) (X : lX p s m args meth c D Φ Dm mb o cL b L xs) {Sim Sim1 : cS → mS → Prop} (hsim : sim_sheet Sim Sim1) (hrc : rc S (some 1) 11 = some 1) (hin : lIn i L) (Wd : lWd D Φ Dm mb o cL s.heap S σ w H) (hS : Sim S σ) (hl : lv_has ls 7 (lLv Φ b mb o i)) (hf : cells + 13 ≤ 601024 ∧ slots + 151 ≤ 7293034) (kk : ∀ (S1 : cS) (σ1 : mS) (w1 : Int64) (H1 : Heap) (ls1 : Array Slot), Sim1 S1 σ1 → lWd D Φ Dm mb o cL s.heap S1 σ1 w1 H1 → lv_has ls1 7 (lLv Φ b mb o i) → W p l e lR s m args below meth c H1 [] (cells + 13) (slots + 151) Q (F0 m 2797 ls1 [])) : W p l e lR s m args below meth c H [] cells slots Q (F0 m 1344 ls []) := by
  have hx := X.1.1
  have hb := X.1.2.1
  have hts := X.1.2.2.2.2.1
  have hl : lv_has ls 7 [(0, .ref b), (1, cv Φ (some 1)), (2, .ref mb), (3, .ref o), (4, .int i)] := hl
  obtain ⟨q, r, hq, hr, hag, hnx⟩ := hsim S σ (xs (i + 1).toNatClampNeg) (xs (i + 2).toNatClampNeg) (xs (i + 3).toNatClampNeg) hS 
  refine c_aload_n hx hb dL_law_1344 rfl (lv_at hl 1 rfl) ?_
  refine lv_aload_n hx hb dL_law_1345 rfl (lv_at hl 0 rfl) ?_
  refine lv_iload hx hb dL_law_1346 (lv_at hl 4 rfl) ?_
  refine lv_iconst (v := 1) hx hb dL_law_1348 (by decide) ?_
  refine lv_iadd hx hb dL_law_1349 ?_
  refine l_sld X Wd hin.2.1 dL_law_1350 ?_
  refine lv_aload_n hx hb dL_law_1351 rfl (lv_at hl 0 rfl) ?_
  refine lv_iload hx hb dL_law_1352 (lv_at hl 4 rfl) ?_
  refine lv_iconst (v := 2) hx hb dL_law_1354 (by decide) ?_
  refine lv_iadd hx hb dL_law_1355 ?_
  refine l_sld X Wd hin.2.2.1 dL_law_1356 ?_
  refine lv_aload_n hx hb dL_law_1357 rfl (lv_at hl 0 rfl) ?_
  refine lv_iload hx hb dL_law_1358 (lv_at hl 4 rfl) ?_
  refine lv_iconst (v := 3) hx hb dL_law_1360 (by decide) ?_
  refine lv_iadd hx hb dL_law_1361 ?_
  refine l_sld X Wd hin.2.2.2.1 dL_law_1362 ?_
  refine lv_aload_n hx hb dL_law_1363 rfl (lv_at hl 3 rfl) ?_
  refine l_w1 (rest := []) (v := (r.2.2 81)) X Wd (K_L_sheet l hl9 D Φ S o cL w 1 (xs (i + 1).toNatClampNeg) (xs (i + 2).toNatClampNeg) (xs (i + 3).toNatClampNeg) hrc hq hag.1) ⟨w_1159, ww_L_sheet⟩ hy_L_sheet rfl ⟨(Nat.le_of_ble_eq_true rfl), (Nat.le_of_ble_eq_true rfl)⟩ hl.1 (Nat.le_of_ble_eq_true rfl) dL_law_1364 rfl ⟨by omega, by omega⟩ (fun n9 w H hn hx9 Wd => ?_)
  refine c_istore hx hb dL_law_1367 hl (Nat.le_of_ble_eq_true rfl) (lvKa rfl (lvKa rfl (lvKa rfl (lvKa rfl (lvKi lvK0))))) rfl (fun ls (hl : lv_has ls 7 [(5, .int (r.2.2 81)), (0, .ref b), (1, cv Φ (some 1)), (2, .ref mb), (3, .ref o), (4, .int i)]) => ?_)
  refine lv_aload_n hx hb dL_law_1369 rfl (lv_at hl 3 rfl) ?_
  refine lv_aload_n hx hb dL_law_1370 rfl (lv_at hl 1 rfl) ?_
  refine lv_iload hx hb dL_law_1371 (lv_at hl 5 rfl) ?_
  refine lv_iconst (v := 1) hx hb dL_law_1373 (by decide) ?_
  refine lv_iadd hx hb dL_law_1374 ?_
  refine l_sld X Wd hin.2.1 dL_law_1375 ?_
  refine lv_aload_n hx hb dL_law_1376 rfl (lv_at hl 1 rfl) ?_
  refine lv_iload hx hb dL_law_1377 (lv_at hl 5 rfl) ?_
  refine lv_iconst (v := 2) hx hb dL_law_1379 (by decide) ?_
  refine lv_iadd hx hb dL_law_1380 ?_
  refine l_sld X Wd hin.2.2.1 dL_law_1381 ?_
  refine lv_aload_n hx hb dL_law_1382 rfl (lv_at hl 1 rfl) ?_
  refine lv_iload hx hb dL_law_1383 (lv_at hl 5 rfl) ?_
  refine lv_iconst (v := 3) hx hb dL_law_1385 (by decide) ?_
  refine lv_iadd hx hb dL_law_1386 ?_
  refine l_sld X Wd hin.2.2.2.1 dL_law_1387 ?_
  refine l_mw X Wd (l_mrun (n := 3) (rest := []) X Wd (K_sheet l Dm mb σ (xs (i + 1).toNatClampNeg) (xs (i + 2).toNatClampNeg) (xs (i + 3).toNatClampNeg) hr) ⟨w_2071, w_2072, w_2073, w_2074⟩ (hyX rfl (by decide +kernel)) rfl ⟨(Nat.le_of_ble_eq_true rfl), (Nat.le_of_ble_eq_true rfl)⟩ hl.1 (Nat.le_of_ble_eq_true rfl) dL_law_1388 rfl ⟨by omega, by omega⟩) (fun H Wd => ?_)
  refine W.eq (g2 := F0 m 1391 ls [.int r.1]) rfl ?_
  refine c_istore hx hb dL_law_1391 hl (Nat.le_of_ble_eq_true rfl) (lvKi (lvKa rfl (lvKa rfl (lvKa rfl (lvKa rfl (lvKa rfl lvK0)))))) rfl (fun ls (hl : lv_has ls 7 [(6, .int r.1), (5, .int (r.2.2 81)), (0, .ref b), (1, cv Φ (some 1)), (2, .ref mb), (3, .ref o), (4, .int i)]) => ?_)
  refine lv_aload_n hx hb dL_law_1393 rfl (lv_at hl 4 rfl) ?_
  refine l_mr (l_mrun (n := 0) (rest := []) X Wd (K_thrown l Dm mb r.2 (r := r.2.2 81) rfl) ⟨w_1838, w_1839, w_1840, w_1841⟩ (hyX rfl (by decide +kernel)) rfl ⟨(Nat.le_of_ble_eq_true rfl), (Nat.le_of_ble_eq_true rfl)⟩ hl.1 (Nat.le_of_ble_eq_true rfl) dL_law_1394 rfl ⟨by omega, by omega⟩) ?_
  refine lv_iload hx hb dL_law_1397 (lv_at hl 1 rfl) ?_
  refine lv_icmp_eq (tgt := 1404) hx hb dL_law_1399 rfl (fun _ => ?_) (fun hc => absurd rfl hc)
  refine lv_iload hx hb dL_law_1404 (lv_at hl 1 rfl) ?_
  refine lv_if_ne (tgt := 1421) hx hb dL_law_1406 rfl (fun hc => ?_) (fun hc => ?_)
  · refine lv_goto (tgt := 2797) hx hb dL_law_1421 rfl ?_
    refine W.widen (k := cells + 13) (n := slots + 151) (by omega) (by omega) ?_
    exact kk _ _ _ H ls (hnx _ hn) Wd (lv_sub hl [2, 3, 4, 5, 6] rfl)
  · obtain ⟨u, hu⟩ := lcd_z3 hag.1 hc
    have hw9 := hx9 u hu
    have hw8 := hag.2 u hu
    refine lv_aload_n hx hb dL_law_1409 rfl (lv_at hl 5 rfl) ?_
    refine lv_iconst (v := 0) hx hb dL_law_1410 (by decide) ?_
    refine l_lald X Wd dL_law_1411 ?_
    refine lv_iload hx hb dL_law_1412 (lv_at hl 0 rfl) ?_
    refine lv_i2l (v := lvN r.1) hx hb dL_law_1414 rfl ?_
    refine W.lcmp hx hb dL_law_1415 ?_
    refine lv_if_eq (tgt := 1421) hx hb dL_law_1416 rfl (fun _ => ?_) (fun hc => absurd (by rw [hw9, hw8]; exact lg_cmp_self _) hc)
    refine lv_goto (tgt := 2797) hx hb dL_law_1421 rfl ?_
    refine W.widen (k := cells + 13) (n := slots + 151) (by omega) (by omega) ?_
    exact kk _ _ _ H ls (hnx _ hn) Wd (lv_sub hl [2, 3, 4, 5, 6] rfl)
set_option maxRecDepth 20000 in
set_option maxHeartbeats 4000000 in
theorem L_case_18 {p : Program} {l : Launch} {e : Env} {s : State} {m : MethodId} {args : Array Value} {below : List Frame} {meth : Method} {c : Code} {H : Heap} {cells slots : Nat} {Q : State → Prop} {ls : Array Slot} {D : cD} {Φ : cG} {Dm : mD} {mb o : Nat} {cL : ClassId} {b L : Nat} {xs : Nat → Int32} {S : cS} {σ : mS} {w : Int64} {i : Int32} (hl9 : l.stackTraces = false) (X : lX p s m args meth c D Φ Dm mb o cL b L xs) {Sim Sim1 : cS → mS → Prop} (hsim : sim_turn Sim Sim1) (hrc : rc S (some 1) 11 = some 1) (hin : lIn i L) (Wd : lWd D Φ Dm mb o cL s.heap S σ w H) (hS : Sim S σ) (hl : lv_has ls 7 (lLv Φ b mb o i)) (hf : cells + 13 ≤ 601024 ∧ slots + 151 ≤ 7293034) (kk : ∀ (S1 : cS) (σ1 : mS) (w1 : Int64) (H1 : Heap) (ls1 : Array Slot), Sim1 S1 σ1 → lWd D Φ Dm mb o cL s.heap S1 σ1 w1 H1 → lv_has ls1 7 (lLv Φ b mb o i) → W p l e lR s m args below meth c H1 [] (cells + 13) (slots + 151) Q (F0 m 2797 ls1 [])) : W p l e lR s m args below meth c H [] cells slots Q (F0 m 1424 ls []) := by
  have hx := X.1.1
  have hb := X.1.2.1
  have hts := X.1.2.2.2.2.1
  have hl : lv_has ls 7 [(0, .ref b), (1, cv Φ (some 1)), (2, .ref mb), (3, .ref o), (4, .int i)] := hl
  obtain ⟨q, r, hq, hr, hag, hnx⟩ := hsim S σ (xs (i + 1).toNatClampNeg) (lz (xs (i + 2).toNatClampNeg)) hS (lz_01 _)
  refine c_aload_n hx hb dL_law_1424 rfl (lv_at hl 1 rfl) ?_
  refine lv_aload_n hx hb dL_law_1425 rfl (lv_at hl 0 rfl) ?_
  refine lv_iload hx hb dL_law_1426 (lv_at hl 4 rfl) ?_
  refine lv_iconst (v := 1) hx hb dL_law_1428 (by decide) ?_
  refine lv_iadd hx hb dL_law_1429 ?_
  refine l_sld X Wd hin.2.1 dL_law_1430 ?_
  refine lv_aload_n hx hb dL_law_1431 rfl (lv_at hl 0 rfl) ?_
  refine lv_iload hx hb dL_law_1432 (lv_at hl 4 rfl) ?_
  refine lv_iconst (v := 2) hx hb dL_law_1434 (by decide) ?_
  refine lv_iadd hx hb dL_law_1435 ?_
  refine l_sld X Wd hin.2.2.1 dL_law_1436 ?_
  refine l_tern hx hb dL_law_1437 dL_law_1440 dL_law_1441 dL_law_1444 ?_
  refine lv_aload_n hx hb dL_law_1445 rfl (lv_at hl 3 rfl) ?_
  refine l_w1 (rest := []) (v := (r.2.2 81)) X Wd (K_L_turn l hl9 D Φ S o cL w 1 (xs (i + 1).toNatClampNeg) (lz (xs (i + 2).toNatClampNeg)) hrc hq hag.1) ⟨w_1197, ww_L_turn⟩ hy_L_turn rfl ⟨(Nat.le_of_ble_eq_true rfl), (Nat.le_of_ble_eq_true rfl)⟩ hl.1 (Nat.le_of_ble_eq_true rfl) dL_law_1446 rfl ⟨by omega, by omega⟩ (fun n9 w H hn hx9 Wd => ?_)
  refine c_istore hx hb dL_law_1449 hl (Nat.le_of_ble_eq_true rfl) (lvKa rfl (lvKa rfl (lvKa rfl (lvKa rfl (lvKi lvK0))))) rfl (fun ls (hl : lv_has ls 7 [(5, .int (r.2.2 81)), (0, .ref b), (1, cv Φ (some 1)), (2, .ref mb), (3, .ref o), (4, .int i)]) => ?_)
  refine lv_aload_n hx hb dL_law_1451 rfl (lv_at hl 3 rfl) ?_
  refine lv_aload_n hx hb dL_law_1452 rfl (lv_at hl 1 rfl) ?_
  refine lv_iload hx hb dL_law_1453 (lv_at hl 5 rfl) ?_
  refine lv_iconst (v := 1) hx hb dL_law_1455 (by decide) ?_
  refine lv_iadd hx hb dL_law_1456 ?_
  refine l_sld X Wd hin.2.1 dL_law_1457 ?_
  refine lv_aload_n hx hb dL_law_1458 rfl (lv_at hl 1 rfl) ?_
  refine lv_iload hx hb dL_law_1459 (lv_at hl 5 rfl) ?_
  refine lv_iconst (v := 2) hx hb dL_law_1461 (by decide) ?_
  refine lv_iadd hx hb dL_law_1462 ?_
  refine l_sld X Wd hin.2.2.1 dL_law_1463 ?_
  refine l_tern hx hb dL_law_1464 dL_law_1467 dL_law_1468 dL_law_1471 ?_
  refine l_mw X Wd (l_mrun (n := 2) (rest := []) X Wd (K_turn l Dm mb σ (xs (i + 1).toNatClampNeg) (lz (xs (i + 2).toNatClampNeg)) hr) ⟨w_2075, w_2076, w_2077, w_2078⟩ (hyX rfl (by decide +kernel)) rfl ⟨(Nat.le_of_ble_eq_true rfl), (Nat.le_of_ble_eq_true rfl)⟩ hl.1 (Nat.le_of_ble_eq_true rfl) dL_law_1472 rfl ⟨by omega, by omega⟩) (fun H Wd => ?_)
  refine W.eq (g2 := F0 m 1475 ls [.int r.1]) rfl ?_
  refine c_istore hx hb dL_law_1475 hl (Nat.le_of_ble_eq_true rfl) (lvKi (lvKa rfl (lvKa rfl (lvKa rfl (lvKa rfl (lvKa rfl lvK0)))))) rfl (fun ls (hl : lv_has ls 7 [(6, .int r.1), (5, .int (r.2.2 81)), (0, .ref b), (1, cv Φ (some 1)), (2, .ref mb), (3, .ref o), (4, .int i)]) => ?_)
  refine lv_aload_n hx hb dL_law_1477 rfl (lv_at hl 4 rfl) ?_
  refine l_mr (l_mrun (n := 0) (rest := []) X Wd (K_thrown l Dm mb r.2 (r := r.2.2 81) rfl) ⟨w_1838, w_1839, w_1840, w_1841⟩ (hyX rfl (by decide +kernel)) rfl ⟨(Nat.le_of_ble_eq_true rfl), (Nat.le_of_ble_eq_true rfl)⟩ hl.1 (Nat.le_of_ble_eq_true rfl) dL_law_1478 rfl ⟨by omega, by omega⟩) ?_
  refine lv_iload hx hb dL_law_1481 (lv_at hl 1 rfl) ?_
  refine lv_icmp_eq (tgt := 1488) hx hb dL_law_1483 rfl (fun _ => ?_) (fun hc => absurd rfl hc)
  refine lv_iload hx hb dL_law_1488 (lv_at hl 1 rfl) ?_
  refine lv_if_ne (tgt := 1512) hx hb dL_law_1490 rfl (fun hc => ?_) (fun hc => ?_)
  · refine lv_goto (tgt := 2797) hx hb dL_law_1512 rfl ?_
    refine W.widen (k := cells + 13) (n := slots + 151) (by omega) (by omega) ?_
    exact kk _ _ _ H ls (hnx _ hn) Wd (lv_sub hl [2, 3, 4, 5, 6] rfl)
  · obtain ⟨u, hu⟩ := lcd_z1 hag.1 hc
    have hw9 := hx9 u hu
    have hw8 := hag.2 u hu
    refine lv_aload_n hx hb dL_law_1493 rfl (lv_at hl 5 rfl) ?_
    refine lv_iconst (v := 0) hx hb dL_law_1494 (by decide) ?_
    refine l_lald X Wd dL_law_1495 ?_
    refine lv_iload hx hb dL_law_1496 (lv_at hl 0 rfl) ?_
    refine l_ternL hx hb dL_law_1498 dL_law_1501 dL_law_1502 dL_law_1505 ?_
    refine W.lcmp hx hb dL_law_1506 ?_
    refine lv_if_eq (tgt := 1512) hx hb dL_law_1507 rfl (fun _ => ?_) (fun hc => absurd (by rw [hw9, hw8]; exact lg_cmp_self _) hc)
    refine lv_goto (tgt := 2797) hx hb dL_law_1512 rfl ?_
    refine W.widen (k := cells + 13) (n := slots + 151) (by omega) (by omega) ?_
    exact kk _ _ _ H ls (hnx _ hn) Wd (lv_sub hl [2, 3, 4, 5, 6] rfl)
set_option maxRecDepth 20000 in
set_option maxHeartbeats 4000000 in
theorem L_case_19 {p : Program} {l : Launch} {e : Env} {s : State} {m : MethodId} {args : Array Value} {below : List Frame} {meth : Method} {c : Code} {H : Heap} {cells slots : Nat} {Q : State → Prop} {ls : Array Slot} {D : cD} {Φ : cG} {Dm : mD} {mb o : Nat} {cL : ClassId} {b L : Nat} {xs : Nat → Int32} {S : cS} {σ : mS} {w : Int64} {i : Int32} (hl9 : l.stackTraces = false) (X : lX p s m args meth c D Φ Dm mb o cL b L xs) {Sim Sim1 : cS → mS → Prop} (hsim : sim_rule Sim Sim1) (hrc : rc S (some 1) 11 = some 1) (hin : lIn i L) (Wd : lWd D Φ Dm mb o cL s.heap S σ w H) (hS : Sim S σ) (hl : lv_has ls 7 (lLv Φ b mb o i)) (hf : cells + 13 ≤ 601024 ∧ slots + 151 ≤ 7293034) (kk : ∀ (S1 : cS) (σ1 : mS) (w1 : Int64) (H1 : Heap) (ls1 : Array Slot), Sim1 S1 σ1 → lWd D Φ Dm mb o cL s.heap S1 σ1 w1 H1 → lv_has ls1 7 (lLv Φ b mb o i) → W p l e lR s m args below meth c H1 [] (cells + 13) (slots + 151) Q (F0 m 2797 ls1 [])) : W p l e lR s m args below meth c H [] cells slots Q (F0 m 1515 ls []) := by
  have hx := X.1.1
  have hb := X.1.2.1
  have hts := X.1.2.2.2.2.1
  have hl : lv_has ls 7 [(0, .ref b), (1, cv Φ (some 1)), (2, .ref mb), (3, .ref o), (4, .int i)] := hl
  obtain ⟨q, r, hq, hr, hag, hnx⟩ := hsim S σ (xs (i + 1).toNatClampNeg) (xs (i + 2).toNatClampNeg) hS 
  refine c_aload_n hx hb dL_law_1515 rfl (lv_at hl 1 rfl) ?_
  refine lv_aload_n hx hb dL_law_1516 rfl (lv_at hl 0 rfl) ?_
  refine lv_iload hx hb dL_law_1517 (lv_at hl 4 rfl) ?_
  refine lv_iconst (v := 1) hx hb dL_law_1519 (by decide) ?_
  refine lv_iadd hx hb dL_law_1520 ?_
  refine l_sld X Wd hin.2.1 dL_law_1521 ?_
  refine lv_aload_n hx hb dL_law_1522 rfl (lv_at hl 0 rfl) ?_
  refine lv_iload hx hb dL_law_1523 (lv_at hl 4 rfl) ?_
  refine lv_iconst (v := 2) hx hb dL_law_1525 (by decide) ?_
  refine lv_iadd hx hb dL_law_1526 ?_
  refine l_sld X Wd hin.2.2.1 dL_law_1527 ?_
  refine lv_aload_n hx hb dL_law_1528 rfl (lv_at hl 3 rfl) ?_
  refine l_w1 (rest := []) (v := (r.2.2 81)) X Wd (K_L_rule l hl9 D Φ S o cL w 1 (xs (i + 1).toNatClampNeg) (xs (i + 2).toNatClampNeg) hrc hq hag.1) ⟨w_1212, ww_L_rule⟩ hy_L_rule rfl ⟨(Nat.le_of_ble_eq_true rfl), (Nat.le_of_ble_eq_true rfl)⟩ hl.1 (Nat.le_of_ble_eq_true rfl) dL_law_1529 rfl ⟨by omega, by omega⟩ (fun n9 w H hn hx9 Wd => ?_)
  refine c_istore hx hb dL_law_1532 hl (Nat.le_of_ble_eq_true rfl) (lvKa rfl (lvKa rfl (lvKa rfl (lvKa rfl (lvKi lvK0))))) rfl (fun ls (hl : lv_has ls 7 [(5, .int (r.2.2 81)), (0, .ref b), (1, cv Φ (some 1)), (2, .ref mb), (3, .ref o), (4, .int i)]) => ?_)
  refine lv_aload_n hx hb dL_law_1534 rfl (lv_at hl 3 rfl) ?_
  refine lv_aload_n hx hb dL_law_1535 rfl (lv_at hl 1 rfl) ?_
  refine lv_iload hx hb dL_law_1536 (lv_at hl 5 rfl) ?_
  refine lv_iconst (v := 1) hx hb dL_law_1538 (by decide) ?_
  refine lv_iadd hx hb dL_law_1539 ?_
  refine l_sld X Wd hin.2.1 dL_law_1540 ?_
  refine lv_aload_n hx hb dL_law_1541 rfl (lv_at hl 1 rfl) ?_
  refine lv_iload hx hb dL_law_1542 (lv_at hl 5 rfl) ?_
  refine lv_iconst (v := 2) hx hb dL_law_1544 (by decide) ?_
  refine lv_iadd hx hb dL_law_1545 ?_
  refine l_sld X Wd hin.2.2.1 dL_law_1546 ?_
  refine l_mw X Wd (l_mrun (n := 2) (rest := []) X Wd (K_rule l Dm mb σ (xs (i + 1).toNatClampNeg) (xs (i + 2).toNatClampNeg) hr) ⟨w_2079, w_2080, w_2081, w_2082⟩ (hyX rfl (by decide +kernel)) rfl ⟨(Nat.le_of_ble_eq_true rfl), (Nat.le_of_ble_eq_true rfl)⟩ hl.1 (Nat.le_of_ble_eq_true rfl) dL_law_1547 rfl ⟨by omega, by omega⟩) (fun H Wd => ?_)
  refine W.eq (g2 := F0 m 1550 ls [.int r.1]) rfl ?_
  refine c_istore hx hb dL_law_1550 hl (Nat.le_of_ble_eq_true rfl) (lvKi (lvKa rfl (lvKa rfl (lvKa rfl (lvKa rfl (lvKa rfl lvK0)))))) rfl (fun ls (hl : lv_has ls 7 [(6, .int r.1), (5, .int (r.2.2 81)), (0, .ref b), (1, cv Φ (some 1)), (2, .ref mb), (3, .ref o), (4, .int i)]) => ?_)
  refine lv_aload_n hx hb dL_law_1552 rfl (lv_at hl 4 rfl) ?_
  refine l_mr (l_mrun (n := 0) (rest := []) X Wd (K_thrown l Dm mb r.2 (r := r.2.2 81) rfl) ⟨w_1838, w_1839, w_1840, w_1841⟩ (hyX rfl (by decide +kernel)) rfl ⟨(Nat.le_of_ble_eq_true rfl), (Nat.le_of_ble_eq_true rfl)⟩ hl.1 (Nat.le_of_ble_eq_true rfl) dL_law_1553 rfl ⟨by omega, by omega⟩) ?_
  refine lv_iload hx hb dL_law_1556 (lv_at hl 1 rfl) ?_
  refine lv_icmp_eq (tgt := 1563) hx hb dL_law_1558 rfl (fun _ => ?_) (fun hc => absurd rfl hc)
  refine lv_iload hx hb dL_law_1563 (lv_at hl 1 rfl) ?_
  refine lv_if_ne (tgt := 1580) hx hb dL_law_1565 rfl (fun hc => ?_) (fun hc => ?_)
  · refine lv_goto (tgt := 2797) hx hb dL_law_1580 rfl ?_
    refine W.widen (k := cells + 13) (n := slots + 151) (by omega) (by omega) ?_
    exact kk _ _ _ H ls (hnx _ hn) Wd (lv_sub hl [2, 3, 4, 5, 6] rfl)
  · obtain ⟨u, hu⟩ := lcd_z2 hag.1 hc
    have hw9 := hx9 u hu
    have hw8 := hag.2 u hu
    refine lv_aload_n hx hb dL_law_1568 rfl (lv_at hl 5 rfl) ?_
    refine lv_iconst (v := 0) hx hb dL_law_1569 (by decide) ?_
    refine l_lald X Wd dL_law_1570 ?_
    refine lv_iload hx hb dL_law_1571 (lv_at hl 0 rfl) ?_
    refine lv_i2l (v := lvN r.1) hx hb dL_law_1573 rfl ?_
    refine W.lcmp hx hb dL_law_1574 ?_
    refine lv_if_eq (tgt := 1580) hx hb dL_law_1575 rfl (fun _ => ?_) (fun hc => absurd (by rw [hw9, hw8]; exact lg_cmp_self _) hc)
    refine lv_goto (tgt := 2797) hx hb dL_law_1580 rfl ?_
    refine W.widen (k := cells + 13) (n := slots + 151) (by omega) (by omega) ?_
    exact kk _ _ _ H ls (hnx _ hn) Wd (lv_sub hl [2, 3, 4, 5, 6] rfl)
set_option maxRecDepth 20000 in
set_option maxHeartbeats 4000000 in
theorem L_case_20 {p : Program} {l : Launch} {e : Env} {s : State} {m : MethodId} {args : Array Value} {below : List Frame} {meth : Method} {c : Code} {H : Heap} {cells slots : Nat} {Q : State → Prop} {ls : Array Slot} {D : cD} {Φ : cG} {Dm : mD} {mb o : Nat} {cL : ClassId} {b L : Nat} {xs : Nat → Int32} {S : cS} {σ : mS} {w : Int64} {i : Int32} (hl9 : l.stackTraces = false) (X : lX p s m args meth c D Φ Dm mb o cL b L xs) {Sim Sim1 : cS → mS → Prop} (hsim : sim_when Sim Sim1) (hrc : rc S (some 1) 11 = some 1) (hin : lIn i L) (Wd : lWd D Φ Dm mb o cL s.heap S σ w H) (hS : Sim S σ) (hl : lv_has ls 7 (lLv Φ b mb o i)) (hf : cells + 13 ≤ 601024 ∧ slots + 151 ≤ 7293034) (kk : ∀ (S1 : cS) (σ1 : mS) (w1 : Int64) (H1 : Heap) (ls1 : Array Slot), Sim1 S1 σ1 → lWd D Φ Dm mb o cL s.heap S1 σ1 w1 H1 → lv_has ls1 7 (lLv Φ b mb o i) → W p l e lR s m args below meth c H1 [] (cells + 13) (slots + 151) Q (F0 m 2797 ls1 [])) : W p l e lR s m args below meth c H [] cells slots Q (F0 m 1583 ls []) := by
  have hx := X.1.1
  have hb := X.1.2.1
  have hts := X.1.2.2.2.2.1
  have hl : lv_has ls 7 [(0, .ref b), (1, cv Φ (some 1)), (2, .ref mb), (3, .ref o), (4, .int i)] := hl
  obtain ⟨q, r, hq, hr, hag, hnx⟩ := hsim S σ (xs (i + 1).toNatClampNeg) (xs (i + 2).toNatClampNeg) (xs (i + 3).toNatClampNeg) hS 
  refine c_aload_n hx hb dL_law_1583 rfl (lv_at hl 1 rfl) ?_
  refine lv_aload_n hx hb dL_law_1584 rfl (lv_at hl 0 rfl) ?_
  refine lv_iload hx hb dL_law_1585 (lv_at hl 4 rfl) ?_
  refine lv_iconst (v := 1) hx hb dL_law_1587 (by decide) ?_
  refine lv_iadd hx hb dL_law_1588 ?_
  refine l_sld X Wd hin.2.1 dL_law_1589 ?_
  refine lv_aload_n hx hb dL_law_1590 rfl (lv_at hl 0 rfl) ?_
  refine lv_iload hx hb dL_law_1591 (lv_at hl 4 rfl) ?_
  refine lv_iconst (v := 2) hx hb dL_law_1593 (by decide) ?_
  refine lv_iadd hx hb dL_law_1594 ?_
  refine l_sld X Wd hin.2.2.1 dL_law_1595 ?_
  refine lv_aload_n hx hb dL_law_1596 rfl (lv_at hl 0 rfl) ?_
  refine lv_iload hx hb dL_law_1597 (lv_at hl 4 rfl) ?_
  refine lv_iconst (v := 3) hx hb dL_law_1599 (by decide) ?_
  refine lv_iadd hx hb dL_law_1600 ?_
  refine l_sld X Wd hin.2.2.2.1 dL_law_1601 ?_
  refine l_w0 (rest := []) (v := (r.2 81)) X Wd (K_L_when l hl9 D Φ S 1 (xs (i + 1).toNatClampNeg) (xs (i + 2).toNatClampNeg) (xs (i + 3).toNatClampNeg) hrc hq hag) ⟨w_1224, ww_L_when⟩ hy_L_when rfl ⟨(Nat.le_of_ble_eq_true rfl), (Nat.le_of_ble_eq_true rfl)⟩ hl.1 (Nat.le_of_ble_eq_true rfl) dL_law_1602 rfl ⟨by omega, by omega⟩ (fun n9 H hn Wd => ?_)
  refine c_istore hx hb dL_law_1605 hl (Nat.le_of_ble_eq_true rfl) (lvKa rfl (lvKa rfl (lvKa rfl (lvKa rfl (lvKi lvK0))))) rfl (fun ls (hl : lv_has ls 7 [(5, .int (r.2 81)), (0, .ref b), (1, cv Φ (some 1)), (2, .ref mb), (3, .ref o), (4, .int i)]) => ?_)
  refine lv_aload_n hx hb dL_law_1607 rfl (lv_at hl 3 rfl) ?_
  refine lv_aload_n hx hb dL_law_1608 rfl (lv_at hl 1 rfl) ?_
  refine lv_iload hx hb dL_law_1609 (lv_at hl 5 rfl) ?_
  refine lv_iconst (v := 1) hx hb dL_law_1611 (by decide) ?_
  refine lv_iadd hx hb dL_law_1612 ?_
  refine l_sld X Wd hin.2.1 dL_law_1613 ?_
  refine lv_aload_n hx hb dL_law_1614 rfl (lv_at hl 1 rfl) ?_
  refine lv_iload hx hb dL_law_1615 (lv_at hl 5 rfl) ?_
  refine lv_iconst (v := 2) hx hb dL_law_1617 (by decide) ?_
  refine lv_iadd hx hb dL_law_1618 ?_
  refine l_sld X Wd hin.2.2.1 dL_law_1619 ?_
  refine lv_aload_n hx hb dL_law_1620 rfl (lv_at hl 1 rfl) ?_
  refine lv_iload hx hb dL_law_1621 (lv_at hl 5 rfl) ?_
  refine lv_iconst (v := 3) hx hb dL_law_1623 (by decide) ?_
  refine lv_iadd hx hb dL_law_1624 ?_
  refine l_sld X Wd hin.2.2.2.1 dL_law_1625 ?_
  refine l_mw X Wd (l_mrun (n := 3) (rest := []) X Wd (K_when l Dm mb σ (xs (i + 1).toNatClampNeg) (xs (i + 2).toNatClampNeg) (xs (i + 3).toNatClampNeg) hr) ⟨w_2083, w_2084, w_2085, w_2086⟩ (hyX rfl (by decide +kernel)) rfl ⟨(Nat.le_of_ble_eq_true rfl), (Nat.le_of_ble_eq_true rfl)⟩ hl.1 (Nat.le_of_ble_eq_true rfl) dL_law_1626 rfl ⟨by omega, by omega⟩) (fun H Wd => ?_)
  refine W.eq (g2 := F0 m 1629 ls []) rfl ?_
  refine lv_aload_n hx hb dL_law_1629 rfl (lv_at hl 3 rfl) ?_
  refine l_mr (l_mrun (n := 0) (rest := []) X Wd (K_thrown l Dm mb r (r := r.2 81) rfl) ⟨w_1838, w_1839, w_1840, w_1841⟩ (hyX rfl (by decide +kernel)) rfl ⟨(Nat.le_of_ble_eq_true rfl), (Nat.le_of_ble_eq_true rfl)⟩ hl.1 (Nat.le_of_ble_eq_true rfl) dL_law_1630 rfl ⟨by omega, by omega⟩) ?_
  refine lv_iload hx hb dL_law_1633 (lv_at hl 0 rfl) ?_
  refine lv_icmp_eq (tgt := 1640) hx hb dL_law_1635 rfl (fun _ => ?_) (fun hc => absurd rfl hc)
  refine lv_goto (tgt := 2797) hx hb dL_law_1640 rfl ?_
  refine W.widen (k := cells + 13) (n := slots + 151) (by omega) (by omega) ?_
  exact kk _ _ _ H ls (hnx _ hn) Wd (lv_sub hl [1, 2, 3, 4, 5] rfl)
set_option maxRecDepth 20000 in
set_option maxHeartbeats 4000000 in
theorem L_case_21 {p : Program} {l : Launch} {e : Env} {s : State} {m : MethodId} {args : Array Value} {below : List Frame} {meth : Method} {c : Code} {H : Heap} {cells slots : Nat} {Q : State → Prop} {ls : Array Slot} {D : cD} {Φ : cG} {Dm : mD} {mb o : Nat} {cL : ClassId} {b L : Nat} {xs : Nat → Int32} {S : cS} {σ : mS} {w : Int64} {i : Int32} (hl9 : l.stackTraces = false) (X : lX p s m args meth c D Φ Dm mb o cL b L xs) {Sim Sim1 : cS → mS → Prop} (hsim : sim_declare Sim Sim1) (hrc : rc S (some 1) 11 = some 1) (hin : lIn i L) (Wd : lWd D Φ Dm mb o cL s.heap S σ w H) (hS : Sim S σ) (hl : lv_has ls 7 (lLv Φ b mb o i)) (hf : cells + 13 ≤ 601024 ∧ slots + 151 ≤ 7293034) (kk : ∀ (S1 : cS) (σ1 : mS) (w1 : Int64) (H1 : Heap) (ls1 : Array Slot), Sim1 S1 σ1 → lWd D Φ Dm mb o cL s.heap S1 σ1 w1 H1 → lv_has ls1 7 (lLv Φ b mb o i) → W p l e lR s m args below meth c H1 [] (cells + 13) (slots + 151) Q (F0 m 2797 ls1 [])) : W p l e lR s m args below meth c H [] cells slots Q (F0 m 1643 ls []) := by
  have hx := X.1.1
  have hb := X.1.2.1
  have hts := X.1.2.2.2.2.1
  have hl : lv_has ls 7 [(0, .ref b), (1, cv Φ (some 1)), (2, .ref mb), (3, .ref o), (4, .int i)] := hl
  obtain ⟨q, r, hq, hr, hag, hnx⟩ := hsim S σ (xs (i + 1).toNatClampNeg) (xs (i + 2).toNatClampNeg) (xs (i + 3).toNatClampNeg) (xs (i + 4).toNatClampNeg) (lz (xs (i + 5).toNatClampNeg)) hS (lz_01 _)
  refine c_aload_n hx hb dL_law_1643 rfl (lv_at hl 1 rfl) ?_
  refine lv_aload_n hx hb dL_law_1644 rfl (lv_at hl 0 rfl) ?_
  refine lv_iload hx hb dL_law_1645 (lv_at hl 4 rfl) ?_
  refine lv_iconst (v := 1) hx hb dL_law_1647 (by decide) ?_
  refine lv_iadd hx hb dL_law_1648 ?_
  refine l_sld X Wd hin.2.1 dL_law_1649 ?_
  refine lv_aload_n hx hb dL_law_1650 rfl (lv_at hl 0 rfl) ?_
  refine lv_iload hx hb dL_law_1651 (lv_at hl 4 rfl) ?_
  refine lv_iconst (v := 2) hx hb dL_law_1653 (by decide) ?_
  refine lv_iadd hx hb dL_law_1654 ?_
  refine l_sld X Wd hin.2.2.1 dL_law_1655 ?_
  refine lv_aload_n hx hb dL_law_1656 rfl (lv_at hl 0 rfl) ?_
  refine lv_iload hx hb dL_law_1657 (lv_at hl 4 rfl) ?_
  refine lv_iconst (v := 3) hx hb dL_law_1659 (by decide) ?_
  refine lv_iadd hx hb dL_law_1660 ?_
  refine l_sld X Wd hin.2.2.2.1 dL_law_1661 ?_
  refine lv_aload_n hx hb dL_law_1662 rfl (lv_at hl 0 rfl) ?_
  refine lv_iload hx hb dL_law_1663 (lv_at hl 4 rfl) ?_
  refine lv_iconst (v := 4) hx hb dL_law_1665 (by decide) ?_
  refine lv_iadd hx hb dL_law_1666 ?_
  refine l_sld X Wd hin.2.2.2.2.1 dL_law_1667 ?_
  refine lv_aload_n hx hb dL_law_1668 rfl (lv_at hl 0 rfl) ?_
  refine lv_iload hx hb dL_law_1669 (lv_at hl 4 rfl) ?_
  refine lv_iconst (v := 5) hx hb dL_law_1671 (by decide) ?_
  refine lv_iadd hx hb dL_law_1672 ?_
  refine l_sld X Wd hin.2.2.2.2.2.1 dL_law_1673 ?_
  refine l_tern hx hb dL_law_1674 dL_law_1677 dL_law_1678 dL_law_1681 ?_
  refine lv_aload_n hx hb dL_law_1682 rfl (lv_at hl 3 rfl) ?_
  refine l_w1 (rest := []) (v := (r.2.2 81)) X Wd (K_L_declare l hl9 D Φ S o cL w 1 (xs (i + 1).toNatClampNeg) (xs (i + 2).toNatClampNeg) (xs (i + 3).toNatClampNeg) (xs (i + 4).toNatClampNeg) (lz (xs (i + 5).toNatClampNeg)) hrc hq hag.1) ⟨w_1242, ww_L_declare⟩ hy_L_declare rfl ⟨(Nat.le_of_ble_eq_true rfl), (Nat.le_of_ble_eq_true rfl)⟩ hl.1 (Nat.le_of_ble_eq_true rfl) dL_law_1683 rfl ⟨by omega, by omega⟩ (fun n9 w H hn hx9 Wd => ?_)
  refine c_istore hx hb dL_law_1686 hl (Nat.le_of_ble_eq_true rfl) (lvKa rfl (lvKa rfl (lvKa rfl (lvKa rfl (lvKi lvK0))))) rfl (fun ls (hl : lv_has ls 7 [(5, .int (r.2.2 81)), (0, .ref b), (1, cv Φ (some 1)), (2, .ref mb), (3, .ref o), (4, .int i)]) => ?_)
  refine lv_aload_n hx hb dL_law_1688 rfl (lv_at hl 3 rfl) ?_
  refine lv_aload_n hx hb dL_law_1689 rfl (lv_at hl 1 rfl) ?_
  refine lv_iload hx hb dL_law_1690 (lv_at hl 5 rfl) ?_
  refine lv_iconst (v := 1) hx hb dL_law_1692 (by decide) ?_
  refine lv_iadd hx hb dL_law_1693 ?_
  refine l_sld X Wd hin.2.1 dL_law_1694 ?_
  refine lv_aload_n hx hb dL_law_1695 rfl (lv_at hl 1 rfl) ?_
  refine lv_iload hx hb dL_law_1696 (lv_at hl 5 rfl) ?_
  refine lv_iconst (v := 2) hx hb dL_law_1698 (by decide) ?_
  refine lv_iadd hx hb dL_law_1699 ?_
  refine l_sld X Wd hin.2.2.1 dL_law_1700 ?_
  refine lv_aload_n hx hb dL_law_1701 rfl (lv_at hl 1 rfl) ?_
  refine lv_iload hx hb dL_law_1702 (lv_at hl 5 rfl) ?_
  refine lv_iconst (v := 3) hx hb dL_law_1704 (by decide) ?_
  refine lv_iadd hx hb dL_law_1705 ?_
  refine l_sld X Wd hin.2.2.2.1 dL_law_1706 ?_
  refine lv_aload_n hx hb dL_law_1707 rfl (lv_at hl 1 rfl) ?_
  refine lv_iload hx hb dL_law_1708 (lv_at hl 5 rfl) ?_
  refine lv_iconst (v := 4) hx hb dL_law_1710 (by decide) ?_
  refine lv_iadd hx hb dL_law_1711 ?_
  refine l_sld X Wd hin.2.2.2.2.1 dL_law_1712 ?_
  refine lv_aload_n hx hb dL_law_1713 rfl (lv_at hl 1 rfl) ?_
  refine lv_iload hx hb dL_law_1714 (lv_at hl 5 rfl) ?_
  refine lv_iconst (v := 5) hx hb dL_law_1716 (by decide) ?_
  refine lv_iadd hx hb dL_law_1717 ?_
  refine l_sld X Wd hin.2.2.2.2.2.1 dL_law_1718 ?_
  refine l_tern hx hb dL_law_1719 dL_law_1722 dL_law_1723 dL_law_1726 ?_
  refine l_mw X Wd (l_mrun (n := 5) (rest := []) X Wd (K_declare l Dm mb σ (xs (i + 1).toNatClampNeg) (xs (i + 2).toNatClampNeg) (xs (i + 3).toNatClampNeg) (xs (i + 4).toNatClampNeg) (lz (xs (i + 5).toNatClampNeg)) hr) ⟨w_2091, w_2092, w_2093, w_2094⟩ (hyX rfl (by decide +kernel)) rfl ⟨(Nat.le_of_ble_eq_true rfl), (Nat.le_of_ble_eq_true rfl)⟩ hl.1 (Nat.le_of_ble_eq_true rfl) dL_law_1727 rfl ⟨by omega, by omega⟩) (fun H Wd => ?_)
  refine W.eq (g2 := F0 m 1730 ls [.int r.1]) rfl ?_
  refine c_istore hx hb dL_law_1730 hl (Nat.le_of_ble_eq_true rfl) (lvKi (lvKa rfl (lvKa rfl (lvKa rfl (lvKa rfl (lvKa rfl lvK0)))))) rfl (fun ls (hl : lv_has ls 7 [(6, .int r.1), (5, .int (r.2.2 81)), (0, .ref b), (1, cv Φ (some 1)), (2, .ref mb), (3, .ref o), (4, .int i)]) => ?_)
  refine lv_aload_n hx hb dL_law_1732 rfl (lv_at hl 4 rfl) ?_
  refine l_mr (l_mrun (n := 0) (rest := []) X Wd (K_thrown l Dm mb r.2 (r := r.2.2 81) rfl) ⟨w_1838, w_1839, w_1840, w_1841⟩ (hyX rfl (by decide +kernel)) rfl ⟨(Nat.le_of_ble_eq_true rfl), (Nat.le_of_ble_eq_true rfl)⟩ hl.1 (Nat.le_of_ble_eq_true rfl) dL_law_1733 rfl ⟨by omega, by omega⟩) ?_
  refine lv_iload hx hb dL_law_1736 (lv_at hl 1 rfl) ?_
  refine lv_icmp_eq (tgt := 1743) hx hb dL_law_1738 rfl (fun _ => ?_) (fun hc => absurd rfl hc)
  refine lv_iload hx hb dL_law_1743 (lv_at hl 1 rfl) ?_
  refine lv_if_ne (tgt := 1760) hx hb dL_law_1745 rfl (fun hc => ?_) (fun hc => ?_)
  · refine lv_goto (tgt := 2797) hx hb dL_law_1760 rfl ?_
    refine W.widen (k := cells + 13) (n := slots + 151) (by omega) (by omega) ?_
    exact kk _ _ _ H ls (hnx _ hn) Wd (lv_sub hl [2, 3, 4, 5, 6] rfl)
  · obtain ⟨u, hu⟩ := lcd_z2 hag.1 hc
    have hw9 := hx9 u hu
    have hw8 := hag.2 u hu
    refine lv_aload_n hx hb dL_law_1748 rfl (lv_at hl 5 rfl) ?_
    refine lv_iconst (v := 0) hx hb dL_law_1749 (by decide) ?_
    refine l_lald X Wd dL_law_1750 ?_
    refine lv_iload hx hb dL_law_1751 (lv_at hl 0 rfl) ?_
    refine lv_i2l (v := lvN r.1) hx hb dL_law_1753 rfl ?_
    refine W.lcmp hx hb dL_law_1754 ?_
    refine lv_if_eq (tgt := 1760) hx hb dL_law_1755 rfl (fun _ => ?_) (fun hc => absurd (by rw [hw9, hw8]; exact lg_cmp_self _) hc)
    refine lv_goto (tgt := 2797) hx hb dL_law_1760 rfl ?_
    refine W.widen (k := cells + 13) (n := slots + 151) (by omega) (by omega) ?_
    exact kk _ _ _ H ls (hnx _ hn) Wd (lv_sub hl [2, 3, 4, 5, 6] rfl)
set_option maxRecDepth 20000 in
set_option maxHeartbeats 4000000 in
theorem L_case_22 {p : Program} {l : Launch} {e : Env} {s : State} {m : MethodId} {args : Array Value} {below : List Frame} {meth : Method} {c : Code} {H : Heap} {cells slots : Nat} {Q : State → Prop} {ls : Array Slot} {D : cD} {Φ : cG} {Dm : mD} {mb o : Nat} {cL : ClassId} {b L : Nat} {xs : Nat → Int32} {S : cS} {σ : mS} {w : Int64} {i : Int32} (hl9 : l.stackTraces = false) (X : lX p s m args meth c D Φ Dm mb o cL b L xs) {Sim Sim1 : cS → mS → Prop} (hsim : sim_declareVar Sim Sim1) (hrc : rc S (some 1) 11 = some 1) (hin : lIn i L) (Wd : lWd D Φ Dm mb o cL s.heap S σ w H) (hS : Sim S σ) (hl : lv_has ls 7 (lLv Φ b mb o i)) (hf : cells + 13 ≤ 601024 ∧ slots + 151 ≤ 7293034) (kk : ∀ (S1 : cS) (σ1 : mS) (w1 : Int64) (H1 : Heap) (ls1 : Array Slot), Sim1 S1 σ1 → lWd D Φ Dm mb o cL s.heap S1 σ1 w1 H1 → lv_has ls1 7 (lLv Φ b mb o i) → W p l e lR s m args below meth c H1 [] (cells + 13) (slots + 151) Q (F0 m 2797 ls1 [])) : W p l e lR s m args below meth c H [] cells slots Q (F0 m 1763 ls []) := by
  have hx := X.1.1
  have hb := X.1.2.1
  have hts := X.1.2.2.2.2.1
  have hl : lv_has ls 7 [(0, .ref b), (1, cv Φ (some 1)), (2, .ref mb), (3, .ref o), (4, .int i)] := hl
  obtain ⟨q, r, hq, hr, hag, hnx⟩ := hsim S σ (xs (i + 1).toNatClampNeg) (xs (i + 2).toNatClampNeg) (xs (i + 3).toNatClampNeg) (xs (i + 4).toNatClampNeg) (xs (i + 5).toNatClampNeg) (lz (xs (i + 6).toNatClampNeg)) hS (lz_01 _)
  refine c_aload_n hx hb dL_law_1763 rfl (lv_at hl 1 rfl) ?_
  refine lv_aload_n hx hb dL_law_1764 rfl (lv_at hl 0 rfl) ?_
  refine lv_iload hx hb dL_law_1765 (lv_at hl 4 rfl) ?_
  refine lv_iconst (v := 1) hx hb dL_law_1767 (by decide) ?_
  refine lv_iadd hx hb dL_law_1768 ?_
  refine l_sld X Wd hin.2.1 dL_law_1769 ?_
  refine lv_aload_n hx hb dL_law_1770 rfl (lv_at hl 0 rfl) ?_
  refine lv_iload hx hb dL_law_1771 (lv_at hl 4 rfl) ?_
  refine lv_iconst (v := 2) hx hb dL_law_1773 (by decide) ?_
  refine lv_iadd hx hb dL_law_1774 ?_
  refine l_sld X Wd hin.2.2.1 dL_law_1775 ?_
  refine lv_aload_n hx hb dL_law_1776 rfl (lv_at hl 0 rfl) ?_
  refine lv_iload hx hb dL_law_1777 (lv_at hl 4 rfl) ?_
  refine lv_iconst (v := 3) hx hb dL_law_1779 (by decide) ?_
  refine lv_iadd hx hb dL_law_1780 ?_
  refine l_sld X Wd hin.2.2.2.1 dL_law_1781 ?_
  refine lv_aload_n hx hb dL_law_1782 rfl (lv_at hl 0 rfl) ?_
  refine lv_iload hx hb dL_law_1783 (lv_at hl 4 rfl) ?_
  refine lv_iconst (v := 4) hx hb dL_law_1785 (by decide) ?_
  refine lv_iadd hx hb dL_law_1786 ?_
  refine l_sld X Wd hin.2.2.2.2.1 dL_law_1787 ?_
  refine lv_aload_n hx hb dL_law_1788 rfl (lv_at hl 0 rfl) ?_
  refine lv_iload hx hb dL_law_1789 (lv_at hl 4 rfl) ?_
  refine lv_iconst (v := 5) hx hb dL_law_1791 (by decide) ?_
  refine lv_iadd hx hb dL_law_1792 ?_
  refine l_sld X Wd hin.2.2.2.2.2.1 dL_law_1793 ?_
  refine lv_aload_n hx hb dL_law_1794 rfl (lv_at hl 0 rfl) ?_
  refine lv_iload hx hb dL_law_1795 (lv_at hl 4 rfl) ?_
  refine lv_bipush (v := 6) hx hb dL_law_1797 (by decide) ?_
  refine lv_iadd hx hb dL_law_1799 ?_
  refine l_sld X Wd hin.2.2.2.2.2.2 dL_law_1800 ?_
  refine l_tern hx hb dL_law_1801 dL_law_1804 dL_law_1805 dL_law_1808 ?_
  refine lv_aload_n hx hb dL_law_1809 rfl (lv_at hl 3 rfl) ?_
  refine l_w1 (rest := []) (v := (r.2.2 81)) X Wd (K_L_declareVar l hl9 D Φ S o cL w 1 (xs (i + 1).toNatClampNeg) (xs (i + 2).toNatClampNeg) (xs (i + 3).toNatClampNeg) (xs (i + 4).toNatClampNeg) (xs (i + 5).toNatClampNeg) (lz (xs (i + 6).toNatClampNeg)) hrc hq hag.1) ⟨w_1281, ww_L_declareVar⟩ hy_L_declareVar rfl ⟨(Nat.le_of_ble_eq_true rfl), (Nat.le_of_ble_eq_true rfl)⟩ hl.1 (Nat.le_of_ble_eq_true rfl) dL_law_1810 rfl ⟨by omega, by omega⟩ (fun n9 w H hn hx9 Wd => ?_)
  refine c_istore hx hb dL_law_1813 hl (Nat.le_of_ble_eq_true rfl) (lvKa rfl (lvKa rfl (lvKa rfl (lvKa rfl (lvKi lvK0))))) rfl (fun ls (hl : lv_has ls 7 [(5, .int (r.2.2 81)), (0, .ref b), (1, cv Φ (some 1)), (2, .ref mb), (3, .ref o), (4, .int i)]) => ?_)
  refine lv_aload_n hx hb dL_law_1815 rfl (lv_at hl 3 rfl) ?_
  refine lv_aload_n hx hb dL_law_1816 rfl (lv_at hl 1 rfl) ?_
  refine lv_iload hx hb dL_law_1817 (lv_at hl 5 rfl) ?_
  refine lv_iconst (v := 1) hx hb dL_law_1819 (by decide) ?_
  refine lv_iadd hx hb dL_law_1820 ?_
  refine l_sld X Wd hin.2.1 dL_law_1821 ?_
  refine lv_aload_n hx hb dL_law_1822 rfl (lv_at hl 1 rfl) ?_
  refine lv_iload hx hb dL_law_1823 (lv_at hl 5 rfl) ?_
  refine lv_iconst (v := 2) hx hb dL_law_1825 (by decide) ?_
  refine lv_iadd hx hb dL_law_1826 ?_
  refine l_sld X Wd hin.2.2.1 dL_law_1827 ?_
  refine lv_aload_n hx hb dL_law_1828 rfl (lv_at hl 1 rfl) ?_
  refine lv_iload hx hb dL_law_1829 (lv_at hl 5 rfl) ?_
  refine lv_iconst (v := 3) hx hb dL_law_1831 (by decide) ?_
  refine lv_iadd hx hb dL_law_1832 ?_
  refine l_sld X Wd hin.2.2.2.1 dL_law_1833 ?_
  refine lv_aload_n hx hb dL_law_1834 rfl (lv_at hl 1 rfl) ?_
  refine lv_iload hx hb dL_law_1835 (lv_at hl 5 rfl) ?_
  refine lv_iconst (v := 4) hx hb dL_law_1837 (by decide) ?_
  refine lv_iadd hx hb dL_law_1838 ?_
  refine l_sld X Wd hin.2.2.2.2.1 dL_law_1839 ?_
  refine lv_aload_n hx hb dL_law_1840 rfl (lv_at hl 1 rfl) ?_
  refine lv_iload hx hb dL_law_1841 (lv_at hl 5 rfl) ?_
  refine lv_iconst (v := 5) hx hb dL_law_1843 (by decide) ?_
  refine lv_iadd hx hb dL_law_1844 ?_
  refine l_sld X Wd hin.2.2.2.2.2.1 dL_law_1845 ?_
  refine lv_aload_n hx hb dL_law_1846 rfl (lv_at hl 1 rfl) ?_
  refine lv_iload hx hb dL_law_1847 (lv_at hl 5 rfl) ?_
  refine lv_bipush (v := 6) hx hb dL_law_1849 (by decide) ?_
  refine lv_iadd hx hb dL_law_1851 ?_
  refine l_sld X Wd hin.2.2.2.2.2.2 dL_law_1852 ?_
  refine l_tern hx hb dL_law_1853 dL_law_1856 dL_law_1857 dL_law_1860 ?_
  refine l_mw X Wd (l_mrun (n := 6) (rest := []) X Wd (K_declareVar l Dm mb σ (xs (i + 1).toNatClampNeg) (xs (i + 2).toNatClampNeg) (xs (i + 3).toNatClampNeg) (xs (i + 4).toNatClampNeg) (xs (i + 5).toNatClampNeg) (lz (xs (i + 6).toNatClampNeg)) hr) ⟨w_2115, w_2116, w_2117, w_2118⟩ (hyX rfl (by decide +kernel)) rfl ⟨(Nat.le_of_ble_eq_true rfl), (Nat.le_of_ble_eq_true rfl)⟩ hl.1 (Nat.le_of_ble_eq_true rfl) dL_law_1861 rfl ⟨by omega, by omega⟩) (fun H Wd => ?_)
  refine W.eq (g2 := F0 m 1864 ls [.int r.1]) rfl ?_
  refine c_istore hx hb dL_law_1864 hl (Nat.le_of_ble_eq_true rfl) (lvKi (lvKa rfl (lvKa rfl (lvKa rfl (lvKa rfl (lvKa rfl lvK0)))))) rfl (fun ls (hl : lv_has ls 7 [(6, .int r.1), (5, .int (r.2.2 81)), (0, .ref b), (1, cv Φ (some 1)), (2, .ref mb), (3, .ref o), (4, .int i)]) => ?_)
  refine lv_aload_n hx hb dL_law_1866 rfl (lv_at hl 4 rfl) ?_
  refine l_mr (l_mrun (n := 0) (rest := []) X Wd (K_thrown l Dm mb r.2 (r := r.2.2 81) rfl) ⟨w_1838, w_1839, w_1840, w_1841⟩ (hyX rfl (by decide +kernel)) rfl ⟨(Nat.le_of_ble_eq_true rfl), (Nat.le_of_ble_eq_true rfl)⟩ hl.1 (Nat.le_of_ble_eq_true rfl) dL_law_1867 rfl ⟨by omega, by omega⟩) ?_
  refine lv_iload hx hb dL_law_1870 (lv_at hl 1 rfl) ?_
  refine lv_icmp_eq (tgt := 1877) hx hb dL_law_1872 rfl (fun _ => ?_) (fun hc => absurd rfl hc)
  refine lv_iload hx hb dL_law_1877 (lv_at hl 1 rfl) ?_
  refine lv_if_ne (tgt := 1894) hx hb dL_law_1879 rfl (fun hc => ?_) (fun hc => ?_)
  · refine lv_goto (tgt := 2797) hx hb dL_law_1894 rfl ?_
    refine W.widen (k := cells + 13) (n := slots + 151) (by omega) (by omega) ?_
    exact kk _ _ _ H ls (hnx _ hn) Wd (lv_sub hl [2, 3, 4, 5, 6] rfl)
  · obtain ⟨u, hu⟩ := lcd_z2 hag.1 hc
    have hw9 := hx9 u hu
    have hw8 := hag.2 u hu
    refine lv_aload_n hx hb dL_law_1882 rfl (lv_at hl 5 rfl) ?_
    refine lv_iconst (v := 0) hx hb dL_law_1883 (by decide) ?_
    refine l_lald X Wd dL_law_1884 ?_
    refine lv_iload hx hb dL_law_1885 (lv_at hl 0 rfl) ?_
    refine lv_i2l (v := lvN r.1) hx hb dL_law_1887 rfl ?_
    refine W.lcmp hx hb dL_law_1888 ?_
    refine lv_if_eq (tgt := 1894) hx hb dL_law_1889 rfl (fun _ => ?_) (fun hc => absurd (by rw [hw9, hw8]; exact lg_cmp_self _) hc)
    refine lv_goto (tgt := 2797) hx hb dL_law_1894 rfl ?_
    refine W.widen (k := cells + 13) (n := slots + 151) (by omega) (by omega) ?_
    exact kk _ _ _ H ls (hnx _ hn) Wd (lv_sub hl [2, 3, 4, 5, 6] rfl)
set_option maxRecDepth 20000 in
set_option maxHeartbeats 4000000 in
theorem L_case_23 {p : Program} {l : Launch} {e : Env} {s : State} {m : MethodId} {args : Array Value} {below : List Frame} {meth : Method} {c : Code} {H : Heap} {cells slots : Nat} {Q : State → Prop} {ls : Array Slot} {D : cD} {Φ : cG} {Dm : mD} {mb o : Nat} {cL : ClassId} {b L : Nat} {xs : Nat → Int32} {S : cS} {σ : mS} {w : Int64} {i : Int32} (hl9 : l.stackTraces = false) (X : lX p s m args meth c D Φ Dm mb o cL b L xs) {Sim Sim1 : cS → mS → Prop} (hsim : sim_undeclare Sim Sim1) (hrc : rc S (some 1) 11 = some 1) (hin : lIn i L) (Wd : lWd D Φ Dm mb o cL s.heap S σ w H) (hS : Sim S σ) (hl : lv_has ls 7 (lLv Φ b mb o i)) (hf : cells + 13 ≤ 601024 ∧ slots + 151 ≤ 7293034) (kk : ∀ (S1 : cS) (σ1 : mS) (w1 : Int64) (H1 : Heap) (ls1 : Array Slot), Sim1 S1 σ1 → lWd D Φ Dm mb o cL s.heap S1 σ1 w1 H1 → lv_has ls1 7 (lLv Φ b mb o i) → W p l e lR s m args below meth c H1 [] (cells + 13) (slots + 151) Q (F0 m 2797 ls1 [])) : W p l e lR s m args below meth c H [] cells slots Q (F0 m 1897 ls []) := by
  have hx := X.1.1
  have hb := X.1.2.1
  have hts := X.1.2.2.2.2.1
  have hl : lv_has ls 7 [(0, .ref b), (1, cv Φ (some 1)), (2, .ref mb), (3, .ref o), (4, .int i)] := hl
  obtain ⟨q, r, hq, hr, hag, hnx⟩ := hsim S σ (xs (i + 1).toNatClampNeg) (xs (i + 2).toNatClampNeg) hS 
  refine c_aload_n hx hb dL_law_1897 rfl (lv_at hl 1 rfl) ?_
  refine lv_aload_n hx hb dL_law_1898 rfl (lv_at hl 0 rfl) ?_
  refine lv_iload hx hb dL_law_1899 (lv_at hl 4 rfl) ?_
  refine lv_iconst (v := 1) hx hb dL_law_1901 (by decide) ?_
  refine lv_iadd hx hb dL_law_1902 ?_
  refine l_sld X Wd hin.2.1 dL_law_1903 ?_
  refine lv_aload_n hx hb dL_law_1904 rfl (lv_at hl 0 rfl) ?_
  refine lv_iload hx hb dL_law_1905 (lv_at hl 4 rfl) ?_
  refine lv_iconst (v := 2) hx hb dL_law_1907 (by decide) ?_
  refine lv_iadd hx hb dL_law_1908 ?_
  refine l_sld X Wd hin.2.2.1 dL_law_1909 ?_
  refine lv_aload_n hx hb dL_law_1910 rfl (lv_at hl 3 rfl) ?_
  refine l_w1 (rest := []) (v := (r.2.2 81)) X Wd (K_L_undeclare l hl9 D Φ S o cL w 1 (xs (i + 1).toNatClampNeg) (xs (i + 2).toNatClampNeg) hrc hq hag.1) ⟨w_1292, ww_L_undeclare⟩ hy_L_undeclare rfl ⟨(Nat.le_of_ble_eq_true rfl), (Nat.le_of_ble_eq_true rfl)⟩ hl.1 (Nat.le_of_ble_eq_true rfl) dL_law_1911 rfl ⟨by omega, by omega⟩ (fun n9 w H hn hx9 Wd => ?_)
  refine c_istore hx hb dL_law_1914 hl (Nat.le_of_ble_eq_true rfl) (lvKa rfl (lvKa rfl (lvKa rfl (lvKa rfl (lvKi lvK0))))) rfl (fun ls (hl : lv_has ls 7 [(5, .int (r.2.2 81)), (0, .ref b), (1, cv Φ (some 1)), (2, .ref mb), (3, .ref o), (4, .int i)]) => ?_)
  refine lv_aload_n hx hb dL_law_1916 rfl (lv_at hl 3 rfl) ?_
  refine lv_aload_n hx hb dL_law_1917 rfl (lv_at hl 1 rfl) ?_
  refine lv_iload hx hb dL_law_1918 (lv_at hl 5 rfl) ?_
  refine lv_iconst (v := 1) hx hb dL_law_1920 (by decide) ?_
  refine lv_iadd hx hb dL_law_1921 ?_
  refine l_sld X Wd hin.2.1 dL_law_1922 ?_
  refine lv_aload_n hx hb dL_law_1923 rfl (lv_at hl 1 rfl) ?_
  refine lv_iload hx hb dL_law_1924 (lv_at hl 5 rfl) ?_
  refine lv_iconst (v := 2) hx hb dL_law_1926 (by decide) ?_
  refine lv_iadd hx hb dL_law_1927 ?_
  refine l_sld X Wd hin.2.2.1 dL_law_1928 ?_
  refine l_mw X Wd (l_mrun (n := 2) (rest := []) X Wd (K_undeclare l Dm mb σ (xs (i + 1).toNatClampNeg) (xs (i + 2).toNatClampNeg) hr) ⟨w_2119, w_2120, w_2121, w_2122⟩ (hyX rfl (by decide +kernel)) rfl ⟨(Nat.le_of_ble_eq_true rfl), (Nat.le_of_ble_eq_true rfl)⟩ hl.1 (Nat.le_of_ble_eq_true rfl) dL_law_1929 rfl ⟨by omega, by omega⟩) (fun H Wd => ?_)
  refine W.eq (g2 := F0 m 1932 ls [.int r.1]) rfl ?_
  refine c_istore hx hb dL_law_1932 hl (Nat.le_of_ble_eq_true rfl) (lvKi (lvKa rfl (lvKa rfl (lvKa rfl (lvKa rfl (lvKa rfl lvK0)))))) rfl (fun ls (hl : lv_has ls 7 [(6, .int r.1), (5, .int (r.2.2 81)), (0, .ref b), (1, cv Φ (some 1)), (2, .ref mb), (3, .ref o), (4, .int i)]) => ?_)
  refine lv_aload_n hx hb dL_law_1934 rfl (lv_at hl 4 rfl) ?_
  refine l_mr (l_mrun (n := 0) (rest := []) X Wd (K_thrown l Dm mb r.2 (r := r.2.2 81) rfl) ⟨w_1838, w_1839, w_1840, w_1841⟩ (hyX rfl (by decide +kernel)) rfl ⟨(Nat.le_of_ble_eq_true rfl), (Nat.le_of_ble_eq_true rfl)⟩ hl.1 (Nat.le_of_ble_eq_true rfl) dL_law_1935 rfl ⟨by omega, by omega⟩) ?_
  refine lv_iload hx hb dL_law_1938 (lv_at hl 1 rfl) ?_
  refine lv_icmp_eq (tgt := 1945) hx hb dL_law_1940 rfl (fun _ => ?_) (fun hc => absurd rfl hc)
  refine lv_iload hx hb dL_law_1945 (lv_at hl 1 rfl) ?_
  refine lv_if_ne (tgt := 1962) hx hb dL_law_1947 rfl (fun hc => ?_) (fun hc => ?_)
  · refine lv_goto (tgt := 2797) hx hb dL_law_1962 rfl ?_
    refine W.widen (k := cells + 13) (n := slots + 151) (by omega) (by omega) ?_
    exact kk _ _ _ H ls (hnx _ hn) Wd (lv_sub hl [2, 3, 4, 5, 6] rfl)
  · obtain ⟨u, hu⟩ := lcd_z2 hag.1 hc
    have hw9 := hx9 u hu
    have hw8 := hag.2 u hu
    refine lv_aload_n hx hb dL_law_1950 rfl (lv_at hl 5 rfl) ?_
    refine lv_iconst (v := 0) hx hb dL_law_1951 (by decide) ?_
    refine l_lald X Wd dL_law_1952 ?_
    refine lv_iload hx hb dL_law_1953 (lv_at hl 0 rfl) ?_
    refine lv_i2l (v := lvN r.1) hx hb dL_law_1955 rfl ?_
    refine W.lcmp hx hb dL_law_1956 ?_
    refine lv_if_eq (tgt := 1962) hx hb dL_law_1957 rfl (fun _ => ?_) (fun hc => absurd (by rw [hw9, hw8]; exact lg_cmp_self _) hc)
    refine lv_goto (tgt := 2797) hx hb dL_law_1962 rfl ?_
    refine W.widen (k := cells + 13) (n := slots + 151) (by omega) (by omega) ?_
    exact kk _ _ _ H ls (hnx _ hn) Wd (lv_sub hl [2, 3, 4, 5, 6] rfl)
set_option maxRecDepth 20000 in
set_option maxHeartbeats 4000000 in
theorem L_case_24 {p : Program} {l : Launch} {e : Env} {s : State} {m : MethodId} {args : Array Value} {below : List Frame} {meth : Method} {c : Code} {H : Heap} {cells slots : Nat} {Q : State → Prop} {ls : Array Slot} {D : cD} {Φ : cG} {Dm : mD} {mb o : Nat} {cL : ClassId} {b L : Nat} {xs : Nat → Int32} {S : cS} {σ : mS} {w : Int64} {i : Int32} (hl9 : l.stackTraces = false) (X : lX p s m args meth c D Φ Dm mb o cL b L xs) {Sim Sim1 : cS → mS → Prop} (hsim : sim_setWidth Sim Sim1) (hrc : rc S (some 1) 11 = some 1) (hin : lIn i L) (Wd : lWd D Φ Dm mb o cL s.heap S σ w H) (hS : Sim S σ) (hl : lv_has ls 7 (lLv Φ b mb o i)) (hf : cells + 13 ≤ 601024 ∧ slots + 151 ≤ 7293034) (kk : ∀ (S1 : cS) (σ1 : mS) (w1 : Int64) (H1 : Heap) (ls1 : Array Slot), Sim1 S1 σ1 → lWd D Φ Dm mb o cL s.heap S1 σ1 w1 H1 → lv_has ls1 7 (lLv Φ b mb o i) → W p l e lR s m args below meth c H1 [] (cells + 13) (slots + 151) Q (F0 m 2797 ls1 [])) : W p l e lR s m args below meth c H [] cells slots Q (F0 m 1965 ls []) := by
  have hx := X.1.1
  have hb := X.1.2.1
  have hts := X.1.2.2.2.2.1
  have hl : lv_has ls 7 [(0, .ref b), (1, cv Φ (some 1)), (2, .ref mb), (3, .ref o), (4, .int i)] := hl
  obtain ⟨q, r, hq, hr, hag, hnx⟩ := hsim S σ (xs (i + 1).toNatClampNeg) hS 
  refine c_aload_n hx hb dL_law_1965 rfl (lv_at hl 1 rfl) ?_
  refine lv_aload_n hx hb dL_law_1966 rfl (lv_at hl 0 rfl) ?_
  refine lv_iload hx hb dL_law_1967 (lv_at hl 4 rfl) ?_
  refine lv_iconst (v := 1) hx hb dL_law_1969 (by decide) ?_
  refine lv_iadd hx hb dL_law_1970 ?_
  refine l_sld X Wd hin.2.1 dL_law_1971 ?_
  refine lv_aload_n hx hb dL_law_1972 rfl (lv_at hl 3 rfl) ?_
  refine l_w1 (rest := []) (v := (r.2.2 81)) X Wd (K_L_setWidth l hl9 D Φ S o cL w 1 (xs (i + 1).toNatClampNeg) hrc hq hag.1) ⟨w_1299, ww_L_setWidth⟩ hy_L_setWidth rfl ⟨(Nat.le_of_ble_eq_true rfl), (Nat.le_of_ble_eq_true rfl)⟩ hl.1 (Nat.le_of_ble_eq_true rfl) dL_law_1973 rfl ⟨by omega, by omega⟩ (fun n9 w H hn hx9 Wd => ?_)
  refine c_istore hx hb dL_law_1976 hl (Nat.le_of_ble_eq_true rfl) (lvKa rfl (lvKa rfl (lvKa rfl (lvKa rfl (lvKi lvK0))))) rfl (fun ls (hl : lv_has ls 7 [(5, .int (r.2.2 81)), (0, .ref b), (1, cv Φ (some 1)), (2, .ref mb), (3, .ref o), (4, .int i)]) => ?_)
  refine lv_aload_n hx hb dL_law_1978 rfl (lv_at hl 3 rfl) ?_
  refine lv_aload_n hx hb dL_law_1979 rfl (lv_at hl 1 rfl) ?_
  refine lv_iload hx hb dL_law_1980 (lv_at hl 5 rfl) ?_
  refine lv_iconst (v := 1) hx hb dL_law_1982 (by decide) ?_
  refine lv_iadd hx hb dL_law_1983 ?_
  refine l_sld X Wd hin.2.1 dL_law_1984 ?_
  refine l_mw X Wd (l_mrun (n := 1) (rest := []) X Wd (K_setWidth l Dm mb σ (xs (i + 1).toNatClampNeg) hr) ⟨w_2123, w_2124, w_2125, w_2126⟩ (hyX rfl (by decide +kernel)) rfl ⟨(Nat.le_of_ble_eq_true rfl), (Nat.le_of_ble_eq_true rfl)⟩ hl.1 (Nat.le_of_ble_eq_true rfl) dL_law_1985 rfl ⟨by omega, by omega⟩) (fun H Wd => ?_)
  refine W.eq (g2 := F0 m 1988 ls [.int r.1]) rfl ?_
  refine c_istore hx hb dL_law_1988 hl (Nat.le_of_ble_eq_true rfl) (lvKi (lvKa rfl (lvKa rfl (lvKa rfl (lvKa rfl (lvKa rfl lvK0)))))) rfl (fun ls (hl : lv_has ls 7 [(6, .int r.1), (5, .int (r.2.2 81)), (0, .ref b), (1, cv Φ (some 1)), (2, .ref mb), (3, .ref o), (4, .int i)]) => ?_)
  refine lv_aload_n hx hb dL_law_1990 rfl (lv_at hl 4 rfl) ?_
  refine l_mr (l_mrun (n := 0) (rest := []) X Wd (K_thrown l Dm mb r.2 (r := r.2.2 81) rfl) ⟨w_1838, w_1839, w_1840, w_1841⟩ (hyX rfl (by decide +kernel)) rfl ⟨(Nat.le_of_ble_eq_true rfl), (Nat.le_of_ble_eq_true rfl)⟩ hl.1 (Nat.le_of_ble_eq_true rfl) dL_law_1991 rfl ⟨by omega, by omega⟩) ?_
  refine lv_iload hx hb dL_law_1994 (lv_at hl 1 rfl) ?_
  refine lv_icmp_eq (tgt := 2001) hx hb dL_law_1996 rfl (fun _ => ?_) (fun hc => absurd rfl hc)
  refine lv_iload hx hb dL_law_2001 (lv_at hl 1 rfl) ?_
  refine lv_if_ne (tgt := 2018) hx hb dL_law_2003 rfl (fun hc => ?_) (fun hc => ?_)
  · refine lv_goto (tgt := 2797) hx hb dL_law_2018 rfl ?_
    refine W.widen (k := cells + 13) (n := slots + 151) (by omega) (by omega) ?_
    exact kk _ _ _ H ls (hnx _ hn) Wd (lv_sub hl [2, 3, 4, 5, 6] rfl)
  · obtain ⟨u, hu⟩ := lcd_z1 hag.1 hc
    have hw9 := hx9 u hu
    have hw8 := hag.2 u hu
    refine lv_aload_n hx hb dL_law_2006 rfl (lv_at hl 5 rfl) ?_
    refine lv_iconst (v := 0) hx hb dL_law_2007 (by decide) ?_
    refine l_lald X Wd dL_law_2008 ?_
    refine lv_iload hx hb dL_law_2009 (lv_at hl 0 rfl) ?_
    refine lv_i2l (v := lvN r.1) hx hb dL_law_2011 rfl ?_
    refine W.lcmp hx hb dL_law_2012 ?_
    refine lv_if_eq (tgt := 2018) hx hb dL_law_2013 rfl (fun _ => ?_) (fun hc => absurd (by rw [hw9, hw8]; exact lg_cmp_self _) hc)
    refine lv_goto (tgt := 2797) hx hb dL_law_2018 rfl ?_
    refine W.widen (k := cells + 13) (n := slots + 151) (by omega) (by omega) ?_
    exact kk _ _ _ H ls (hnx _ hn) Wd (lv_sub hl [2, 3, 4, 5, 6] rfl)
set_option maxRecDepth 20000 in
set_option maxHeartbeats 4000000 in
theorem L_case_25 {p : Program} {l : Launch} {e : Env} {s : State} {m : MethodId} {args : Array Value} {below : List Frame} {meth : Method} {c : Code} {H : Heap} {cells slots : Nat} {Q : State → Prop} {ls : Array Slot} {D : cD} {Φ : cG} {Dm : mD} {mb o : Nat} {cL : ClassId} {b L : Nat} {xs : Nat → Int32} {S : cS} {σ : mS} {w : Int64} {i : Int32} (hl9 : l.stackTraces = false) (X : lX p s m args meth c D Φ Dm mb o cL b L xs) {Sim Sim1 : cS → mS → Prop} (hsim : sim_value Sim Sim1) (hrc : rc S (some 1) 11 = some 1) (hin : lIn i L) (Wd : lWd D Φ Dm mb o cL s.heap S σ w H) (hS : Sim S σ) (hl : lv_has ls 7 (lLv Φ b mb o i)) (hf : cells + 13 ≤ 601024 ∧ slots + 151 ≤ 7293034) (kk : ∀ (S1 : cS) (σ1 : mS) (w1 : Int64) (H1 : Heap) (ls1 : Array Slot), Sim1 S1 σ1 → lWd D Φ Dm mb o cL s.heap S1 σ1 w1 H1 → lv_has ls1 7 (lLv Φ b mb o i) → W p l e lR s m args below meth c H1 [] (cells + 13) (slots + 151) Q (F0 m 2797 ls1 [])) : W p l e lR s m args below meth c H [] cells slots Q (F0 m 2021 ls []) := by
  have hx := X.1.1
  have hb := X.1.2.1
  have hts := X.1.2.2.2.2.1
  have hl : lv_has ls 7 [(0, .ref b), (1, cv Φ (some 1)), (2, .ref mb), (3, .ref o), (4, .int i)] := hl
  obtain ⟨q, r, hq, hr, hag, hnx⟩ := hsim S σ (xs (i + 1).toNatClampNeg) (xs (i + 2).toNatClampNeg) hS 
  refine c_aload_n hx hb dL_law_2021 rfl (lv_at hl 1 rfl) ?_
  refine lv_aload_n hx hb dL_law_2022 rfl (lv_at hl 0 rfl) ?_
  refine lv_iload hx hb dL_law_2023 (lv_at hl 4 rfl) ?_
  refine lv_iconst (v := 1) hx hb dL_law_2025 (by decide) ?_
  refine lv_iadd hx hb dL_law_2026 ?_
  refine l_sld X Wd hin.2.1 dL_law_2027 ?_
  refine lv_aload_n hx hb dL_law_2028 rfl (lv_at hl 0 rfl) ?_
  refine lv_iload hx hb dL_law_2029 (lv_at hl 4 rfl) ?_
  refine lv_iconst (v := 2) hx hb dL_law_2031 (by decide) ?_
  refine lv_iadd hx hb dL_law_2032 ?_
  refine l_sld X Wd hin.2.2.1 dL_law_2033 ?_
  refine lv_aload_n hx hb dL_law_2034 rfl (lv_at hl 3 rfl) ?_
  refine l_w1 (rest := []) (v := (r.2.2 81)) X Wd (K_L_value l hl9 D Φ S o cL w 1 (xs (i + 1).toNatClampNeg) (xs (i + 2).toNatClampNeg) hrc hq hag.1) ⟨w_1306, ww_L_value⟩ hy_L_value rfl ⟨(Nat.le_of_ble_eq_true rfl), (Nat.le_of_ble_eq_true rfl)⟩ hl.1 (Nat.le_of_ble_eq_true rfl) dL_law_2035 rfl ⟨by omega, by omega⟩ (fun n9 w H hn hx9 Wd => ?_)
  refine c_istore hx hb dL_law_2038 hl (Nat.le_of_ble_eq_true rfl) (lvKa rfl (lvKa rfl (lvKa rfl (lvKa rfl (lvKi lvK0))))) rfl (fun ls (hl : lv_has ls 7 [(5, .int (r.2.2 81)), (0, .ref b), (1, cv Φ (some 1)), (2, .ref mb), (3, .ref o), (4, .int i)]) => ?_)
  refine lv_aload_n hx hb dL_law_2040 rfl (lv_at hl 3 rfl) ?_
  refine lv_aload_n hx hb dL_law_2041 rfl (lv_at hl 1 rfl) ?_
  refine lv_iload hx hb dL_law_2042 (lv_at hl 5 rfl) ?_
  refine lv_iconst (v := 1) hx hb dL_law_2044 (by decide) ?_
  refine lv_iadd hx hb dL_law_2045 ?_
  refine l_sld X Wd hin.2.1 dL_law_2046 ?_
  refine lv_aload_n hx hb dL_law_2047 rfl (lv_at hl 1 rfl) ?_
  refine lv_iload hx hb dL_law_2048 (lv_at hl 5 rfl) ?_
  refine lv_iconst (v := 2) hx hb dL_law_2050 (by decide) ?_
  refine lv_iadd hx hb dL_law_2051 ?_
  refine l_sld X Wd hin.2.2.1 dL_law_2052 ?_
  refine l_mw X Wd (l_mrun (n := 2) (rest := []) X Wd (K_value l Dm mb σ (xs (i + 1).toNatClampNeg) (xs (i + 2).toNatClampNeg) hr) ⟨w_2127, w_2128, w_2129, w_2130⟩ (hyX rfl (by decide +kernel)) rfl ⟨(Nat.le_of_ble_eq_true rfl), (Nat.le_of_ble_eq_true rfl)⟩ hl.1 (Nat.le_of_ble_eq_true rfl) dL_law_2053 rfl ⟨by omega, by omega⟩) (fun H Wd => ?_)
  refine W.eq (g2 := F0 m 2056 ls [.int r.1]) rfl ?_
  refine c_istore hx hb dL_law_2056 hl (Nat.le_of_ble_eq_true rfl) (lvKi (lvKa rfl (lvKa rfl (lvKa rfl (lvKa rfl (lvKa rfl lvK0)))))) rfl (fun ls (hl : lv_has ls 7 [(6, .int r.1), (5, .int (r.2.2 81)), (0, .ref b), (1, cv Φ (some 1)), (2, .ref mb), (3, .ref o), (4, .int i)]) => ?_)
  refine lv_aload_n hx hb dL_law_2058 rfl (lv_at hl 4 rfl) ?_
  refine l_mr (l_mrun (n := 0) (rest := []) X Wd (K_thrown l Dm mb r.2 (r := r.2.2 81) rfl) ⟨w_1838, w_1839, w_1840, w_1841⟩ (hyX rfl (by decide +kernel)) rfl ⟨(Nat.le_of_ble_eq_true rfl), (Nat.le_of_ble_eq_true rfl)⟩ hl.1 (Nat.le_of_ble_eq_true rfl) dL_law_2059 rfl ⟨by omega, by omega⟩) ?_
  refine lv_iload hx hb dL_law_2062 (lv_at hl 1 rfl) ?_
  refine lv_icmp_eq (tgt := 2069) hx hb dL_law_2064 rfl (fun _ => ?_) (fun hc => absurd rfl hc)
  refine lv_iload hx hb dL_law_2069 (lv_at hl 1 rfl) ?_
  refine lv_if_ne (tgt := 2086) hx hb dL_law_2071 rfl (fun hc => ?_) (fun hc => ?_)
  · refine lv_goto (tgt := 2797) hx hb dL_law_2086 rfl ?_
    refine W.widen (k := cells + 13) (n := slots + 151) (by omega) (by omega) ?_
    exact kk _ _ _ H ls (hnx _ hn) Wd (lv_sub hl [2, 3, 4, 5, 6] rfl)
  · obtain ⟨u, hu⟩ := lcd_z3 hag.1 hc
    have hw9 := hx9 u hu
    have hw8 := hag.2 u hu
    refine lv_aload_n hx hb dL_law_2074 rfl (lv_at hl 5 rfl) ?_
    refine lv_iconst (v := 0) hx hb dL_law_2075 (by decide) ?_
    refine l_lald X Wd dL_law_2076 ?_
    refine lv_iload hx hb dL_law_2077 (lv_at hl 0 rfl) ?_
    refine lv_i2l (v := lvN r.1) hx hb dL_law_2079 rfl ?_
    refine W.lcmp hx hb dL_law_2080 ?_
    refine lv_if_eq (tgt := 2086) hx hb dL_law_2081 rfl (fun _ => ?_) (fun hc => absurd (by rw [hw9, hw8]; exact lg_cmp_self _) hc)
    refine lv_goto (tgt := 2797) hx hb dL_law_2086 rfl ?_
    refine W.widen (k := cells + 13) (n := slots + 151) (by omega) (by omega) ?_
    exact kk _ _ _ H ls (hnx _ hn) Wd (lv_sub hl [2, 3, 4, 5, 6] rfl)
