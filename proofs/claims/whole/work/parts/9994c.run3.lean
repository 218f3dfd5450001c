/-! THE RUN OF THE LAW: 9994c.run3 -/
def lLv (Φ : cG) (b mb o : Nat) (i : Int32) : List (Nat × Value) := [(0, .ref b), (1, cv Φ (some 1)), (2, .ref mb), (3, .ref o), (4, .int i)]
def lIn (i : Int32) (L : Nat) : Prop := vp_in i L ∧ vp_in (i + 1) L ∧ vp_in (i + 2) L ∧ vp_in (i + 3) L ∧ vp_in (i + 4) L ∧ vp_in (i + 5) L ∧ vp_in (i + 6) L
set_option maxRecDepth 20000 in
set_option maxHeartbeats 4000000 in
theorem L_case_0 {p : Program} {l : Launch} {e : Env} {s : State} {m : MethodId} {args : Array Value} {below : List Frame} {meth : Method} {c : Code} {H : Heap} {cells slots : Nat} {Q : State → Prop} {ls : Array Slot} {D : cD} {Φ : cG} {Dm : mD} {mb o : Nat} {cL : ClassId} {b L : Nat} {xs : Nat → Int32} {S : cS} {σ : mS} {w : Int64} {i : Int32} (hl9 : l.stackTraces = false) (X : lX p s m args meth c D Φ Dm mb o cL b L xs) {Sim Sim1 : cS → mS → Prop} (hsim : sim_make Sim Sim1) (hrc : rc S (some 1) 11 = some 1) (hin : lIn i L) (Wd : lWd D Φ Dm mb o cL s.heap S σ w H) (hS : Sim S σ) (hl : lv_has ls 7 (lLv Φ b mb o i)) (hf : cells + 13 ≤ 601024 ∧ slots + 151 ≤ 7293034) (kk : ∀ (S1 : cS) (σ1 : mS) (w1 : Int64) (H1 : Heap) (ls1 : Array Slot), Sim1 S1 σ1 → lWd D Φ Dm mb o cL s.heap S1 σ1 w1 H1 → lv_has ls1 7 (lLv Φ b mb o i) → W p l e lR s m args below meth c H1 [] (cells + 13) (slots + 151) Q (F0 m 2797 ls1 [])) : W p l e lR s m args below meth c H [] cells slots Q (F0 m 212 ls []) := by
  have hx := X.1.1
  have hb := X.1.2.1
  have hts := X.1.2.2.2.2.1
  have hl : lv_has ls 7 [(0, .ref b), (1, cv Φ (some 1)), (2, .ref mb), (3, .ref o), (4, .int i)] := hl
  obtain ⟨q, r, hq, hr, hag, hnx⟩ := hsim S σ (xs (i + 1).toNatClampNeg) hS 
  refine c_aload_n hx hb dL_law_212 rfl (lv_at hl 1 rfl) ?_
  refine lv_aload_n hx hb dL_law_213 rfl (lv_at hl 0 rfl) ?_
  refine lv_iload hx hb dL_law_214 (lv_at hl 4 rfl) ?_
  refine lv_iconst (v := 1) hx hb dL_law_216 (by decide) ?_
  refine lv_iadd hx hb dL_law_217 ?_
  refine l_sld X Wd hin.2.1 dL_law_218 ?_
  refine lv_aload_n hx hb dL_law_219 rfl (lv_at hl 3 rfl) ?_
  refine l_w1 (rest := []) (v := (r.2.2 81)) X Wd (K_L_make l hl9 D Φ S o cL w 1 (xs (i + 1).toNatClampNeg) hrc hq hag.1) ⟨w_731, ww_L_make⟩ hy_L_make rfl ⟨(Nat.le_of_ble_eq_true rfl), (Nat.le_of_ble_eq_true rfl)⟩ hl.1 (Nat.le_of_ble_eq_true rfl) dL_law_220 rfl ⟨by omega, by omega⟩ (fun n9 w H hn hx9 Wd => ?_)
  refine c_istore hx hb dL_law_223 hl (Nat.le_of_ble_eq_true rfl) (lvKa rfl (lvKa rfl (lvKa rfl (lvKa rfl (lvKi lvK0))))) rfl (fun ls (hl : lv_has ls 7 [(5, .int (r.2.2 81)), (0, .ref b), (1, cv Φ (some 1)), (2, .ref mb), (3, .ref o), (4, .int i)]) => ?_)
  refine lv_aload_n hx hb dL_law_225 rfl (lv_at hl 3 rfl) ?_
  refine lv_aload_n hx hb dL_law_226 rfl (lv_at hl 1 rfl) ?_
  refine lv_iload hx hb dL_law_227 (lv_at hl 5 rfl) ?_
  refine lv_iconst (v := 1) hx hb dL_law_229 (by decide) ?_
  refine lv_iadd hx hb dL_law_230 ?_
  refine l_sld X Wd hin.2.1 dL_law_231 ?_
  refine l_mw X Wd (l_mrun (n := 1) (rest := []) X Wd (K_make l Dm mb σ (xs (i + 1).toNatClampNeg) hr) ⟨w_1842, w_1843, w_1844, w_1845⟩ (hyX rfl (by decide +kernel)) rfl ⟨(Nat.le_of_ble_eq_true rfl), (Nat.le_of_ble_eq_true rfl)⟩ hl.1 (Nat.le_of_ble_eq_true rfl) dL_law_232 rfl ⟨by omega, by omega⟩) (fun H Wd => ?_)
  refine W.eq (g2 := F0 m 235 ls [.int r.1]) rfl ?_
  refine c_istore hx hb dL_law_235 hl (Nat.le_of_ble_eq_true rfl) (lvKi (lvKa rfl (lvKa rfl (lvKa rfl (lvKa rfl (lvKa rfl lvK0)))))) rfl (fun ls (hl : lv_has ls 7 [(6, .int r.1), (5, .int (r.2.2 81)), (0, .ref b), (1, cv Φ (some 1)), (2, .ref mb), (3, .ref o), (4, .int i)]) => ?_)
  refine lv_aload_n hx hb dL_law_237 rfl (lv_at hl 4 rfl) ?_
  refine l_mr (l_mrun (n := 0) (rest := []) X Wd (K_thrown l Dm mb r.2 (r := r.2.2 81) rfl) ⟨w_1838, w_1839, w_1840, w_1841⟩ (hyX rfl (by decide +kernel)) rfl ⟨(Nat.le_of_ble_eq_true rfl), (Nat.le_of_ble_eq_true rfl)⟩ hl.1 (Nat.le_of_ble_eq_true rfl) dL_law_238 rfl ⟨by omega, by omega⟩) ?_
  refine lv_iload hx hb dL_law_241 (lv_at hl 1 rfl) ?_
  refine lv_icmp_eq (tgt := 248) hx hb dL_law_243 rfl (fun _ => ?_) (fun hc => absurd rfl hc)
  refine lv_iload hx hb dL_law_248 (lv_at hl 1 rfl) ?_
  refine lv_if_ne (tgt := 265) hx hb dL_law_250 rfl (fun hc => ?_) (fun hc => ?_)
  · refine lv_goto (tgt := 2797) hx hb dL_law_265 rfl ?_
    refine W.widen (k := cells + 13) (n := slots + 151) (by omega) (by omega) ?_
    exact kk _ _ _ H ls (hnx _ hn) Wd (lv_sub hl [2, 3, 4, 5, 6] rfl)
  · obtain ⟨u, hu⟩ := lcd_z2 hag.1 hc
    have hw9 := hx9 u hu
    have hw8 := hag.2 u hu
    refine lv_aload_n hx hb dL_law_253 rfl (lv_at hl 5 rfl) ?_
    refine lv_iconst (v := 0) hx hb dL_law_254 (by decide) ?_
    refine l_lald X Wd dL_law_255 ?_
    refine lv_iload hx hb dL_law_256 (lv_at hl 0 rfl) ?_
    refine lv_i2l (v := lvN r.1) hx hb dL_law_258 rfl ?_
    refine W.lcmp hx hb dL_law_259 ?_
    refine lv_if_eq (tgt := 265) hx hb dL_law_260 rfl (fun _ => ?_) (fun hc => absurd (by rw [hw9, hw8]; exact lg_cmp_self _) hc)
    refine lv_goto (tgt := 2797) hx hb dL_law_265 rfl ?_
    refine W.widen (k := cells + 13) (n := slots + 151) (by omega) (by omega) ?_
    exact kk _ _ _ H ls (hnx _ hn) Wd (lv_sub hl [2, 3, 4, 5, 6] rfl)
set_option maxRecDepth 20000 in
set_option maxHeartbeats 4000000 in
theorem L_case_1 {p : Program} {l : Launch} {e : Env} {s : State} {m : MethodId} {args : Array Value} {below : List Frame} {meth : Method} {c : Code} {H : Heap} {cells slots : Nat} {Q : State → Prop} {ls : Array Slot} {D : cD} {Φ : cG} {Dm : mD} {mb o : Nat} {cL : ClassId} {b L : Nat} {xs : Nat → Int32} {S : cS} {σ : mS} {w : Int64} {i : Int32} (hl9 : l.stackTraces = false) (X : lX p s m args meth c D Φ Dm mb o cL b L xs) {Sim Sim1 : cS → mS → Prop} (hsim : sim_shadow Sim Sim1) (hrc : rc S (some 1) 11 = some 1) (hin : lIn i L) (Wd : lWd D Φ Dm mb o cL s.heap S σ w H) (hS : Sim S σ) (hl : lv_has ls 7 (lLv Φ b mb o i)) (hf : cells + 13 ≤ 601024 ∧ slots + 151 ≤ 7293034) (kk : ∀ (S1 : cS) (σ1 : mS) (w1 : Int64) (H1 : Heap) (ls1 : Array Slot), Sim1 S1 σ1 → lWd D Φ Dm mb o cL s.heap S1 σ1 w1 H1 → lv_has ls1 7 (lLv Φ b mb o i) → W p l e lR s m args below meth c H1 [] (cells + 13) (slots + 151) Q (F0 m 2797 ls1 [])) : W p l e lR s m args below meth c H [] cells slots Q (F0 m 268 ls []) := by
  have hx := X.1.1
  have hb := X.1.2.1
  have hts := X.1.2.2.2.2.1
  have hl : lv_has ls 7 [(0, .ref b), (1, cv Φ (some 1)), (2, .ref mb), (3, .ref o), (4, .int i)] := hl
  obtain ⟨q, r, hq, hr, hag, hnx⟩ := hsim S σ (xs (i + 1).toNatClampNeg) hS 
  refine c_aload_n hx hb dL_law_268 rfl (lv_at hl 1 rfl) ?_
  refine lv_aload_n hx hb dL_law_269 rfl (lv_at hl 0 rfl) ?_
  refine lv_iload hx hb dL_law_270 (lv_at hl 4 rfl) ?_
  refine lv_iconst (v := 1) hx hb dL_law_272 (by decide) ?_
  refine lv_iadd hx hb dL_law_273 ?_
  refine l_sld X Wd hin.2.1 dL_law_274 ?_
  refine l_w0 (rest := []) (v := (r.2 81)) X Wd (K_L_shadow l hl9 D Φ S 1 (xs (i + 1).toNatClampNeg) hrc hq hag) ⟨w_831, ww_L_shadow⟩ hy_L_shadow rfl ⟨(Nat.le_of_ble_eq_true rfl), (Nat.le_of_ble_eq_true rfl)⟩ hl.1 (Nat.le_of_ble_eq_true rfl) dL_law_275 rfl ⟨by omega, by omega⟩ (fun n9 H hn Wd => ?_)
  refine c_istore hx hb dL_law_278 hl (Nat.le_of_ble_eq_true rfl) (lvKa rfl (lvKa rfl (lvKa rfl (lvKa rfl (lvKi lvK0))))) rfl (fun ls (hl : lv_has ls 7 [(5, .int (r.2 81)), (0, .ref b), (1, cv Φ (some 1)), (2, .ref mb), (3, .ref o), (4, .int i)]) => ?_)
  refine lv_aload_n hx hb dL_law_280 rfl (lv_at hl 3 rfl) ?_
  refine lv_aload_n hx hb dL_law_281 rfl (lv_at hl 1 rfl) ?_
  refine lv_iload hx hb dL_law_282 (lv_at hl 5 rfl) ?_
  refine lv_iconst (v := 1) hx hb dL_law_284 (by decide) ?_
  refine lv_iadd hx hb dL_law_285 ?_
  refine l_sld X Wd hin.2.1 dL_law_286 ?_
  refine l_mw X Wd (l_mrun (n := 1) (rest := []) X Wd (K_shadow l Dm mb σ (xs (i + 1).toNatClampNeg) hr) ⟨w_1854, w_1855, w_1856, w_1857⟩ (hyX rfl (by decide +kernel)) rfl ⟨(Nat.le_of_ble_eq_true rfl), (Nat.le_of_ble_eq_true rfl)⟩ hl.1 (Nat.le_of_ble_eq_true rfl) dL_law_287 rfl ⟨by omega, by omega⟩) (fun H Wd => ?_)
  refine W.eq (g2 := F0 m 290 ls []) rfl ?_
  refine lv_aload_n hx hb dL_law_290 rfl (lv_at hl 3 rfl) ?_
  refine l_mr (l_mrun (n := 0) (rest := []) X Wd (K_thrown l Dm mb r (r := r.2 81) rfl) ⟨w_1838, w_1839, w_1840, w_1841⟩ (hyX rfl (by decide +kernel)) rfl ⟨(Nat.le_of_ble_eq_true rfl), (Nat.le_of_ble_eq_true rfl)⟩ hl.1 (Nat.le_of_ble_eq_true rfl) dL_law_291 rfl ⟨by omega, by omega⟩) ?_
  refine lv_iload hx hb dL_law_294 (lv_at hl 0 rfl) ?_
  refine lv_icmp_eq (tgt := 301) hx hb dL_law_296 rfl (fun _ => ?_) (fun hc => absurd rfl hc)
  refine lv_goto (tgt := 2797) hx hb dL_law_301 rfl ?_
  refine W.widen (k := cells + 13) (n := slots + 151) (by omega) (by omega) ?_
  exact kk _ _ _ H ls (hnx _ hn) Wd (lv_sub hl [1, 2, 3, 4, 5] rfl)
set_option maxRecDepth 20000 in
set_option maxHeartbeats 4000000 in
theorem L_case_2 {p : Program} {l : Launch} {e : Env} {s : State} {m : MethodId} {args : Array Value} {below : List Frame} {meth : Method} {c : Code} {H : Heap} {cells slots : Nat} {Q : State → Prop} {ls : Array Slot} {D : cD} {Φ : cG} {Dm : mD} {mb o : Nat} {cL : ClassId} {b L : Nat} {xs : Nat → Int32} {S : cS} {σ : mS} {w : Int64} {i : Int32} (hl9 : l.stackTraces = false) (X : lX p s m args meth c D Φ Dm mb o cL b L xs) {Sim Sim1 : cS → mS → Prop} (hsim : sim_put Sim Sim1) (hrc : rc S (some 1) 11 = some 1) (hin : lIn i L) (Wd : lWd D Φ Dm mb o cL s.heap S σ w H) (hS : Sim S σ) (hl : lv_has ls 7 (lLv Φ b mb o i)) (hf : cells + 13 ≤ 601024 ∧ slots + 151 ≤ 7293034) (kk : ∀ (S1 : cS) (σ1 : mS) (w1 : Int64) (H1 : Heap) (ls1 : Array Slot), Sim1 S1 σ1 → lWd D Φ Dm mb o cL s.heap S1 σ1 w1 H1 → lv_has ls1 7 (lLv Φ b mb o i) → W p l e lR s m args below meth c H1 [] (cells + 13) (slots + 151) Q (F0 m 2797 ls1 [])) : W p l e lR s m args below meth c H [] cells slots Q (F0 m 304 ls []) := by
  have hx := X.1.1
  have hb := X.1.2.1
  have hts := X.1.2.2.2.2.1
  have hl : lv_has ls 7 [(0, .ref b), (1, cv Φ (some 1)), (2, .ref mb), (3, .ref o), (4, .int i)] := hl
  obtain ⟨q, r, hq, hr, hag, hnx⟩ := hsim S σ (xs (i + 1).toNatClampNeg) (xs (i + 2).toNatClampNeg) (xs (i + 3).toNatClampNeg) hS 
  refine c_aload_n hx hb dL_law_304 rfl (lv_at hl 1 rfl) ?_
  refine lv_aload_n hx hb dL_law_305 rfl (lv_at hl 0 rfl) ?_
  refine lv_iload hx hb dL_law_306 (lv_at hl 4 rfl) ?_
  refine lv_iconst (v := 1) hx hb dL_law_308 (by decide) ?_
  refine lv_iadd hx hb dL_law_309 ?_
  refine l_sld X Wd hin.2.1 dL_law_310 ?_
  refine lv_aload_n hx hb dL_law_311 rfl (lv_at hl 0 rfl) ?_
  refine lv_iload hx hb dL_law_312 (lv_at hl 4 rfl) ?_
  refine lv_iconst (v := 2) hx hb dL_law_314 (by decide) ?_
  refine lv_iadd hx hb dL_law_315 ?_
  refine l_sld X Wd hin.2.2.1 dL_law_316 ?_
  refine lv_aload_n hx hb dL_law_317 rfl (lv_at hl 0 rfl) ?_
  refine lv_iload hx hb dL_law_318 (lv_at hl 4 rfl) ?_
  refine lv_iconst (v := 3) hx hb dL_law_320 (by decide) ?_
  refine lv_iadd hx hb dL_law_321 ?_
  refine l_sld X Wd hin.2.2.2.1 dL_law_322 ?_
  refine l_w0 (rest := []) (v := (r.2 81)) X Wd (K_L_put l hl9 D Φ S 1 (xs (i + 1).toNatClampNeg) (xs (i + 2).toNatClampNeg) (xs (i + 3).toNatClampNeg) hrc hq hag) ⟨w_911, ww_L_put⟩ hy_L_put rfl ⟨(Nat.le_of_ble_eq_true rfl), (Nat.le_of_ble_eq_true rfl)⟩ hl.1 (Nat.le_of_ble_eq_true rfl) dL_law_323 rfl ⟨by omega, by omega⟩ (fun n9 H hn Wd => ?_)
  refine c_istore hx hb dL_law_326 hl (Nat.le_of_ble_eq_true rfl) (lvKa rfl (lvKa rfl (lvKa rfl (lvKa rfl (lvKi lvK0))))) rfl (fun ls (hl : lv_has ls 7 [(5, .int (r.2 81)), (0, .ref b), (1, cv Φ (some 1)), (2, .ref mb), (3, .ref o), (4, .int i)]) => ?_)
  refine lv_aload_n hx hb dL_law_328 rfl (lv_at hl 3 rfl) ?_
  refine lv_aload_n hx hb dL_law_329 rfl (lv_at hl 1 rfl) ?_
  refine lv_iload hx hb dL_law_330 (lv_at hl 5 rfl) ?_
  refine lv_iconst (v := 1) hx hb dL_law_332 (by decide) ?_
  refine lv_iadd hx hb dL_law_333 ?_
  refine l_sld X Wd hin.2.1 dL_law_334 ?_
  refine lv_aload_n hx hb dL_law_335 rfl (lv_at hl 1 rfl) ?_
  refine lv_iload hx hb dL_law_336 (lv_at hl 5 rfl) ?_
  refine lv_iconst (v := 2) hx hb dL_law_338 (by decide) ?_
  refine lv_iadd hx hb dL_law_339 ?_
  refine l_sld X Wd hin.2.2.1 dL_law_340 ?_
  refine lv_aload_n hx hb dL_law_341 rfl (lv_at hl 1 rfl) ?_
  refine lv_iload hx hb dL_law_342 (lv_at hl 5 rfl) ?_
  refine lv_iconst (v := 3) hx hb dL_law_344 (by decide) ?_
  refine lv_iadd hx hb dL_law_345 ?_
  refine l_sld X Wd hin.2.2.2.1 dL_law_346 ?_
  refine l_mw X Wd (l_mrun (n := 3) (rest := []) X Wd (K_put l Dm mb σ (xs (i + 1).toNatClampNeg) (xs (i + 2).toNatClampNeg) (xs (i + 3).toNatClampNeg) hr) ⟨w_1882, w_1883, w_1884, w_1885⟩ (hyX rfl (by decide +kernel)) rfl ⟨(Nat.le_of_ble_eq_true rfl), (Nat.le_of_ble_eq_true rfl)⟩ hl.1 (Nat.le_of_ble_eq_true rfl) dL_law_347 rfl ⟨by omega, by omega⟩) (fun H Wd => ?_)
  refine W.eq (g2 := F0 m 350 ls []) rfl ?_
  refine lv_aload_n hx hb dL_law_350 rfl (lv_at hl 3 rfl) ?_
  refine l_mr (l_mrun (n := 0) (rest := []) X Wd (K_thrown l Dm mb r (r := r.2 81) rfl) ⟨w_1838, w_1839, w_1840, w_1841⟩ (hyX rfl (by decide +kernel)) rfl ⟨(Nat.le_of_ble_eq_true rfl), (Nat.le_of_ble_eq_true rfl)⟩ hl.1 (Nat.le_of_ble_eq_true rfl) dL_law_351 rfl ⟨by omega, by omega⟩) ?_
  refine lv_iload hx hb dL_law_354 (lv_at hl 0 rfl) ?_
  refine lv_icmp_eq (tgt := 361) hx hb dL_law_356 rfl (fun _ => ?_) (fun hc => absurd rfl hc)
  refine lv_goto (tgt := 2797) hx hb dL_law_361 rfl ?_
  refine W.widen (k := cells + 13) (n := slots + 151) (by omega) (by omega) ?_
  exact kk _ _ _ H ls (hnx _ hn) Wd (lv_sub hl [1, 2, 3, 4, 5] rfl)
set_option maxRecDepth 20000 in
set_option maxHeartbeats 4000000 in
theorem L_case_3 {p : Program} {l : Launch} {e : Env} {s : State} {m : MethodId} {args : Array Value} {below : List Frame} {meth : Method} {c : Code} {H : Heap} {cells slots : Nat} {Q : State → Prop} {ls : Array Slot} {D : cD} {Φ : cG} {Dm : mD} {mb o : Nat} {cL : ClassId} {b L : Nat} {xs : Nat → Int32} {S : cS} {σ : mS} {w : Int64} {i : Int32} (hl9 : l.stackTraces = false) (X : lX p s m args meth c D Φ Dm mb o cL b L xs) {Sim Sim1 : cS → mS → Prop} (hsim : sim_putTop Sim Sim1) (hrc : rc S (some 1) 11 = some 1) (hin : lIn i L) (Wd : lWd D Φ Dm mb o cL s.heap S σ w H) (hS : Sim S σ) (hl : lv_has ls 7 (lLv Φ b mb o i)) (hf : cells + 13 ≤ 601024 ∧ slots + 151 ≤ 7293034) (kk : ∀ (S1 : cS) (σ1 : mS) (w1 : Int64) (H1 : Heap) (ls1 : Array Slot), Sim1 S1 σ1 → lWd D Φ Dm mb o cL s.heap S1 σ1 w1 H1 → lv_has ls1 7 (lLv Φ b mb o i) → W p l e lR s m args below meth c H1 [] (cells + 13) (slots + 151) Q (F0 m 2797 ls1 [])) : W p l e lR s m args below meth c H [] cells slots Q (F0 m 364 ls []) := by
  have hx := X.1.1
  have hb := X.1.2.1
  have hts := X.1.2.2.2.2.1
  have hl : lv_has ls 7 [(0, .ref b), (1, cv Φ (some 1)), (2, .ref mb), (3, .ref o), (4, .int i)] := hl
  obtain ⟨q, r, hq, hr, hag, hnx⟩ := hsim S σ (xs (i + 1).toNatClampNeg) (xs (i + 2).toNatClampNeg) (xs (i + 3).toNatClampNeg) hS 
  refine c_aload_n hx hb dL_law_364 rfl (lv_at hl 1 rfl) ?_
  refine lv_aload_n hx hb dL_law_365 rfl (lv_at hl 0 rfl) ?_
  refine lv_iload hx hb dL_law_366 (lv_at hl 4 rfl) ?_
  refine lv_iconst (v := 1) hx hb dL_law_368 (by decide) ?_
  refine lv_iadd hx hb dL_law_369 ?_
  refine l_sld X Wd hin.2.1 dL_law_370 ?_
  refine lv_aload_n hx hb dL_law_371 rfl (lv_at hl 0 rfl) ?_
  refine lv_iload hx hb dL_law_372 (lv_at hl 4 rfl) ?_
  refine lv_iconst (v := 2) hx hb dL_law_374 (by decide) ?_
  refine lv_iadd hx hb dL_law_375 ?_
  refine l_sld X Wd hin.2.2.1 dL_law_376 ?_
  refine lv_aload_n hx hb dL_law_377 rfl (lv_at hl 0 rfl) ?_
  refine lv_iload hx hb dL_law_378 (lv_at hl 4 rfl) ?_
  refine lv_iconst (v := 3) hx hb dL_law_380 (by decide) ?_
  refine lv_iadd hx hb dL_law_381 ?_
  refine l_sld X Wd hin.2.2.2.1 dL_law_382 ?_
  refine l_w0 (rest := []) (v := (r.2 81)) X Wd (K_L_putTop l hl9 D Φ S 1 (xs (i + 1).toNatClampNeg) (xs (i + 2).toNatClampNeg) (xs (i + 3).toNatClampNeg) hrc hq hag) ⟨w_950, ww_L_putTop⟩ hy_L_putTop rfl ⟨(Nat.le_of_ble_eq_true rfl), (Nat.le_of_ble_eq_true rfl)⟩ hl.1 (Nat.le_of_ble_eq_true rfl) dL_law_383 rfl ⟨by omega, by omega⟩ (fun n9 H hn Wd => ?_)
  refine c_istore hx hb dL_law_386 hl (Nat.le_of_ble_eq_true rfl) (lvKa rfl (lvKa rfl (lvKa rfl (lvKa rfl (lvKi lvK0))))) rfl (fun ls (hl : lv_has ls 7 [(5, .int (r.2 81)), (0, .ref b), (1, cv Φ (some 1)), (2, .ref mb), (3, .ref o), (4, .int i)]) => ?_)
  refine lv_aload_n hx hb dL_law_388 rfl (lv_at hl 3 rfl) ?_
  refine lv_aload_n hx hb dL_law_389 rfl (lv_at hl 1 rfl) ?_
  refine lv_iload hx hb dL_law_390 (lv_at hl 5 rfl) ?_
  refine lv_iconst (v := 1) hx hb dL_law_392 (by decide) ?_
  refine lv_iadd hx hb dL_law_393 ?_
  refine l_sld X Wd hin.2.1 dL_law_394 ?_
  refine lv_aload_n hx hb dL_law_395 rfl (lv_at hl 1 rfl) ?_
  refine lv_iload hx hb dL_law_396 (lv_at hl 5 rfl) ?_
  refine lv_iconst (v := 2) hx hb dL_law_398 (by decide) ?_
  refine lv_iadd hx hb dL_law_399 ?_
  refine l_sld X Wd hin.2.2.1 dL_law_400 ?_
  refine lv_aload_n hx hb dL_law_401 rfl (lv_at hl 1 rfl) ?_
  refine lv_iload hx hb dL_law_402 (lv_at hl 5 rfl) ?_
  refine lv_iconst (v := 3) hx hb dL_law_404 (by decide) ?_
  refine lv_iadd hx hb dL_law_405 ?_
  refine l_sld X Wd hin.2.2.2.1 dL_law_406 ?_
  refine l_mw X Wd (l_mrun (n := 3) (rest := []) X Wd (K_putTop l Dm mb σ (xs (i + 1).toNatClampNeg) (xs (i + 2).toNatClampNeg) (xs (i + 3).toNatClampNeg) hr) ⟨w_1946, w_1947, w_1948, w_1949⟩ (hyX rfl (by decide +kernel)) rfl ⟨(Nat.le_of_ble_eq_true rfl), (Nat.le_of_ble_eq_true rfl)⟩ hl.1 (Nat.le_of_ble_eq_true rfl) dL_law_407 rfl ⟨by omega, by omega⟩) (fun H Wd => ?_)
  refine W.eq (g2 := F0 m 410 ls []) rfl ?_
  refine lv_aload_n hx hb dL_law_410 rfl (lv_at hl 3 rfl) ?_
  refine l_mr (l_mrun (n := 0) (rest := []) X Wd (K_thrown l Dm mb r (r := r.2 81) rfl) ⟨w_1838, w_1839, w_1840, w_1841⟩ (hyX rfl (by decide +kernel)) rfl ⟨(Nat.le_of_ble_eq_true rfl), (Nat.le_of_ble_eq_true rfl)⟩ hl.1 (Nat.le_of_ble_eq_true rfl) dL_law_411 rfl ⟨by omega, by omega⟩) ?_
  refine lv_iload hx hb dL_law_414 (lv_at hl 0 rfl) ?_
  refine lv_icmp_eq (tgt := 421) hx hb dL_law_416 rfl (fun _ => ?_) (fun hc => absurd rfl hc)
  refine lv_goto (tgt := 2797) hx hb dL_law_421 rfl ?_
  refine W.widen (k := cells + 13) (n := slots + 151) (by omega) (by omega) ?_
  exact kk _ _ _ H ls (hnx _ hn) Wd (lv_sub hl [1, 2, 3, 4, 5] rfl)
set_option maxRecDepth 20000 in
set_option maxHeartbeats 4000000 in
theorem L_case_4 {p : Program} {l : Launch} {e : Env} {s : State} {m : MethodId} {args : Array Value} {below : List Frame} {meth : Method} {c : Code} {H : Heap} {cells slots : Nat} {Q : State → Prop} {ls : Array Slot} {D : cD} {Φ : cG} {Dm : mD} {mb o : Nat} {cL : ClassId} {b L : Nat} {xs : Nat → Int32} {S : cS} {σ : mS} {w : Int64} {i : Int32} (hl9 : l.stackTraces = false) (X : lX p s m args meth c D Φ Dm mb o cL b L xs) {Sim Sim1 : cS → mS → Prop} (hsim : sim_take Sim Sim1) (hrc : rc S (some 1) 11 = some 1) (hin : lIn i L) (Wd : lWd D Φ Dm mb o cL s.heap S σ w H) (hS : Sim S σ) (hl : lv_has ls 7 (lLv Φ b mb o i)) (hf : cells + 13 ≤ 601024 ∧ slots + 151 ≤ 7293034) (kk : ∀ (S1 : cS) (σ1 : mS) (w1 : Int64) (H1 : Heap) (ls1 : Array Slot), Sim1 S1 σ1 → lWd D Φ Dm mb o cL s.heap S1 σ1 w1 H1 → lv_has ls1 7 (lLv Φ b mb o i) → W p l e lR s m args below meth c H1 [] (cells + 13) (slots + 151) Q (F0 m 2797 ls1 [])) : W p l e lR s m args below meth c H [] cells slots Q (F0 m 424 ls []) := by
  have hx := X.1.1
  have hb := X.1.2.1
  have hts := X.1.2.2.2.2.1
  have hl : lv_has ls 7 [(0, .ref b), (1, cv Φ (some 1)), (2, .ref mb), (3, .ref o), (4, .int i)] := hl
  obtain ⟨q, r, hq, hr, hag, hnx⟩ := hsim S σ (xs (i + 1).toNatClampNeg) hS 
  refine c_aload_n hx hb dL_law_424 rfl (lv_at hl 1 rfl) ?_
  refine lv_aload_n hx hb dL_law_425 rfl (lv_at hl 0 rfl) ?_
  refine lv_iload hx hb dL_law_426 (lv_at hl 4 rfl) ?_
  refine lv_iconst (v := 1) hx hb dL_law_428 (by decide) ?_
  refine lv_iadd hx hb dL_law_429 ?_
  refine l_sld X Wd hin.2.1 dL_law_430 ?_
  refine lv_aload_n hx hb dL_law_431 rfl (lv_at hl 3 rfl) ?_
  refine l_w1 (rest := []) (v := (r.2.2 81)) X Wd (K_L_take l hl9 D Φ S o cL w 1 (xs (i + 1).toNatClampNeg) hrc hq hag.1) ⟨w_957, ww_L_take⟩ hy_L_take rfl ⟨(Nat.le_of_ble_eq_true rfl), (Nat.le_of_ble_eq_true rfl)⟩ hl.1 (Nat.le_of_ble_eq_true rfl) dL_law_432 rfl ⟨by omega, by omega⟩ (fun n9 w H hn hx9 Wd => ?_)
  refine c_istore hx hb dL_law_435 hl (Nat.le_of_ble_eq_true rfl) (lvKa rfl (lvKa rfl (lvKa rfl (lvKa rfl (lvKi lvK0))))) rfl (fun ls (hl : lv_has ls 7 [(5, .int (r.2.2 81)), (0, .ref b), (1, cv Φ (some 1)), (2, .ref mb), (3, .ref o), (4, .int i)]) => ?_)
  refine lv_aload_n hx hb dL_law_437 rfl (lv_at hl 3 rfl) ?_
  refine lv_aload_n hx hb dL_law_438 rfl (lv_at hl 1 rfl) ?_
  refine lv_iload hx hb dL_law_439 (lv_at hl 5 rfl) ?_
  refine lv_iconst (v := 1) hx hb dL_law_441 (by decide) ?_
  refine lv_iadd hx hb dL_law_442 ?_
  refine l_sld X Wd hin.2.1 dL_law_443 ?_
  refine l_mw X Wd (l_mrun (n := 1) (rest := []) X Wd (K_take l Dm mb σ (xs (i + 1).toNatClampNeg) hr) ⟨w_1950, w_1951, w_1952, w_1953⟩ (hyX rfl (by decide +kernel)) rfl ⟨(Nat.le_of_ble_eq_true rfl), (Nat.le_of_ble_eq_true rfl)⟩ hl.1 (Nat.le_of_ble_eq_true rfl) dL_law_444 rfl ⟨by omega, by omega⟩) (fun H Wd => ?_)
  refine W.eq (g2 := F0 m 447 ls [.int r.1]) rfl ?_
  refine c_istore hx hb dL_law_447 hl (Nat.le_of_ble_eq_true rfl) (lvKi (lvKa rfl (lvKa rfl (lvKa rfl (lvKa rfl (lvKa rfl lvK0)))))) rfl (fun ls (hl : lv_has ls 7 [(6, .int r.1), (5, .int (r.2.2 81)), (0, .ref b), (1, cv Φ (some 1)), (2, .ref mb), (3, .ref o), (4, .int i)]) => ?_)
  refine lv_aload_n hx hb dL_law_449 rfl (lv_at hl 4 rfl) ?_
  refine l_mr (l_mrun (n := 0) (rest := []) X Wd (K_thrown l Dm mb r.2 (r := r.2.2 81) rfl) ⟨w_1838, w_1839, w_1840, w_1841⟩ (hyX rfl (by decide +kernel)) rfl ⟨(Nat.le_of_ble_eq_true rfl), (Nat.le_of_ble_eq_true rfl)⟩ hl.1 (Nat.le_of_ble_eq_true rfl) dL_law_450 rfl ⟨by omega, by omega⟩) ?_
  refine lv_iload hx hb dL_law_453 (lv_at hl 1 rfl) ?_
  refine lv_icmp_eq (tgt := 460) hx hb dL_law_455 rfl (fun _ => ?_) (fun hc => absurd rfl hc)
  refine lv_iload hx hb dL_law_460 (lv_at hl 1 rfl) ?_
  refine lv_if_ne (tgt := 477) hx hb dL_law_462 rfl (fun hc => ?_) (fun hc => ?_)
  · refine lv_goto (tgt := 2797) hx hb dL_law_477 rfl ?_
    refine W.widen (k := cells + 13) (n := slots + 151) (by omega) (by omega) ?_
    exact kk _ _ _ H ls (hnx _ hn) Wd (lv_sub hl [2, 3, 4, 5, 6] rfl)
  · obtain ⟨u, hu⟩ := lcd_z2 hag.1 hc
    have hw9 := hx9 u hu
    have hw8 := hag.2 u hu
    refine lv_aload_n hx hb dL_law_465 rfl (lv_at hl 5 rfl) ?_
    refine lv_iconst (v := 0) hx hb dL_law_466 (by decide) ?_
    refine l_lald X Wd dL_law_467 ?_
    refine lv_iload hx hb dL_law_468 (lv_at hl 0 rfl) ?_
    refine lv_i2l (v := lvN r.1) hx hb dL_law_470 rfl ?_
    refine W.lcmp hx hb dL_law_471 ?_
    refine lv_if_eq (tgt := 477) hx hb dL_law_472 rfl (fun _ => ?_) (fun hc => absurd (by rw [hw9, hw8]; exact lg_cmp_self _) hc)
    refine lv_goto (tgt := 2797) hx hb dL_law_477 rfl ?_
    refine W.widen (k := cells + 13) (n := slots + 151) (by omega) (by omega) ?_
    exact kk _ _ _ H ls (hnx _ hn) Wd (lv_sub hl [2, 3, 4, 5, 6] rfl)
set_option maxRecDepth 20000 in
set_option maxHeartbeats 4000000 in
theorem L_case_5 {p : Program} {l : Launch} {e : Env} {s : State} {m : MethodId} {args : Array Value} {below : List Frame} {meth : Method} {c : Code} {H : Heap} {cells slots : Nat} {Q : State → Prop} {ls : Array Slot} {D : cD} {Φ : cG} {Dm : mD} {mb o : Nat} {cL : ClassId} {b L : Nat} {xs : Nat → Int32} {S : cS} {σ : mS} {w : Int64} {i : Int32} (hl9 : l.stackTraces = false) (X : lX p s m args meth c D Φ Dm mb o cL b L xs) {Sim Sim1 : cS → mS → Prop} (hsim : sim_setClass Sim Sim1) (hrc : rc S (some 1) 11 = some 1) (hin : lIn i L) (Wd : lWd D Φ Dm mb o cL s.heap S σ w H) (hS : Sim S σ) (hl : lv_has ls 7 (lLv Φ b mb o i)) (hf : cells + 13 ≤ 601024 ∧ slots + 151 ≤ 7293034) (kk : ∀ (S1 : cS) (σ1 : mS) (w1 : Int64) (H1 : Heap) (ls1 : Array Slot), Sim1 S1 σ1 → lWd D Φ Dm mb o cL s.heap S1 σ1 w1 H1 → lv_has ls1 7 (lLv Φ b mb o i) → W p l e lR s m args below meth c H1 [] (cells + 13) (slots + 151) Q (F0 m 2797 ls1 [])) : W p l e lR s m args below meth c H [] cells slots Q (F0 m 480 ls []) := by
  have hx := X.1.1
  have hb := X.1.2.1
  have hts := X.1.2.2.2.2.1
  have hl : lv_has ls 7 [(0, .ref b), (1, cv Φ (some 1)), (2, .ref mb), (3, .ref o), (4, .int i)] := hl
  obtain ⟨q, r, hq, hr, hag, hnx⟩ := hsim S σ (xs (i + 1).toNatClampNeg) (xs (i + 2).toNatClampNeg) (lz (xs (i + 3).toNatClampNeg)) hS (lz_01 _)
  refine c_aload_n hx hb dL_law_480 rfl (lv_at hl 1 rfl) ?_
  refine lv_aload_n hx hb dL_law_481 rfl (lv_at hl 0 rfl) ?_
  refine lv_iload hx hb dL_law_482 (lv_at hl 4 rfl) ?_
  refine lv_iconst (v := 1) hx hb dL_law_484 (by decide) ?_
  refine lv_iadd hx hb dL_law_485 ?_
  refine l_sld X Wd hin.2.1 dL_law_486 ?_
  refine lv_aload_n hx hb dL_law_487 rfl (lv_at hl 0 rfl) ?_
  refine lv_iload hx hb dL_law_488 (lv_at hl 4 rfl) ?_
  refine lv_iconst (v := 2) hx hb dL_law_490 (by decide) ?_
  refine lv_iadd hx hb dL_law_491 ?_
  refine l_sld X Wd hin.2.2.1 dL_law_492 ?_
  refine lv_aload_n hx hb dL_law_493 rfl (lv_at hl 0 rfl) ?_
  refine lv_iload hx hb dL_law_494 (lv_at hl 4 rfl) ?_
  refine lv_iconst (v := 3) hx hb dL_law_496 (by decide) ?_
  refine lv_iadd hx hb dL_law_497 ?_
  refine l_sld X Wd hin.2.2.2.1 dL_law_498 ?_
  refine l_tern hx hb dL_law_499 dL_law_502 dL_law_503 dL_law_506 ?_
  refine lv_aload_n hx hb dL_law_507 rfl (lv_at hl 3 rfl) ?_
  refine l_w1 (rest := []) (v := (r.2.2 81)) X Wd (K_L_setClass l hl9 D Φ S o cL w 1 (xs (i + 1).toNatClampNeg) (xs (i + 2).toNatClampNeg) (lz (xs (i + 3).toNatClampNeg)) hrc hq hag.1) ⟨w_968, ww_L_setClass⟩ hy_L_setClass rfl ⟨(Nat.le_of_ble_eq_true rfl), (Nat.le_of_ble_eq_true rfl)⟩ hl.1 (Nat.le_of_ble_eq_true rfl) dL_law_508 rfl ⟨by omega, by omega⟩ (fun n9 w H hn hx9 Wd => ?_)
  refine c_istore hx hb dL_law_511 hl (Nat.le_of_ble_eq_true rfl) (lvKa rfl (lvKa rfl (lvKa rfl (lvKa rfl (lvKi lvK0))))) rfl (fun ls (hl : lv_has ls 7 [(5, .int (r.2.2 81)), (0, .ref b), (1, cv Φ (some 1)), (2, .ref mb), (3, .ref o), (4, .int i)]) => ?_)
  refine lv_aload_n hx hb dL_law_513 rfl (lv_at hl 3 rfl) ?_
  refine lv_aload_n hx hb dL_law_514 rfl (lv_at hl 1 rfl) ?_
  refine lv_iload hx hb dL_law_515 (lv_at hl 5 rfl) ?_
  refine lv_iconst (v := 1) hx hb dL_law_517 (by decide) ?_
  refine lv_iadd hx hb dL_law_518 ?_
  refine l_sld X Wd hin.2.1 dL_law_519 ?_
  refine lv_aload_n hx hb dL_law_520 rfl (lv_at hl 1 rfl) ?_
  refine lv_iload hx hb dL_law_521 (lv_at hl 5 rfl) ?_
  refine lv_iconst (v := 2) hx hb dL_law_523 (by decide) ?_
  refine lv_iadd hx hb dL_law_524 ?_
  refine l_sld X Wd hin.2.2.1 dL_law_525 ?_
  refine lv_aload_n hx hb dL_law_526 rfl (lv_at hl 1 rfl) ?_
  refine lv_iload hx hb dL_law_527 (lv_at hl 5 rfl) ?_
  refine lv_iconst (v := 3) hx hb dL_law_529 (by decide) ?_
  refine lv_iadd hx hb dL_law_530 ?_
  refine l_sld X Wd hin.2.2.2.1 dL_law_531 ?_
  refine l_tern hx hb dL_law_532 dL_law_535 dL_law_536 dL_law_539 ?_
  refine l_mw X Wd (l_mrun (n := 3) (rest := []) X Wd (K_setClass l Dm mb σ (xs (i + 1).toNatClampNeg) (xs (i + 2).toNatClampNeg) (lz (xs (i + 3).toNatClampNeg)) hr) ⟨w_1958, w_1959, w_1960, w_1961⟩ (hyX rfl (by decide +kernel)) rfl ⟨(Nat.le_of_ble_eq_true rfl), (Nat.le_of_ble_eq_true rfl)⟩ hl.1 (Nat.le_of_ble_eq_true rfl) dL_law_540 rfl ⟨by omega, by omega⟩) (fun H Wd => ?_)
  refine W.eq (g2 := F0 m 543 ls [.int r.1]) rfl ?_
  refine c_istore hx hb dL_law_543 hl (Nat.le_of_ble_eq_true rfl) (lvKi (lvKa rfl (lvKa rfl (lvKa rfl (lvKa rfl (lvKa rfl lvK0)))))) rfl (fun ls (hl : lv_has ls 7 [(6, .int r.1), (5, .int (r.2.2 81)), (0, .ref b), (1, cv Φ (some 1)), (2, .ref mb), (3, .ref o), (4, .int i)]) => ?_)
  refine lv_aload_n hx hb dL_law_545 rfl (lv_at hl 4 rfl) ?_
  refine l_mr (l_mrun (n := 0) (rest := []) X Wd (K_thrown l Dm mb r.2 (r := r.2.2 81) rfl) ⟨w_1838, w_1839, w_1840, w_1841⟩ (hyX rfl (by decide +kernel)) rfl ⟨(Nat.le_of_ble_eq_true rfl), (Nat.le_of_ble_eq_true rfl)⟩ hl.1 (Nat.le_of_ble_eq_true rfl) dL_law_546 rfl ⟨by omega, by omega⟩) ?_
  refine lv_iload hx hb dL_law_549 (lv_at hl 1 rfl) ?_
  refine lv_icmp_eq (tgt := 556) hx hb dL_law_551 rfl (fun _ => ?_) (fun hc => absurd rfl hc)
  refine lv_iload hx hb dL_law_556 (lv_at hl 1 rfl) ?_
  refine lv_if_ne (tgt := 580) hx hb dL_law_558 rfl (fun hc => ?_) (fun hc => ?_)
  · refine lv_goto (tgt := 2797) hx hb dL_law_580 rfl ?_
    refine W.widen (k := cells + 13) (n := slots + 151) (by omega) (by omega) ?_
    exact kk _ _ _ H ls (hnx _ hn) Wd (lv_sub hl [2, 3, 4, 5, 6] rfl)
  · obtain ⟨u, hu⟩ := lcd_z2 hag.1 hc
    have hw9 := hx9 u hu
    have hw8 := hag.2 u hu
    refine lv_aload_n hx hb dL_law_561 rfl (lv_at hl 5 rfl) ?_
    refine lv_iconst (v := 0) hx hb dL_law_562 (by decide) ?_
    refine l_lald X Wd dL_law_563 ?_
    refine lv_iload hx hb dL_law_564 (lv_at hl 0 rfl) ?_
    refine l_ternL hx hb dL_law_566 dL_law_569 dL_law_570 dL_law_573 ?_
    refine W.lcmp hx hb dL_law_574 ?_
    refine lv_if_eq (tgt := 580) hx hb dL_law_575 rfl (fun _ => ?_) (fun hc => absurd (by rw [hw9, hw8]; exact lg_cmp_self _) hc)
    refine lv_goto (tgt := 2797) hx hb dL_law_580 rfl ?_
    refine W.widen (k := cells + 13) (n := slots + 151) (by omega) (by omega) ?_
    exact kk _ _ _ H ls (hnx _ hn) Wd (lv_sub hl [2, 3, 4, 5, 6] rfl)
set_option maxRecDepth 20000 in
set_option maxHeartbeats 4000000 in
theorem L_case_6 {p : Program} {l : Launch} {e : Env} {s : State} {m : MethodId} {args : Array Value} {below : List Frame} {meth : Method} {c : Code} {H : Heap} {cells slots : Nat} {Q : State → Prop} {ls : Array Slot} {D : cD} {Φ : cG} {Dm : mD} {mb o : Nat} {cL : ClassId} {b L : Nat} {xs : Nat → Int32} {S : cS} {σ : mS} {w : Int64} {i : Int32} (hl9 : l.stackTraces = false) (X : lX p s m args meth c D Φ Dm mb o cL b L xs) {Sim Sim1 : cS → mS → Prop} (hsim : sim_setState Sim Sim1) (hrc : rc S (some 1) 11 = some 1) (hin : lIn i L) (Wd : lWd D Φ Dm mb o cL s.heap S σ w H) (hS : Sim S σ) (hl : lv_has ls 7 (lLv Φ b mb o i)) (hf : cells + 13 ≤ 601024 ∧ slots + 151 ≤ 7293034) (kk : ∀ (S1 : cS) (σ1 : mS) (w1 : Int64) (H1 : Heap) (ls1 : Array Slot), Sim1 S1 σ1 → lWd D Φ Dm mb o cL s.heap S1 σ1 w1 H1 → lv_has ls1 7 (lLv Φ b mb o i) → W p l e lR s m args below meth c H1 [] (cells + 13) (slots + 151) Q (F0 m 2797 ls1 [])) : W p l e lR s m args below meth c H [] cells slots Q (F0 m 583 ls []) := by
  have hx := X.1.1
  have hb := X.1.2.1
  have hts := X.1.2.2.2.2.1
  have hl : lv_has ls 7 [(0, .ref b), (1, cv Φ (some 1)), (2, .ref mb), (3, .ref o), (4, .int i)] := hl
  obtain ⟨q, r, hq, hr, hag, hnx⟩ := hsim S σ (xs (i + 1).toNatClampNeg) (xs (i + 2).toNatClampNeg) (lz (xs (i + 3).toNatClampNeg)) hS (lz_01 _)
  refine c_aload_n hx hb dL_law_583 rfl (lv_at hl 1 rfl) ?_
  refine lv_aload_n hx hb dL_law_584 rfl (lv_at hl 0 rfl) ?_
  refine lv_iload hx hb dL_law_585 (lv_at hl 4 rfl) ?_
  refine lv_iconst (v := 1) hx hb dL_law_587 (by decide) ?_
  refine lv_iadd hx hb dL_law_588 ?_
  refine l_sld X Wd hin.2.1 dL_law_589 ?_
  refine lv_aload_n hx hb dL_law_590 rfl (lv_at hl 0 rfl) ?_
  refine lv_iload hx hb dL_law_591 (lv_at hl 4 rfl) ?_
  refine lv_iconst (v := 2) hx hb dL_law_593 (by decide) ?_
  refine lv_iadd hx hb dL_law_594 ?_
  refine l_sld X Wd hin.2.2.1 dL_law_595 ?_
  refine lv_aload_n hx hb dL_law_596 rfl (lv_at hl 0 rfl) ?_
  refine lv_iload hx hb dL_law_597 (lv_at hl 4 rfl) ?_
  refine lv_iconst (v := 3) hx hb dL_law_599 (by decide) ?_
  refine lv_iadd hx hb dL_law_600 ?_
  refine l_sld X Wd hin.2.2.2.1 dL_law_601 ?_
  refine l_tern hx hb dL_law_602 dL_law_605 dL_law_606 dL_law_609 ?_
  refine lv_aload_n hx hb dL_law_610 rfl (lv_at hl 3 rfl) ?_
  refine l_w1 (rest := []) (v := (r.2.2 81)) X Wd (K_L_setState l hl9 D Φ S o cL w 1 (xs (i + 1).toNatClampNeg) (xs (i + 2).toNatClampNeg) (lz (xs (i + 3).toNatClampNeg)) hrc hq hag.1) ⟨w_997, ww_L_setState⟩ hy_L_setState rfl ⟨(Nat.le_of_ble_eq_true rfl), (Nat.le_of_ble_eq_true rfl)⟩ hl.1 (Nat.le_of_ble_eq_true rfl) dL_law_611 rfl ⟨by omega, by omega⟩ (fun n9 w H hn hx9 Wd => ?_)
  refine c_istore hx hb dL_law_614 hl (Nat.le_of_ble_eq_true rfl) (lvKa rfl (lvKa rfl (lvKa rfl (lvKa rfl (lvKi lvK0))))) rfl (fun ls (hl : lv_has ls 7 [(5, .int (r.2.2 81)), (0, .ref b), (1, cv Φ (some 1)), (2, .ref mb), (3, .ref o), (4, .int i)]) => ?_)
  refine lv_aload_n hx hb dL_law_616 rfl (lv_at hl 3 rfl) ?_
  refine lv_aload_n hx hb dL_law_617 rfl (lv_at hl 1 rfl) ?_
  refine lv_iload hx hb dL_law_618 (lv_at hl 5 rfl) ?_
  refine lv_iconst (v := 1) hx hb dL_law_620 (by decide) ?_
  refine lv_iadd hx hb dL_law_621 ?_
  refine l_sld X Wd hin.2.1 dL_law_622 ?_
  refine lv_aload_n hx hb dL_law_623 rfl (lv_at hl 1 rfl) ?_
  refine lv_iload hx hb dL_law_624 (lv_at hl 5 rfl) ?_
  refine lv_iconst (v := 2) hx hb dL_law_626 (by decide) ?_
  refine lv_iadd hx hb dL_law_627 ?_
  refine l_sld X Wd hin.2.2.1 dL_law_628 ?_
  refine lv_aload_n hx hb dL_law_629 rfl (lv_at hl 1 rfl) ?_
  refine lv_iload hx hb dL_law_630 (lv_at hl 5 rfl) ?_
  refine lv_iconst (v := 3) hx hb dL_law_632 (by decide) ?_
  refine lv_iadd hx hb dL_law_633 ?_
  refine l_sld X Wd hin.2.2.2.1 dL_law_634 ?_
  refine l_tern hx hb dL_law_635 dL_law_638 dL_law_639 dL_law_642 ?_
  refine l_mw X Wd (l_mrun (n := 3) (rest := []) X Wd (K_setState l Dm mb σ (xs (i + 1).toNatClampNeg) (xs (i + 2).toNatClampNeg) (lz (xs (i + 3).toNatClampNeg)) hr) ⟨w_1966, w_1967, w_1968, w_1969⟩ (hyX rfl (by decide +kernel)) rfl ⟨(Nat.le_of_ble_eq_true rfl), (Nat.le_of_ble_eq_true rfl)⟩ hl.1 (Nat.le_of_ble_eq_true rfl) dL_law_643 rfl ⟨by omega, by omega⟩) (fun H Wd => ?_)
  refine W.eq (g2 := F0 m 646 ls [.int r.1]) rfl ?_
  refine c_istore hx hb dL_law_646 hl (Nat.le_of_ble_eq_true rfl) (lvKi (lvKa rfl (lvKa rfl (lvKa rfl (lvKa rfl (lvKa rfl lvK0)))))) rfl (fun ls (hl : lv_has ls 7 [(6, .int r.1), (5, .int (r.2.2 81)), (0, .ref b), (1, cv Φ (some 1)), (2, .ref mb), (3, .ref o), (4, .int i)]) => ?_)
  refine lv_aload_n hx hb dL_law_648 rfl (lv_at hl 4 rfl) ?_
  refine l_mr (l_mrun (n := 0) (rest := []) X Wd (K_thrown l Dm mb r.2 (r := r.2.2 81) rfl) ⟨w_1838, w_1839, w_1840, w_1841⟩ (hyX rfl (by decide +kernel)) rfl ⟨(Nat.le_of_ble_eq_true rfl), (Nat.le_of_ble_eq_true rfl)⟩ hl.1 (Nat.le_of_ble_eq_true rfl) dL_law_649 rfl ⟨by omega, by omega⟩) ?_
  refine lv_iload hx hb dL_law_652 (lv_at hl 1 rfl) ?_
  refine lv_icmp_eq (tgt := 659) hx hb dL_law_654 rfl (fun _ => ?_) (fun hc => absurd rfl hc)
  refine lv_iload hx hb dL_law_659 (lv_at hl 1 rfl) ?_
  refine lv_if_ne (tgt := 683) hx hb dL_law_661 rfl (fun hc => ?_) (fun hc => ?_)
  · refine lv_goto (tgt := 2797) hx hb dL_law_683 rfl ?_
    refine W.widen (k := cells + 13) (n := slots + 151) (by omega) (by omega) ?_
    exact kk _ _ _ H ls (hnx _ hn) Wd (lv_sub hl [2, 3, 4, 5, 6] rfl)
  · obtain ⟨u, hu⟩ := lcd_z2 hag.1 hc
    have hw9 := hx9 u hu
    have hw8 := hag.2 u hu
    refine lv_aload_n hx hb dL_law_664 rfl (lv_at hl 5 rfl) ?_
    refine lv_iconst (v := 0) hx hb dL_law_665 (by decide) ?_
    refine l_lald X Wd dL_law_666 ?_
    refine lv_iload hx hb dL_law_667 (lv_at hl 0 rfl) ?_
    refine l_ternL hx hb dL_law_669 dL_law_672 dL_law_673 dL_law_676 ?_
    refine W.lcmp hx hb dL_law_677 ?_
    refine lv_if_eq (tgt := 683) hx hb dL_law_678 rfl (fun _ => ?_) (fun hc => absurd (by rw [hw9, hw8]; exact lg_cmp_self _) hc)
    refine lv_goto (tgt := 2797) hx hb dL_law_683 rfl ?_
    refine W.widen (k := cells + 13) (n := slots + 151) (by omega) (by omega) ?_
    exact kk _ _ _ H ls (hnx _ hn) Wd (lv_sub hl [2, 3, 4, 5, 6] rfl)
set_option maxRecDepth 20000 in
set_option maxHeartbeats 4000000 in
theorem L_case_7 {p : Program} {l : Launch} {e : Env} {s : State} {m : MethodId} {args : Array Value} {below : List Frame} {meth : Method} {c : Code} {H : Heap} {cells slots : Nat} {Q : State → Prop} {ls : Array Slot} {D : cD} {Φ : cG} {Dm : mD} {mb o : Nat} {cL : ClassId} {b L : Nat} {xs : Nat → Int32} {S : cS} {σ : mS} {w : Int64} {i : Int32} (hl9 : l.stackTraces = false) (X : lX p s m args meth c D Φ Dm mb o cL b L xs) {Sim Sim1 : cS → mS → Prop} (hsim : sim_setAttribute Sim Sim1) (hrc : rc S (some 1) 11 = some 1) (hin : lIn i L) (Wd : lWd D Φ Dm mb o cL s.heap S σ w H) (hS : Sim S σ) (hl : lv_has ls 7 (lLv Φ b mb o i)) (hf : cells + 13 ≤ 601024 ∧ slots + 151 ≤ 7293034) (kk : ∀ (S1 : cS) (σ1 : mS) (w1 : Int64) (H1 : Heap) (ls1 : Array Slot), Sim1 S1 σ1 → lWd D Φ Dm mb o cL s.heap S1 σ1 w1 H1 → lv_has ls1 7 (lLv Φ b mb o i) → W p l e lR s m args below meth c H1 [] (cells + 13) (slots + 151) Q (F0 m 2797 ls1 [])) : W p l e lR s m args below meth c H [] cells slots Q (F0 m 686 ls []) := by
  have hx := X.1.1
  have hb := X.1.2.1
  have hts := X.1.2.2.2.2.1
  have hl : lv_has ls 7 [(0, .ref b), (1, cv Φ (some 1)), (2, .ref mb), (3, .ref o), (4, .int i)] := hl
  obtain ⟨q, r, hq, hr, hag, hnx⟩ := hsim S σ (xs (i + 1).toNatClampNeg) (xs (i + 2).toNatClampNeg) (xs (i + 3).toNatClampNeg) hS 
  refine c_aload_n hx hb dL_law_686 rfl (lv_at hl 1 rfl) ?_
  refine lv_aload_n hx hb dL_law_687 rfl (lv_at hl 0 rfl) ?_
  refine lv_iload hx hb dL_law_688 (lv_at hl 4 rfl) ?_
  refine lv_iconst (v := 1) hx hb dL_law_690 (by decide) ?_
  refine lv_iadd hx hb dL_law_691 ?_
  refine l_sld X Wd hin.2.1 dL_law_692 ?_
  refine lv_aload_n hx hb dL_law_693 rfl (lv_at hl 0 rfl) ?_
  refine lv_iload hx hb dL_law_694 (lv_at hl 4 rfl) ?_
  refine lv_iconst (v := 2) hx hb dL_law_696 (by decide) ?_
  refine lv_iadd hx hb dL_law_697 ?_
  refine l_sld X Wd hin.2.2.1 dL_law_698 ?_
  refine lv_aload_n hx hb dL_law_699 rfl (lv_at hl 0 rfl) ?_
  refine lv_iload hx hb dL_law_700 (lv_at hl 4 rfl) ?_
  refine lv_iconst (v := 3) hx hb dL_law_702 (by decide) ?_
  refine lv_iadd hx hb dL_law_703 ?_
  refine l_sld X Wd hin.2.2.2.1 dL_law_704 ?_
  refine lv_aload_n hx hb dL_law_705 rfl (lv_at hl 3 rfl) ?_
  refine l_w1 (rest := []) (v := (r.2.2 81)) X Wd (K_L_setAttribute l hl9 D Φ S o cL w 1 (xs (i + 1).toNatClampNeg) (xs (i + 2).toNatClampNeg) (xs (i + 3).toNatClampNeg) hrc hq hag.1) ⟨w_1004, ww_L_setAttribute⟩ hy_L_setAttribute rfl ⟨(Nat.le_of_ble_eq_true rfl), (Nat.le_of_ble_eq_true rfl)⟩ hl.1 (Nat.le_of_ble_eq_true rfl) dL_law_706 rfl ⟨by omega, by omega⟩ (fun n9 w H hn hx9 Wd => ?_)
  refine c_istore hx hb dL_law_709 hl (Nat.le_of_ble_eq_true rfl) (lvKa rfl (lvKa rfl (lvKa rfl (lvKa rfl (lvKi lvK0))))) rfl (fun ls (hl : lv_has ls 7 [(5, .int (r.2.2 81)), (0, .ref b), (1, cv Φ (some 1)), (2, .ref mb), (3, .ref o), (4, .int i)]) => ?_)
  refine lv_aload_n hx hb dL_law_711 rfl (lv_at hl 3 rfl) ?_
  refine lv_aload_n hx hb dL_law_712 rfl (lv_at hl 1 rfl) ?_
  refine lv_iload hx hb dL_law_713 (lv_at hl 5 rfl) ?_
  refine lv_iconst (v := 1) hx hb dL_law_715 (by decide) ?_
  refine lv_iadd hx hb dL_law_716 ?_
  refine l_sld X Wd hin.2.1 dL_law_717 ?_
  refine lv_aload_n hx hb dL_law_718 rfl (lv_at hl 1 rfl) ?_
  refine lv_iload hx hb dL_law_719 (lv_at hl 5 rfl) ?_
  refine lv_iconst (v := 2) hx hb dL_law_721 (by decide) ?_
  refine lv_iadd hx hb dL_law_722 ?_
  refine l_sld X Wd hin.2.2.1 dL_law_723 ?_
  refine lv_aload_n hx hb dL_law_724 rfl (lv_at hl 1 rfl) ?_
  refine lv_iload hx hb dL_law_725 (lv_at hl 5 rfl) ?_
  refine lv_iconst (v := 3) hx hb dL_law_727 (by decide) ?_
  refine lv_iadd hx hb dL_law_728 ?_
  refine l_sld X Wd hin.2.2.2.1 dL_law_729 ?_
  refine l_mw X Wd (l_mrun (n := 3) (rest := []) X Wd (K_setAttribute l Dm mb σ (xs (i + 1).toNatClampNeg) (xs (i + 2).toNatClampNeg) (xs (i + 3).toNatClampNeg) hr) ⟨w_1970, w_1971, w_1972, w_1973⟩ (hyX rfl (by decide +kernel)) rfl ⟨(Nat.le_of_ble_eq_true rfl), (Nat.le_of_ble_eq_true rfl)⟩ hl.1 (Nat.le_of_ble_eq_true rfl) dL_law_730 rfl ⟨by omega, by omega⟩) (fun H Wd => ?_)
  refine W.eq (g2 := F0 m 733 ls [.int r.1]) rfl ?_
  refine c_istore hx hb dL_law_733 hl (Nat.le_of_ble_eq_true rfl) (lvKi (lvKa rfl (lvKa rfl (lvKa rfl (lvKa rfl (lvKa rfl lvK0)))))) rfl (fun ls (hl : lv_has ls 7 [(6, .int r.1), (5, .int (r.2.2 81)), (0, .ref b), (1, cv Φ (some 1)), (2, .ref mb), (3, .ref o), (4, .int i)]) => ?_)
  refine lv_aload_n hx hb dL_law_735 rfl (lv_at hl 4 rfl) ?_
  refine l_mr (l_mrun (n := 0) (rest := []) X Wd (K_thrown l Dm mb r.2 (r := r.2.2 81) rfl) ⟨w_1838, w_1839, w_1840, w_1841⟩ (hyX rfl (by decide +kernel)) rfl ⟨(Nat.le_of_ble_eq_true rfl), (Nat.le_of_ble_eq_true rfl)⟩ hl.1 (Nat.le_of_ble_eq_true rfl) dL_law_736 rfl ⟨by omega, by omega⟩) ?_
  refine lv_iload hx hb dL_law_739 (lv_at hl 1 rfl) ?_
  refine lv_icmp_eq (tgt := 746) hx hb dL_law_741 rfl (fun _ => ?_) (fun hc => absurd rfl hc)
  refine lv_iload hx hb dL_law_746 (lv_at hl 1 rfl) ?_
  refine lv_if_ne (tgt := 763) hx hb dL_law_748 rfl (fun hc => ?_) (fun hc => ?_)
  · refine lv_goto (tgt := 2797) hx hb dL_law_763 rfl ?_
    refine W.widen (k := cells + 13) (n := slots + 151) (by omega) (by omega) ?_
    exact kk _ _ _ H ls (hnx _ hn) Wd (lv_sub hl [2, 3, 4, 5, 6] rfl)
  · obtain ⟨u, hu⟩ := lcd_z2 hag.1 hc
    have hw9 := hx9 u hu
    have hw8 := hag.2 u hu
    refine lv_aload_n hx hb dL_law_751 rfl (lv_at hl 5 rfl) ?_
    refine lv_iconst (v := 0) hx hb dL_law_752 (by decide) ?_
    refine l_lald X Wd dL_law_753 ?_
    refine lv_iload hx hb dL_law_754 (lv_at hl 0 rfl) ?_
    refine lv_i2l (v := lvN r.1) hx hb dL_law_756 rfl ?_
    refine W.lcmp hx hb dL_law_757 ?_
    refine lv_if_eq (tgt := 763) hx hb dL_law_758 rfl (fun _ => ?_) (fun hc => absurd (by rw [hw9, hw8]; exact lg_cmp_self _) hc)
    refine lv_goto (tgt := 2797) hx hb dL_law_763 rfl ?_
    refine W.widen (k := cells + 13) (n := slots + 151) (by omega) (by omega) ?_
    exact kk _ _ _ H ls (hnx _ hn) Wd (lv_sub hl [2, 3, 4, 5, 6] rfl)
set_option maxRecDepth 20000 in
set_option maxHeartbeats 4000000 in
theorem L_case_8 {p : Program} {l : Launch} {e : Env} {s : State} {m : MethodId} {args : Array Value} {below : List Frame} {meth : Method} {c : Code} {H : Heap} {cells slots : Nat} {Q : State → Prop} {ls : Array Slot} {D : cD} {Φ : cG} {Dm : mD} {mb o : Nat} {cL : ClassId} {b L : Nat} {xs : Nat → Int32} {S : cS} {σ : mS} {w : Int64} {i : Int32} (hl9 : l.stackTraces = false) (X : lX p s m args meth c D Φ Dm mb o cL b L xs) {Sim Sim1 : cS → mS → Prop} (hsim : sim_setPart Sim Sim1) (hrc : rc S (some 1) 11 = some 1) (hin : lIn i L) (Wd : lWd D Φ Dm mb o cL s.heap S σ w H) (hS : Sim S σ) (hl : lv_has ls 7 (lLv Φ b mb o i)) (hf : cells + 13 ≤ 601024 ∧ slots + 151 ≤ 7293034) (kk : ∀ (S1 : cS) (σ1 : mS) (w1 : Int64) (H1 : Heap) (ls1 : Array Slot), Sim1 S1 σ1 → lWd D Φ Dm mb o cL s.heap S1 σ1 w1 H1 → lv_has ls1 7 (lLv Φ b mb o i) → W p l e lR s m args below meth c H1 [] (cells + 13) (slots + 151) Q (F0 m 2797 ls1 [])) : W p l e lR s m args below meth c H [] cells slots Q (F0 m 766 ls []) := by
  have hx := X.1.1
  have hb := X.1.2.1
  have hts := X.1.2.2.2.2.1
  have hl : lv_has ls 7 [(0, .ref b), (1, cv Φ (some 1)), (2, .ref mb), (3, .ref o), (4, .int i)] := hl
  obtain ⟨q, r, hq, hr, hag, hnx⟩ := hsim S σ (xs (i + 1).toNatClampNeg) (xs (i + 2).toNatClampNeg) hS 
  refine c_aload_n hx hb dL_law_766 rfl (lv_at hl 1 rfl) ?_
  refine lv_aload_n hx hb dL_law_767 rfl (lv_at hl 0 rfl) ?_
  refine lv_iload hx hb dL_law_768 (lv_at hl 4 rfl) ?_
  refine lv_iconst (v := 1) hx hb dL_law_770 (by decide) ?_
  refine lv_iadd hx hb dL_law_771 ?_
  refine l_sld X Wd hin.2.1 dL_law_772 ?_
  refine lv_aload_n hx hb dL_law_773 rfl (lv_at hl 0 rfl) ?_
  refine lv_iload hx hb dL_law_774 (lv_at hl 4 rfl) ?_
  refine lv_iconst (v := 2) hx hb dL_law_776 (by decide) ?_
  refine lv_iadd hx hb dL_law_777 ?_
  refine l_sld X Wd hin.2.2.1 dL_law_778 ?_
  refine lv_aload_n hx hb dL_law_779 rfl (lv_at hl 3 rfl) ?_
  refine l_w1 (rest := []) (v := (r.2.2 81)) X Wd (K_L_setPart l hl9 D Φ S o cL w 1 (xs (i + 1).toNatClampNeg) (xs (i + 2).toNatClampNeg) hrc hq hag.1) ⟨w_1011, ww_L_setPart⟩ hy_L_setPart rfl ⟨(Nat.le_of_ble_eq_true rfl), (Nat.le_of_ble_eq_true rfl)⟩ hl.1 (Nat.le_of_ble_eq_true rfl) dL_law_780 rfl ⟨by omega, by omega⟩ (fun n9 w H hn hx9 Wd => ?_)
  refine c_istore hx hb dL_law_783 hl (Nat.le_of_ble_eq_true rfl) (lvKa rfl (lvKa rfl (lvKa rfl (lvKa rfl (lvKi lvK0))))) rfl (fun ls (hl : lv_has ls 7 [(5, .int (r.2.2 81)), (0, .ref b), (1, cv Φ (some 1)), (2, .ref mb), (3, .ref o), (4, .int i)]) => ?_)
  refine lv_aload_n hx hb dL_law_785 rfl (lv_at hl 3 rfl) ?_
  refine lv_aload_n hx hb dL_law_786 rfl (lv_at hl 1 rfl) ?_
  refine lv_iload hx hb dL_law_787 (lv_at hl 5 rfl) ?_
  refine lv_iconst (v := 1) hx hb dL_law_789 (by decide) ?_
  refine lv_iadd hx hb dL_law_790 ?_
  refine l_sld X Wd hin.2.1 dL_law_791 ?_
  refine lv_aload_n hx hb dL_law_792 rfl (lv_at hl 1 rfl) ?_
  refine lv_iload hx hb dL_law_793 (lv_at hl 5 rfl) ?_
  refine lv_iconst (v := 2) hx hb dL_law_795 (by decide) ?_
  refine lv_iadd hx hb dL_law_796 ?_
  refine l_sld X Wd hin.2.2.1 dL_law_797 ?_
  refine l_mw X Wd (l_mrun (n := 2) (rest := []) X Wd (K_setPart l Dm mb σ (xs (i + 1).toNatClampNeg) (xs (i + 2).toNatClampNeg) hr) ⟨w_1974, w_1975, w_1976, w_1977⟩ (hyX rfl (by decide +kernel)) rfl ⟨(Nat.le_of_ble_eq_true rfl), (Nat.le_of_ble_eq_true rfl)⟩ hl.1 (Nat.le_of_ble_eq_true rfl) dL_law_798 rfl ⟨by omega, by omega⟩) (fun H Wd => ?_)
  refine W.eq (g2 := F0 m 801 ls [.int r.1]) rfl ?_
  refine c_istore hx hb dL_law_801 hl (Nat.le_of_ble_eq_true rfl) (lvKi (lvKa rfl (lvKa rfl (lvKa rfl (lvKa rfl (lvKa rfl lvK0)))))) rfl (fun ls (hl : lv_has ls 7 [(6, .int r.1), (5, .int (r.2.2 81)), (0, .ref b), (1, cv Φ (some 1)), (2, .ref mb), (3, .ref o), (4, .int i)]) => ?_)
  refine lv_aload_n hx hb dL_law_803 rfl (lv_at hl 4 rfl) ?_
  refine l_mr (l_mrun (n := 0) (rest := []) X Wd (K_thrown l Dm mb r.2 (r := r.2.2 81) rfl) ⟨w_1838, w_1839, w_1840, w_1841⟩ (hyX rfl (by decide +kernel)) rfl ⟨(Nat.le_of_ble_eq_true rfl), (Nat.le_of_ble_eq_true rfl)⟩ hl.1 (Nat.le_of_ble_eq_true rfl) dL_law_804 rfl ⟨by omega, by omega⟩) ?_
  refine lv_iload hx hb dL_law_807 (lv_at hl 1 rfl) ?_
  refine lv_icmp_eq (tgt := 814) hx hb dL_law_809 rfl (fun _ => ?_) (fun hc => absurd rfl hc)
  refine lv_iload hx hb dL_law_814 (lv_at hl 1 rfl) ?_
  refine lv_if_ne (tgt := 831) hx hb dL_law_816 rfl (fun hc => ?_) (fun hc => ?_)
  · refine lv_goto (tgt := 2797) hx hb dL_law_831 rfl ?_
    refine W.widen (k := cells + 13) (n := slots + 151) (by omega) (by omega) ?_
    exact kk _ _ _ H ls (hnx _ hn) Wd (lv_sub hl [2, 3, 4, 5, 6] rfl)
  · obtain ⟨u, hu⟩ := lcd_z2 hag.1 hc
    have hw9 := hx9 u hu
    have hw8 := hag.2 u hu
    refine lv_aload_n hx hb dL_law_819 rfl (lv_at hl 5 rfl) ?_
    refine lv_iconst (v := 0) hx hb dL_law_820 (by decide) ?_
    refine l_lald X Wd dL_law_821 ?_
    refine lv_iload hx hb dL_law_822 (lv_at hl 0 rfl) ?_
    refine lv_i2l (v := lvN r.1) hx hb dL_law_824 rfl ?_
    refine W.lcmp hx hb dL_law_825 ?_
    refine lv_if_eq (tgt := 831) hx hb dL_law_826 rfl (fun _ => ?_) (fun hc => absurd (by rw [hw9, hw8]; exact lg_cmp_self _) hc)
    refine lv_goto (tgt := 2797) hx hb dL_law_831 rfl ?_
    refine W.widen (k := cells + 13) (n := slots + 151) (by omega) (by omega) ?_
    exact kk _ _ _ H ls (hnx _ hn) Wd (lv_sub hl [2, 3, 4, 5, 6] rfl)
set_option maxRecDepth 20000 in
set_option maxHeartbeats 4000000 in
theorem L_case_9 {p : Program} {l : Launch} {e : Env} {s : State} {m : MethodId} {args : Array Value} {below : List Frame} {meth : Method} {c : Code} {H : Heap} {cells slots : Nat} {Q : State → Prop} {ls : Array Slot} {D : cD} {Φ : cG} {Dm : mD} {mb o : Nat} {cL : ClassId} {b L : Nat} {xs : Nat → Int32} {S : cS} {σ : mS} {w : Int64} {i : Int32} (hl9 : l.stackTraces = false) (X : lX p s m args meth c D Φ Dm mb o cL b L xs) {Sim Sim1 : cS → mS → Prop} (hsim : sim_shownParent Sim Sim1) (hrc : rc S (some 1) 11 = some 1) (hin : lIn i L) (Wd : lWd D Φ Dm mb o cL s.heap S σ w H) (hS : Sim S σ) (hl : lv_has ls 7 (lLv Φ b mb o i)) (hf : cells + 13 ≤ 601024 ∧ slots + 151 ≤ 7293034) (kk : ∀ (S1 : cS) (σ1 : mS) (w1 : Int64) (H1 : Heap) (ls1 : Array Slot), Sim1 S1 σ1 → lWd D Φ Dm mb o cL s.heap S1 σ1 w1 H1 → lv_has ls1 7 (lLv Φ b mb o i) → W p l e lR s m args below meth c H1 [] (cells + 13) (slots + 151) Q (F0 m 2797 ls1 [])) : W p l e lR s m args below meth c H [] cells slots Q (F0 m 834 ls []) := by
  have hx := X.1.1
  have hb := X.1.2.1
  have hts := X.1.2.2.2.2.1
  have hl : lv_has ls 7 [(0, .ref b), (1, cv Φ (some 1)), (2, .ref mb), (3, .ref o), (4, .int i)] := hl
  obtain ⟨q, r, hq, hr, hag, hnx⟩ := hsim S σ (xs (i + 1).toNatClampNeg) hS 
  refine c_aload_n hx hb dL_law_834 rfl (lv_at hl 1 rfl) ?_
  refine lv_aload_n hx hb dL_law_835 rfl (lv_at hl 0 rfl) ?_
  refine lv_iload hx hb dL_law_836 (lv_at hl 4 rfl) ?_
  refine lv_iconst (v := 1) hx hb dL_law_838 (by decide) ?_
  refine lv_iadd hx hb dL_law_839 ?_
  refine l_sld X Wd hin.2.1 dL_law_840 ?_
  refine lv_aload_n hx hb dL_law_841 rfl (lv_at hl 3 rfl) ?_
  refine l_w1 (rest := []) (v := (r.2.2 81)) X Wd (K_L_shownParent l hl9 D Φ S o cL w 1 (xs (i + 1).toNatClampNeg) hrc hq hag.1) ⟨w_1018, ww_L_shownParent⟩ hy_L_shownParent rfl ⟨(Nat.le_of_ble_eq_true rfl), (Nat.le_of_ble_eq_true rfl)⟩ hl.1 (Nat.le_of_ble_eq_true rfl) dL_law_842 rfl ⟨by omega, by omega⟩ (fun n9 w H hn hx9 Wd => ?_)
  refine c_istore hx hb dL_law_845 hl (Nat.le_of_ble_eq_true rfl) (lvKa rfl (lvKa rfl (lvKa rfl (lvKa rfl (lvKi lvK0))))) rfl (fun ls (hl : lv_has ls 7 [(5, .int (r.2.2 81)), (0, .ref b), (1, cv Φ (some 1)), (2, .ref mb), (3, .ref o), (4, .int i)]) => ?_)
  refine lv_aload_n hx hb dL_law_847 rfl (lv_at hl 3 rfl) ?_
  refine lv_aload_n hx hb dL_law_848 rfl (lv_at hl 1 rfl) ?_
  refine lv_iload hx hb dL_law_849 (lv_at hl 5 rfl) ?_
  refine lv_iconst (v := 1) hx hb dL_law_851 (by decide) ?_
  refine lv_iadd hx hb dL_law_852 ?_
  refine l_sld X Wd hin.2.1 dL_law_853 ?_
  refine l_mw X Wd (l_mrun (n := 1) (rest := []) X Wd (K_shownParent l Dm mb σ (xs (i + 1).toNatClampNeg) hr) ⟨w_1978, w_1979, w_1980, w_1981⟩ (hyX rfl (by decide +kernel)) rfl ⟨(Nat.le_of_ble_eq_true rfl), (Nat.le_of_ble_eq_true rfl)⟩ hl.1 (Nat.le_of_ble_eq_true rfl) dL_law_854 rfl ⟨by omega, by omega⟩) (fun H Wd => ?_)
  refine W.eq (g2 := F0 m 857 ls [.int r.1]) rfl ?_
  refine c_istore hx hb dL_law_857 hl (Nat.le_of_ble_eq_true rfl) (lvKi (lvKa rfl (lvKa rfl (lvKa rfl (lvKa rfl (lvKa rfl lvK0)))))) rfl (fun ls (hl : lv_has ls 7 [(6, .int r.1), (5, .int (r.2.2 81)), (0, .ref b), (1, cv Φ (some 1)), (2, .ref mb), (3, .ref o), (4, .int i)]) => ?_)
  refine lv_aload_n hx hb dL_law_859 rfl (lv_at hl 4 rfl) ?_
  refine l_mr (l_mrun (n := 0) (rest := []) X Wd (K_thrown l Dm mb r.2 (r := r.2.2 81) rfl) ⟨w_1838, w_1839, w_1840, w_1841⟩ (hyX rfl (by decide +kernel)) rfl ⟨(Nat.le_of_ble_eq_true rfl), (Nat.le_of_ble_eq_true rfl)⟩ hl.1 (Nat.le_of_ble_eq_true rfl) dL_law_860 rfl ⟨by omega, by omega⟩) ?_
  refine lv_iload hx hb dL_law_863 (lv_at hl 1 rfl) ?_
  refine lv_icmp_eq (tgt := 870) hx hb dL_law_865 rfl (fun _ => ?_) (fun hc => absurd rfl hc)
  refine lv_iload hx hb dL_law_870 (lv_at hl 1 rfl) ?_
  refine lv_if_ne (tgt := 887) hx hb dL_law_872 rfl (fun hc => ?_) (fun hc => ?_)
  · refine lv_goto (tgt := 2797) hx hb dL_law_887 rfl ?_
    refine W.widen (k := cells + 13) (n := slots + 151) (by omega) (by omega) ?_
    exact kk _ _ _ H ls (hnx _ hn) Wd (lv_sub hl [2, 3, 4, 5, 6] rfl)
  · obtain ⟨u, hu⟩ := lcd_z1 hag.1 hc
    have hw9 := hx9 u hu
    have hw8 := hag.2 u hu
    refine lv_aload_n hx hb dL_law_875 rfl (lv_at hl 5 rfl) ?_
    refine lv_iconst (v := 0) hx hb dL_law_876 (by decide) ?_
    refine l_lald X Wd dL_law_877 ?_
    refine lv_iload hx hb dL_law_878 (lv_at hl 0 rfl) ?_
    refine lv_i2l (v := lvN r.1) hx hb dL_law_880 rfl ?_
    refine W.lcmp hx hb dL_law_881 ?_
    refine lv_if_eq (tgt := 887) hx hb dL_law_882 rfl (fun _ => ?_) (fun hc => absurd (by rw [hw9, hw8]; exact lg_cmp_self _) hc)
    refine lv_goto (tgt := 2797) hx hb dL_law_887 rfl ?_
    refine W.widen (k := cells + 13) (n := slots + 151) (by omega) (by omega) ?_
    exact kk _ _ _ H ls (hnx _ hn) Wd (lv_sub hl [2, 3, 4, 5, 6] rfl)
set_option maxRecDepth 20000 in
set_option maxHeartbeats 4000000 in
theorem L_case_10 {p : Program} {l : Launch} {e : Env} {s : State} {m : MethodId} {args : Array Value} {below : List Frame} {meth : Method} {c : Code} {H : Heap} {cells slots : Nat} {Q : State → Prop} {ls : Array Slot} {D : cD} {Φ : cG} {Dm : mD} {mb o : Nat} {cL : ClassId} {b L : Nat} {xs : Nat → Int32} {S : cS} {σ : mS} {w : Int64} {i : Int32} (hl9 : l.stackTraces = false) (X : lX p s m args meth c D Φ Dm mb o cL b L xs) {Sim Sim1 : cS → mS → Prop} (hsim : sim_isIn Sim Sim1) (hrc : rc S (some 1) 11 = some 1) (hin : lIn i L) (Wd : lWd D Φ Dm mb o cL s.heap S σ w H) (hS : Sim S σ) (hl : lv_has ls 7 (lLv Φ b mb o i)) (hf : cells + 13 ≤ 601024 ∧ slots + 151 ≤ 7293034) (kk : ∀ (S1 : cS) (σ1 : mS) (w1 : Int64) (H1 : Heap) (ls1 : Array Slot), Sim1 S1 σ1 → lWd D Φ Dm mb o cL s.heap S1 σ1 w1 H1 → lv_has ls1 7 (lLv Φ b mb o i) → W p l e lR s m args below meth c H1 [] (cells + 13) (slots + 151) Q (F0 m 2797 ls1 [])) : W p l e lR s m args below meth c H [] cells slots Q (F0 m 890 ls []) := by
  have hx := X.1.1
  have hb := X.1.2.1
  have hts := X.1.2.2.2.2.1
  have hl : lv_has ls 7 [(0, .ref b), (1, cv Φ (some 1)), (2, .ref mb), (3, .ref o), (4, .int i)] := hl
  obtain ⟨q, r, hq, hr, hag, hnx⟩ := hsim S σ (xs (i + 1).toNatClampNeg) hS 
  refine c_aload_n hx hb dL_law_890 rfl (lv_at hl 1 rfl) ?_
  refine lv_aload_n hx hb dL_law_891 rfl (lv_at hl 0 rfl) ?_
  refine lv_iload hx hb dL_law_892 (lv_at hl 4 rfl) ?_
  refine lv_iconst (v := 1) hx hb dL_law_894 (by decide) ?_
  refine lv_iadd hx hb dL_law_895 ?_
  refine l_sld X Wd hin.2.1 dL_law_896 ?_
  refine lv_aload_n hx hb dL_law_897 rfl (lv_at hl 3 rfl) ?_
  refine l_w1 (rest := []) (v := (r.2.2 81)) X Wd (K_L_isIn l hl9 D Φ S o cL w 1 (xs (i + 1).toNatClampNeg) hrc hq hag.1) ⟨w_1025, ww_L_isIn⟩ hy_L_isIn rfl ⟨(Nat.le_of_ble_eq_true rfl), (Nat.le_of_ble_eq_true rfl)⟩ hl.1 (Nat.le_of_ble_eq_true rfl) dL_law_898 rfl ⟨by omega, by omega⟩ (fun n9 w H hn hx9 Wd => ?_)
  refine c_istore hx hb dL_law_901 hl (Nat.le_of_ble_eq_true rfl) (lvKa rfl (lvKa rfl (lvKa rfl (lvKa rfl (lvKi lvK0))))) rfl (fun ls (hl : lv_has ls 7 [(5, .int (r.2.2 81)), (0, .ref b), (1, cv Φ (some 1)), (2, .ref mb), (3, .ref o), (4, .int i)]) => ?_)
  refine lv_aload_n hx hb dL_law_903 rfl (lv_at hl 3 rfl) ?_
  refine lv_aload_n hx hb dL_law_904 rfl (lv_at hl 1 rfl) ?_
  refine lv_iload hx hb dL_law_905 (lv_at hl 5 rfl) ?_
  refine lv_iconst (v := 1) hx hb dL_law_907 (by decide) ?_
  refine lv_iadd hx hb dL_law_908 ?_
  refine l_sld X Wd hin.2.1 dL_law_909 ?_
  refine l_mw X Wd (l_mrun (n := 1) (rest := []) X Wd (K_isIn l Dm mb σ (xs (i + 1).toNatClampNeg) hr) ⟨w_1982, w_1983, w_1984, w_1985⟩ (hyX rfl (by decide +kernel)) rfl ⟨(Nat.le_of_ble_eq_true rfl), (Nat.le_of_ble_eq_true rfl)⟩ hl.1 (Nat.le_of_ble_eq_true rfl) dL_law_910 rfl ⟨by omega, by omega⟩) (fun H Wd => ?_)
  refine W.eq (g2 := F0 m 913 ls [.int r.1]) rfl ?_
  refine c_istore hx hb dL_law_913 hl (Nat.le_of_ble_eq_true rfl) (lvKi (lvKa rfl (lvKa rfl (lvKa rfl (lvKa rfl (lvKa rfl lvK0)))))) rfl (fun ls (hl : lv_has ls 7 [(6, .int r.1), (5, .int (r.2.2 81)), (0, .ref b), (1, cv Φ (some 1)), (2, .ref mb), (3, .ref o), (4, .int i)]) => ?_)
  refine lv_aload_n hx hb dL_law_915 rfl (lv_at hl 4 rfl) ?_
  refine l_mr (l_mrun (n := 0) (rest := []) X Wd (K_thrown l Dm mb r.2 (r := r.2.2 81) rfl) ⟨w_1838, w_1839, w_1840, w_1841⟩ (hyX rfl (by decide +kernel)) rfl ⟨(Nat.le_of_ble_eq_true rfl), (Nat.le_of_ble_eq_true rfl)⟩ hl.1 (Nat.le_of_ble_eq_true rfl) dL_law_916 rfl ⟨by omega, by omega⟩) ?_
  refine lv_iload hx hb dL_law_919 (lv_at hl 1 rfl) ?_
  refine lv_icmp_eq (tgt := 926) hx hb dL_law_921 rfl (fun _ => ?_) (fun hc => absurd rfl hc)
  refine lv_iload hx hb dL_law_926 (lv_at hl 1 rfl) ?_
  refine lv_if_ne (tgt := 950) hx hb dL_law_928 rfl (fun hc => ?_) (fun hc => ?_)
  · refine lv_goto (tgt := 2797) hx hb dL_law_950 rfl ?_
    refine W.widen (k := cells + 13) (n := slots + 151) (by omega) (by omega) ?_
    exact kk _ _ _ H ls (hnx _ hn) Wd (lv_sub hl [2, 3, 4, 5, 6] rfl)
  · obtain ⟨u, hu⟩ := lcd_z1 hag.1 hc
    have hw9 := hx9 u hu
    have hw8 := hag.2 u hu
    refine lv_aload_n hx hb dL_law_931 rfl (lv_at hl 5 rfl) ?_
    refine lv_iconst (v := 0) hx hb dL_law_932 (by decide) ?_
    refine l_lald X Wd dL_law_933 ?_
    refine lv_iload hx hb dL_law_934 (lv_at hl 0 rfl) ?_
    refine l_ternL hx hb dL_law_936 dL_law_939 dL_law_940 dL_law_943 ?_
    refine W.lcmp hx hb dL_law_944 ?_
    refine lv_if_eq (tgt := 950) hx hb dL_law_945 rfl (fun _ => ?_) (fun hc => absurd (by rw [hw9, hw8]; exact lg_cmp_self _) hc)
    refine lv_goto (tgt := 2797) hx hb dL_law_950 rfl ?_
    refine W.widen (k := cells + 13) (n := slots + 151) (by omega) (by omega) ?_
    exact kk _ _ _ H ls (hnx _ hn) Wd (lv_sub hl [2, 3, 4, 5, 6] rfl)
set_option maxRecDepth 20000 in
set_option maxHeartbeats 4000000 in
theorem L_case_11 {p : Program} {l : Launch} {e : Env} {s : State} {m : MethodId} {args : Array Value} {below : List Frame} {meth : Method} {c : Code} {H : Heap} {cells slots : Nat} {Q : State → Prop} {ls : Array Slot} {D : cD} {Φ : cG} {Dm : mD} {mb o : Nat} {cL : ClassId} {b L : Nat} {xs : Nat → Int32} {S : cS} {σ : mS} {w : Int64} {i : Int32} (hl9 : l.stackTraces = false) (X : lX p s m args meth c D Φ Dm mb o cL b L xs) {Sim Sim1 : cS → mS → Prop} (hsim : sim_test Sim Sim1) (hrc : rc S (some 1) 11 = some 1) (hin : lIn i L) (Wd : lWd D Φ Dm mb o cL s.heap S σ w H) (hS : Sim S σ) (hl : lv_has ls 7 (lLv Φ b mb o i)) (hf : cells + 13 ≤ 601024 ∧ slots + 151 ≤ 7293034) (kk : ∀ (S1 : cS) (σ1 : mS) (w1 : Int64) (H1 : Heap) (ls1 : Array Slot), Sim1 S1 σ1 → lWd D Φ Dm mb o cL s.heap S1 σ1 w1 H1 → lv_has ls1 7 (lLv Φ b mb o i) → W p l e lR s m args below meth c H1 [] (cells + 13) (slots + 151) Q (F0 m 2797 ls1 [])) : W p l e lR s m args below meth c H [] cells slots Q (F0 m 953 ls []) := by
  have hx := X.1.1
  have hb := X.1.2.1
  have hts := X.1.2.2.2.2.1
  have hl : lv_has ls 7 [(0, .ref b), (1, cv Φ (some 1)), (2, .ref mb), (3, .ref o), (4, .int i)] := hl
  obtain ⟨q, r, hq, hr, hag, hnx⟩ := hsim S σ (xs (i + 1).toNatClampNeg) (xs (i + 2).toNatClampNeg) (xs (i + 3).toNatClampNeg) hS 
  refine c_aload_n hx hb dL_law_953 rfl (lv_at hl 1 rfl) ?_
  refine lv_aload_n hx hb dL_law_954 rfl (lv_at hl 0 rfl) ?_
  refine lv_iload hx hb dL_law_955 (lv_at hl 4 rfl) ?_
  refine lv_iconst (v := 1) hx hb dL_law_957 (by decide) ?_
  refine lv_iadd hx hb dL_law_958 ?_
  refine l_sld X Wd hin.2.1 dL_law_959 ?_
  refine lv_aload_n hx hb dL_law_960 rfl (lv_at hl 0 rfl) ?_
  refine lv_iload hx hb dL_law_961 (lv_at hl 4 rfl) ?_
  refine lv_iconst (v := 2) hx hb dL_law_963 (by decide) ?_
  refine lv_iadd hx hb dL_law_964 ?_
  refine l_sld X Wd hin.2.2.1 dL_law_965 ?_
  refine lv_aload_n hx hb dL_law_966 rfl (lv_at hl 0 rfl) ?_
  refine lv_iload hx hb dL_law_967 (lv_at hl 4 rfl) ?_
  refine lv_iconst (v := 3) hx hb dL_law_969 (by decide) ?_
  refine lv_iadd hx hb dL_law_970 ?_
  refine l_sld X Wd hin.2.2.2.1 dL_law_971 ?_
  refine lv_aload_n hx hb dL_law_972 rfl (lv_at hl 3 rfl) ?_
  refine l_w1 (rest := []) (v := (r.2.2 81)) X Wd (K_L_test l hl9 D Φ S o cL w 1 (xs (i + 1).toNatClampNeg) (xs (i + 2).toNatClampNeg) (xs (i + 3).toNatClampNeg) hrc hq hag.1) ⟨w_1033, ww_L_test⟩ hy_L_test rfl ⟨(Nat.le_of_ble_eq_true rfl), (Nat.le_of_ble_eq_true rfl)⟩ hl.1 (Nat.le_of_ble_eq_true rfl) dL_law_973 rfl ⟨by omega, by omega⟩ (fun n9 w H hn hx9 Wd => ?_)
  refine c_istore hx hb dL_law_976 hl (Nat.le_of_ble_eq_true rfl) (lvKa rfl (lvKa rfl (lvKa rfl (lvKa rfl (lvKi lvK0))))) rfl (fun ls (hl : lv_has ls 7 [(5, .int (r.2.2 81)), (0, .ref b), (1, cv Φ (some 1)), (2, .ref mb), (3, .ref o), (4, .int i)]) => ?_)
  refine lv_aload_n hx hb dL_law_978 rfl (lv_at hl 3 rfl) ?_
  refine lv_aload_n hx hb dL_law_979 rfl (lv_at hl 1 rfl) ?_
  refine lv_iload hx hb dL_law_980 (lv_at hl 5 rfl) ?_
  refine lv_iconst (v := 1) hx hb dL_law_982 (by decide) ?_
  refine lv_iadd hx hb dL_law_983 ?_
  refine l_sld X Wd hin.2.1 dL_law_984 ?_
  refine lv_aload_n hx hb dL_law_985 rfl (lv_at hl 1 rfl) ?_
  refine lv_iload hx hb dL_law_986 (lv_at hl 5 rfl) ?_
  refine lv_iconst (v := 2) hx hb dL_law_988 (by decide) ?_
  refine lv_iadd hx hb dL_law_989 ?_
  refine l_sld X Wd hin.2.2.1 dL_law_990 ?_
  refine lv_aload_n hx hb dL_law_991 rfl (lv_at hl 1 rfl) ?_
  refine lv_iload hx hb dL_law_992 (lv_at hl 5 rfl) ?_
  refine lv_iconst (v := 3) hx hb dL_law_994 (by decide) ?_
  refine lv_iadd hx hb dL_law_995 ?_
  refine l_sld X Wd hin.2.2.2.1 dL_law_996 ?_
  refine l_mw X Wd (l_mrun (n := 3) (rest := []) X Wd (K_test l Dm mb σ (xs (i + 1).toNatClampNeg) (xs (i + 2).toNatClampNeg) (xs (i + 3).toNatClampNeg) hr) ⟨w_1986, w_1987, w_1988, w_1989⟩ (hyX rfl (by decide +kernel)) rfl ⟨(Nat.le_of_ble_eq_true rfl), (Nat.le_of_ble_eq_true rfl)⟩ hl.1 (Nat.le_of_ble_eq_true rfl) dL_law_997 rfl ⟨by omega, by omega⟩) (fun H Wd => ?_)
  refine W.eq (g2 := F0 m 1000 ls [.int r.1]) rfl ?_
  refine c_istore hx hb dL_law_1000 hl (Nat.le_of_ble_eq_true rfl) (lvKi (lvKa rfl (lvKa rfl (lvKa rfl (lvKa rfl (lvKa rfl lvK0)))))) rfl (fun ls (hl : lv_has ls 7 [(6, .int r.1), (5, .int (r.2.2 81)), (0, .ref b), (1, cv Φ (some 1)), (2, .ref mb), (3, .ref o), (4, .int i)]) => ?_)
  refine lv_aload_n hx hb dL_law_1002 rfl (lv_at hl 4 rfl) ?_
  refine l_mr (l_mrun (n := 0) (rest := []) X Wd (K_thrown l Dm mb r.2 (r := r.2.2 81) rfl) ⟨w_1838, w_1839, w_1840, w_1841⟩ (hyX rfl (by decide +kernel)) rfl ⟨(Nat.le_of_ble_eq_true rfl), (Nat.le_of_ble_eq_true rfl)⟩ hl.1 (Nat.le_of_ble_eq_true rfl) dL_law_1003 rfl ⟨by omega, by omega⟩) ?_
  refine lv_iload hx hb dL_law_1006 (lv_at hl 1 rfl) ?_
  refine lv_icmp_eq (tgt := 1013) hx hb dL_law_1008 rfl (fun _ => ?_) (fun hc => absurd rfl hc)
  refine lv_iload hx hb dL_law_1013 (lv_at hl 1 rfl) ?_
  refine lv_if_ne (tgt := 1030) hx hb dL_law_1015 rfl (fun hc => ?_) (fun hc => ?_)
  · refine lv_goto (tgt := 2797) hx hb dL_law_1030 rfl ?_
    refine W.widen (k := cells + 13) (n := slots + 151) (by omega) (by omega) ?_
    exact kk _ _ _ H ls (hnx _ hn) Wd (lv_sub hl [2, 3, 4, 5, 6] rfl)
  · obtain ⟨u, hu⟩ := lcd_z3 hag.1 hc
    have hw9 := hx9 u hu
    have hw8 := hag.2 u hu
    refine lv_aload_n hx hb dL_law_1018 rfl (lv_at hl 5 rfl) ?_
    refine lv_iconst (v := 0) hx hb dL_law_1019 (by decide) ?_
    refine l_lald X Wd dL_law_1020 ?_
    refine lv_iload hx hb dL_law_1021 (lv_at hl 0 rfl) ?_
    refine lv_i2l (v := lvN r.1) hx hb dL_law_1023 rfl ?_
    refine W.lcmp hx hb dL_law_1024 ?_
    refine lv_if_eq (tgt := 1030) hx hb dL_law_1025 rfl (fun _ => ?_) (fun hc => absurd (by rw [hw9, hw8]; exact lg_cmp_self _) hc)
    refine lv_goto (tgt := 2797) hx hb dL_law_1030 rfl ?_
    refine W.widen (k := cells + 13) (n := slots + 151) (by omega) (by omega) ?_
    exact kk _ _ _ H ls (hnx _ hn) Wd (lv_sub hl [2, 3, 4, 5, 6] rfl)
set_option maxRecDepth 20000 in
set_option maxHeartbeats 4000000 in
theorem L_case_12 {p : Program} {l : Launch} {e : Env} {s : State} {m : MethodId} {args : Array Value} {below : List Frame} {meth : Method} {c : Code} {H : Heap} {cells slots : Nat} {Q : State → Prop} {ls : Array Slot} {D : cD} {Φ : cG} {Dm : mD} {mb o : Nat} {cL : ClassId} {b L : Nat} {xs : Nat → Int32} {S : cS} {σ : mS} {w : Int64} {i : Int32} (hl9 : l.stackTraces = false) (X : lX p s m args meth c D Φ Dm mb o cL b L xs) {Sim Sim1 : cS → mS → Prop} (hsim : sim_join Sim Sim1) (hrc : rc S (some 1) 11 = some 1) (hin : lIn i L) (Wd : lWd D Φ Dm mb o cL s.heap S σ w H) (hS : Sim S σ) (hl : lv_has ls 7 (lLv Φ b mb o i)) (hf : cells + 13 ≤ 601024 ∧ slots + 151 ≤ 7293034) (kk : ∀ (S1 : cS) (σ1 : mS) (w1 : Int64) (H1 : Heap) (ls1 : Array Slot), Sim1 S1 σ1 → lWd D Φ Dm mb o cL s.heap S1 σ1 w1 H1 → lv_has ls1 7 (lLv Φ b mb o i) → W p l e lR s m args below meth c H1 [] (cells + 13) (slots + 151) Q (F0 m 2797 ls1 [])) : W p l e lR s m args below meth c H [] cells slots Q (F0 m 1033 ls []) := by
  have hx := X.1.1
  have hb := X.1.2.1
  have hts := X.1.2.2.2.2.1
  have hl : lv_has ls 7 [(0, .ref b), (1, cv Φ (some 1)), (2, .ref mb), (3, .ref o), (4, .int i)] := hl
  obtain ⟨q, r, hq, hr, hag, hnx⟩ := hsim S σ (xs (i + 1).toNatClampNeg) hS 
  refine c_aload_n hx hb dL_law_1033 rfl (lv_at hl 1 rfl) ?_
  refine lv_aload_n hx hb dL_law_1034 rfl (lv_at hl 0 rfl) ?_
  refine lv_iload hx hb dL_law_1035 (lv_at hl 4 rfl) ?_
  refine lv_iconst (v := 1) hx hb dL_law_1037 (by decide) ?_
  refine lv_iadd hx hb dL_law_1038 ?_
  refine l_sld X Wd hin.2.1 dL_law_1039 ?_
  refine lv_aload_n hx hb dL_law_1040 rfl (lv_at hl 3 rfl) ?_
  refine l_w1 (rest := []) (v := (r.2.2 81)) X Wd (K_L_join l hl9 D Φ S o cL w 1 (xs (i + 1).toNatClampNeg) hrc hq hag.1) ⟨w_1060, ww_L_join⟩ hy_L_join rfl ⟨(Nat.le_of_ble_eq_true rfl), (Nat.le_of_ble_eq_true rfl)⟩ hl.1 (Nat.le_of_ble_eq_true rfl) dL_law_1041 rfl ⟨by omega, by omega⟩ (fun n9 w H hn hx9 Wd => ?_)
  refine c_istore hx hb dL_law_1044 hl (Nat.le_of_ble_eq_true rfl) (lvKa rfl (lvKa rfl (lvKa rfl (lvKa rfl (lvKi lvK0))))) rfl (fun ls (hl : lv_has ls 7 [(5, .int (r.2.2 81)), (0, .ref b), (1, cv Φ (some 1)), (2, .ref mb), (3, .ref o), (4, .int i)]) => ?_)
  refine lv_aload_n hx hb dL_law_1046 rfl (lv_at hl 3 rfl) ?_
  refine lv_aload_n hx hb dL_law_1047 rfl (lv_at hl 1 rfl) ?_
  refine lv_iload hx hb dL_law_1048 (lv_at hl 5 rfl) ?_
  refine lv_iconst (v := 1) hx hb dL_law_1050 (by decide) ?_
  refine lv_iadd hx hb dL_law_1051 ?_
  refine l_sld X Wd hin.2.1 dL_law_1052 ?_
  refine l_mw X Wd (l_mrun (n := 1) (rest := []) X Wd (K_join l Dm mb σ (xs (i + 1).toNatClampNeg) hr) ⟨w_1990, w_1991, w_1992, w_1993⟩ (hyX rfl (by decide +kernel)) rfl ⟨(Nat.le_of_ble_eq_true rfl), (Nat.le_of_ble_eq_true rfl)⟩ hl.1 (Nat.le_of_ble_eq_true rfl) dL_law_1053 rfl ⟨by omega, by omega⟩) (fun H Wd => ?_)
  refine W.eq (g2 := F0 m 1056 ls [.int r.1]) rfl ?_
  refine c_istore hx hb dL_law_1056 hl (Nat.le_of_ble_eq_true rfl) (lvKi (lvKa rfl (lvKa rfl (lvKa rfl (lvKa rfl (lvKa rfl lvK0)))))) rfl (fun ls (hl : lv_has ls 7 [(6, .int r.1), (5, .int (r.2.2 81)), (0, .ref b), (1, cv Φ (some 1)), (2, .ref mb), (3, .ref o), (4, .int i)]) => ?_)
  refine lv_aload_n hx hb dL_law_1058 rfl (lv_at hl 4 rfl) ?_
  refine l_mr (l_mrun (n := 0) (rest := []) X Wd (K_thrown l Dm mb r.2 (r := r.2.2 81) rfl) ⟨w_1838, w_1839, w_1840, w_1841⟩ (hyX rfl (by decide +kernel)) rfl ⟨(Nat.le_of_ble_eq_true rfl), (Nat.le_of_ble_eq_true rfl)⟩ hl.1 (Nat.le_of_ble_eq_true rfl) dL_law_1059 rfl ⟨by omega, by omega⟩) ?_
  refine lv_iload hx hb dL_law_1062 (lv_at hl 1 rfl) ?_
  refine lv_icmp_eq (tgt := 1069) hx hb dL_law_1064 rfl (fun _ => ?_) (fun hc => absurd rfl hc)
  refine lv_iload hx hb dL_law_1069 (lv_at hl 1 rfl) ?_
  refine lv_if_ne (tgt := 1086) hx hb dL_law_1071 rfl (fun hc => ?_) (fun hc => ?_)
  · refine lv_goto (tgt := 2797) hx hb dL_law_1086 rfl ?_
    refine W.widen (k := cells + 13) (n := slots + 151) (by omega) (by omega) ?_
    exact kk _ _ _ H ls (hnx _ hn) Wd (lv_sub hl [2, 3, 4, 5, 6] rfl)
  · obtain ⟨u, hu⟩ := lcd_z2 hag.1 hc
    have hw9 := hx9 u hu
    have hw8 := hag.2 u hu
    refine lv_aload_n hx hb dL_law_1074 rfl (lv_at hl 5 rfl) ?_
    refine lv_iconst (v := 0) hx hb dL_law_1075 (by decide) ?_
    refine l_lald X Wd dL_law_1076 ?_
    refine lv_iload hx hb dL_law_1077 (lv_at hl 0 rfl) ?_
    refine lv_i2l (v := lvN r.1) hx hb dL_law_1079 rfl ?_
    refine W.lcmp hx hb dL_law_1080 ?_
    refine lv_if_eq (tgt := 1086) hx hb dL_law_1081 rfl (fun _ => ?_) (fun hc => absurd (by rw [hw9, hw8]; exact lg_cmp_self _) hc)
    refine lv_goto (tgt := 2797) hx hb dL_law_1086 rfl ?_
    refine W.widen (k := cells + 13) (n := slots + 151) (by omega) (by omega) ?_
    exact kk _ _ _ H ls (hnx _ hn) Wd (lv_sub hl [2, 3, 4, 5, 6] rfl)
