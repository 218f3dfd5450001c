section ACT4
variable {na : Nat} {n : Nat → Int32} {mm : Nat × Nat × Nat} {hl : Bool} {T : qqT} {G : qqG} {V : lwS}
theorem ac_134 (h : LWi na T G mm hl V) (hk : V.2.1 < 60000) {e : Nat} (he : e < 8) : AO 4 na T G mm V (f_L_act_134 na (nI e) V) := ((ac_make h hk he).b).le (by decide)
theorem ac_0 (h : LWi na T G mm hl V) (hk : V.2.1 < 60000) (x2 : Int32) : AO 4 na T G mm V ((f_L_low (x2) ((3:Int32)) V).bind (fun v7 => if v7.1 = (0:Int32) then (f_L_act_134 (na) ((7:Int32)) v7.2) else ((f_L_low ((x2 >>> ((2:Int32) &&& 31))) ((4:Int32)) v7.2).bind (fun v8 => f_L_act_134 (na) (v8.1) v8.2)))) := by
  obtain ⟨a1, -, e1⟩ := lo_ok x2 (n := 3) (by decide) (by decide) V
  have e1 : f_L_low x2 (3:Int32) V = _ := e1
  rw [e1, qqx]
  by_cases c : nI a1 = 0
  · rw [if_pos c]; exact ac_134 h hk (e := 7) (by decide)
  · rw [if_neg c]
    obtain ⟨a2, h2, e2⟩ := lo_ok ((x2 >>> ((2:Int32) &&& 31))) (n := 4) (by decide) (by decide) V
    have e2 : f_L_low ((x2 >>> ((2:Int32) &&& 31))) (4:Int32) V = _ := e2
    rw [e2, qqx]
    exact ac_134 h hk (by omega)
theorem ac_1 (h : LWi na T G mm hl V) (hk : V.2.1 < 60000) (x2 e p : Int32) : AO 4 na T G mm V ((f_L_low ((x2 >>> ((8:Int32) &&& 31))) ((2:Int32)) V).bind (fun v9 => (f_L_puts e p (v9.1) v9.2).bind (fun v10 => some (v10.1, v10.2)))) := by
  obtain ⟨a1, -, e1⟩ := lo_ok ((x2 >>> ((8:Int32) &&& 31))) (n := 2) (by decide) (by decide) V
  have e1 : f_L_low ((x2 >>> ((8:Int32) &&& 31))) (2:Int32) V = _ := e1
  rw [e1, qqx]
  exact ((ac_puts h hk e p (nI a1)).b).le (by decide)
theorem ac_3 (h : LWi na T G mm hl V) (hk : V.2.1 < 60000) (x2 e p : Int32) : AO 4 na T G mm V ((f_L_low ((x2 >>> ((8:Int32) &&& 31))) ((2:Int32)) V).bind (fun v9 => (f_L_tops e p (v9.1) v9.2).bind (fun v10 => some (v10.1, v10.2)))) := by
  obtain ⟨a1, -, e1⟩ := lo_ok ((x2 >>> ((8:Int32) &&& 31))) (n := 2) (by decide) (by decide) V
  have e1 : f_L_low ((x2 >>> ((8:Int32) &&& 31))) (2:Int32) V = _ := e1
  rw [e1, qqx]
  exact ((ac_tops h hk e p (nI a1)).b).le (by decide)
theorem ac_4 (h : LWi na T G mm hl V) (hk : V.2.1 < 60000) (x2 e : Int32) : AO 4 na T G mm V ((f_L_low ((x2 >>> ((6:Int32) &&& 31))) ((3:Int32)) V).bind (fun v15 => if v15.1 = (0:Int32) then ((ldA v15.2 na (7:Int32)).bind (fun v16 => if v16 = (0:Int32) then ((f_L_takes e v15.2).bind (fun v17 => f_L_act_201 (v17.1) v17.2)) else (f_L_act_199 v15.2))) else (f_L_act_199 v15.2))) := by
  obtain ⟨a1, -, e1⟩ := lo_ok ((x2 >>> ((6:Int32) &&& 31))) (n := 3) (by decide) (by decide) V
  have e1 : f_L_low ((x2 >>> ((6:Int32) &&& 31))) (3:Int32) V = _ := e1
  rw [e1, qqx]
  by_cases c : nI a1 = 0
  · rw [if_pos c]
    obtain ⟨hq, ⟨n, hA, hB⟩, h50⟩ := id h
    have l7 : ldA V na (7 : Int32) = some (n 7) := stV_ld (i := 7) hA (by decide)
    rw [l7, qqx]
    by_cases d : n 7 = 0
    · rw [if_pos d]
      have hh := hB.2.2.2.2.2.2 d
      subst hh
      exact ((ac_takes h hk e).b).le (by decide)
    · rw [if_neg d]; exact ao_9 h
  · rw [if_neg c]; exact ao_9 h
theorem ac_229 (h : LWi na T G mm hl V) : AO 4 na T G mm V (f_L_act_229 na V) := (ao_9 h).s8
theorem ac_5 (h : LWi na T G mm hl V) (hk : V.2.1 < 60000) (x2 e : Int32) : AO 4 na T G mm V ((f_L_low ((x2 >>> ((6:Int32) &&& 31))) ((2:Int32)) V).bind (fun v18 => if v18.1 = (0:Int32) then ((ldA v18.2 na (8:Int32)).bind (fun v19 => if v19 = (0:Int32) then ((f_L_shadows e v18.2).bind (fun v20 => f_L_act_231 (na) (v20.1) v20.2)) else (f_L_act_229 (na) v18.2))) else (f_L_act_229 (na) v18.2))) := by
  obtain ⟨a1, -, e1⟩ := lo_ok ((x2 >>> ((6:Int32) &&& 31))) (n := 2) (by decide) (by decide) V
  have e1 : f_L_low ((x2 >>> ((6:Int32) &&& 31))) (2:Int32) V = _ := e1
  rw [e1, qqx]
  by_cases c : nI a1 = 0
  · rw [if_pos c]
    obtain ⟨hq, ⟨n, hA, hB⟩, h50⟩ := id h
    have l7 : ldA V na (8 : Int32) = some (n 8) := stV_ld (i := 8) hA (by decide)
    rw [l7, qqx]
    by_cases d : n 8 = 0
    · rw [if_pos d]; exact ((ac_shadows h hk e).s8).le (by decide)
    · rw [if_neg d]; exact ac_229 h
  · rw [if_neg c]; exact ac_229 h
theorem ac_6 (h : LWi na T G mm hl V) (hk : V.2.1 < 60000) (x2 x : Int32) : AO 4 na T G mm V (if x < (0:Int32) then (f_L_act_266 V) else ((ldA V na (0:Int32)).bind (fun v21 => if x < v21 then ((f_L_low ((x2 >>> ((5:Int32) &&& 31))) ((3:Int32)) V).bind (fun v22 => (f_L_low ((x2 >>> ((7:Int32) &&& 31))) ((2:Int32)) v22.2).bind (fun v23 => if v23.1 = (0:Int32) then (f_L_act_295 x (v22.1) ((1:Int32)) v23.2) else (f_L_act_295 x (v22.1) ((0:Int32)) v23.2)))) else (f_L_act_266 V)))) := by
  obtain ⟨hq, ⟨n, hA, hB⟩, h50⟩ := id h
  have l0 : ldA V na (0 : Int32) = some (nI (Tn T)) := (stV_ld (i := 0) hA (by decide)).trans (congrArg some hB.1.1)
  have t12 := hB.1.2
  by_cases c : x < 0
  · rw [if_pos c]; exact ao_9 h
  · rw [if_neg c, l0, qqx]
    by_cases d : x < nI (Tn T)
    · rw [if_pos d]
      rcases pk_ix x (n := Tn T) (by omega) with q | q | ⟨e, he, rfl⟩
      · exact absurd q c
      · exact absurd d (Int32.not_lt.mpr q)
      obtain ⟨a1, h1, e1⟩ := lo_ok ((x2 >>> ((5:Int32) &&& 31))) (n := 3) (by decide) (by decide) V
      have e1 : f_L_low ((x2 >>> ((5:Int32) &&& 31))) (3:Int32) V = _ := e1
      obtain ⟨a2, -, e2⟩ := lo_ok ((x2 >>> ((7:Int32) &&& 31))) (n := 2) (by decide) (by decide) V
      have e2 : f_L_low ((x2 >>> ((7:Int32) &&& 31))) (2:Int32) V = _ := e2
      rw [e1, qqx, e2, qqx]
      by_cases c2 : nI a2 = 0
      · rw [if_pos c2]; exact (ac_295 h hk he (k := a1) (by omega) (Or.inr rfl)).le (by decide)
      · rw [if_neg c2]; exact (ac_295 h hk he (k := a1) (by omega) (Or.inl rfl)).le (by decide)
    · rw [if_neg d]; exact ao_9 h
theorem ac_7b (h : LWi na T G mm hl V) (hk : V.2.1 + 2 < 60000) (x2 x : Int32) : AO 4 na T G mm V (if x < (0:Int32) then (f_L_act_314 V) else ((ldA V na (0:Int32)).bind (fun v24 => if x < v24 then ((f_L_low ((x2 >>> ((5:Int32) &&& 31))) ((2:Int32)) V).bind (fun v25 => (f_L_low ((x2 >>> ((6:Int32) &&& 31))) ((4:Int32)) v25.2).bind (fun v26 => (oC (f_setAttribute x (v25.1) ((v26.1 - (1:Int32)))) v26.2).bind (fun v27 => (f_L_low ((x2 >>> ((8:Int32) &&& 31))) ((3:Int32)) v27.2).bind (fun v28 => (oC (f_setPart x ((v28.1 - (1:Int32)))) v28.2).bind (fun v29 => some ((0:Int32), v29.2))))))) else (f_L_act_314 V)))) := by
  obtain ⟨hq, ⟨n, hA, hB⟩, h50⟩ := id h
  have l0 : ldA V na (0 : Int32) = some (nI (Tn T)) := (stV_ld (i := 0) hA (by decide)).trans (congrArg some hB.1.1)
  have t12 := hB.1.2
  by_cases c : x < 0
  · rw [if_pos c]; exact ao_9 h
  · rw [if_neg c, l0, qqx]
    by_cases d : x < nI (Tn T)
    · rw [if_pos d]
      rcases pk_ix x (n := Tn T) (by omega) with q | q | ⟨e, he, rfl⟩
      · exact absurd q c
      · exact absurd d (Int32.not_lt.mpr q)
      exact (ac_7 h hk he x2).le (by decide)
    · rw [if_neg d]; exact ao_9 h
theorem ac_402 (h : LWi na T G mm hl V) (hk : V.2.1 < 60000) (k6 : Gk G < 6) (x2 y1 y2 : Int32) : AO 4 na T G mm V (f_L_act_402 na x2 y1 y2 V) := by
  unfold f_L_act_402
  obtain ⟨a1, -, e1⟩ := lo_ok ((x2 >>> ((5:Int32) &&& 31))) (n := 6) (by decide) (by decide) V
  have e1 : f_L_low ((x2 >>> ((5:Int32) &&& 31))) (6:Int32) V = _ := e1
  rw [e1, qqx]
  exact (ac_sheets h hk k6 y1 y2 (nI a1 - 1)).le (by decide)
theorem ac_9 (h : LWi na T G mm hl V) (hk : V.2.1 < 60000) (x2 p : Int32) : AO 4 na T G mm V ((ldA V na (2:Int32)).bind (fun v31 => if v31 = (6:Int32) then (f_L_act_415 (na) (((-9):Int32)) V) else ((f_L_low (x2) ((4:Int32)) V).bind (fun v32 => (f_L_low ((x2 >>> ((2:Int32) &&& 31))) ((2:Int32)) v32.2).bind (fun v33 => if v33.1 = (0:Int32) then (f_L_act_402 (na) (x2) (v32.1) (((-1):Int32)) v33.2) else (f_L_act_402 (na) (x2) (v32.1) p v33.2)))))) := by
  obtain ⟨hq, ⟨n, hA, hB⟩, h50⟩ := id h
  have l0 : ldA V na (2 : Int32) = some (nI (Gk G)) := (stV_ld (i := 2) hA (by decide)).trans (congrArg some hB.2.2.1.1)
  have t6 := hB.2.2.1.2
  rw [l0, qqx]
  by_cases c : Gk G = 6
  · rw [if_pos (show nI (Gk G) = 6 by rw [c]; rfl)]
    obtain ⟨V', g1, g2, g3, g4, g5⟩ := a415n h (y0 := -9) (by decide)
    exact ⟨_, V', g1, by rw [g3]; exact Nat.le_add_right _ _, fun x hx => g4 x hx, T, G, hl, g5, Or.inl (Or.inr (by decide))⟩
  · rw [if_neg (show ¬ nI (Gk G) = 6 from fun z => c ((nI_eqE (b := 6) (by omega) (by decide)).mp z))]
    obtain ⟨a1, -, e1⟩ := lo_ok x2 (n := 4) (by decide) (by decide) V
    have e1 : f_L_low x2 (4:Int32) V = _ := e1
    obtain ⟨a2, -, e2⟩ := lo_ok ((x2 >>> ((2:Int32) &&& 31))) (n := 2) (by decide) (by decide) V
    have e2 : f_L_low ((x2 >>> ((2:Int32) &&& 31))) (2:Int32) V = _ := e2
    rw [e1, qqx, e2, qqx]
    by_cases c2 : nI a2 = 0
    · rw [if_pos c2]; exact ac_402 h hk (by omega) _ _ _
    · rw [if_neg c2]; exact ac_402 h hk (by omega) _ _ _
theorem ac_450 (h : LWi na T G mm hl V) (x2 : Int32) : AO 4 na T G mm V (f_L_act_450 na x2 V) := by
  unfold f_L_act_450 f_L_act_477 f_L_act_569
  rw [if_pos (by decide)]
  exact ao_9 h
theorem ac_10 (h : LWi na T G mm hl V) (hk : V.2.1 + 2 < 60000) (x2 : Int32) : AO 4 na T G mm V ((ldA V na (3:Int32)).bind (fun v34 => if v34 = (12:Int32) then (f_L_act_450 (na) (x2) V) else ((ldA V na (2:Int32)).bind (fun v35 => if v35 = (0:Int32) then (f_L_act_450 (na) (x2) V) else ((ldA V na (2:Int32)).bind (fun v36 => (f_L_low (x2) (v36) V).bind (fun v37 => (ldA v37.2 na (1:Int32)).bind (fun v38 => (f_L_low ((x2 >>> ((3:Int32) &&& 31))) ((v38 + (1:Int32))) v37.2).bind (fun v39 => (f_L_rules (v37.1) (v39.1) v39.2).bind (fun v40 => f_L_act_477 (na) (x2) (v40.1) v40.2)))))))))) := by
  obtain ⟨hq, ⟨n, hA, hB⟩, h50⟩ := id h
  have l3 : ldA V na (3 : Int32) = some (nI (Gr G)) := (stV_ld (i := 3) hA (by decide)).trans (congrArg some hB.2.2.2.1.1)
  have l2 : ldA V na (2 : Int32) = some (nI (Gk G)) := (stV_ld (i := 2) hA (by decide)).trans (congrArg some hB.2.2.1.1)
  have l1 : ldA V na (1 : Int32) = some (nI (Gs G)) := (stV_ld (i := 1) hA (by decide)).trans (congrArg some hB.2.1.1)
  have t1 := hB.2.1.2
  have t2 := hB.2.2.1.2
  have t3 := hB.2.2.2.1.2
  rw [l3, qqx]
  by_cases c : Gr G = 12
  · rw [if_pos (show nI (Gr G) = 12 by rw [c]; rfl)]; exact ac_450 h x2
  · rw [if_neg (show ¬ nI (Gr G) = 12 from fun z => c ((nI_eqE (b := 12) (by omega) (by decide)).mp z)), l2, qqx]
    by_cases d : Gk G = 0
    · rw [if_pos (show nI (Gk G) = 0 by rw [d]; rfl)]; exact ac_450 h x2
    · rw [if_neg (nI_ne0 (by omega) (by omega)), qqx]
      obtain ⟨a1, -, e1⟩ := lo_ok x2 (n := Gk G) (by omega) (by omega) V
      obtain ⟨a2, -, e2⟩ := lo_ok ((x2 >>> ((3:Int32) &&& 31))) (n := Gs G + 1) (by omega) (by omega) V
      rw [e1, qqx, l1, qqx, nI_1, e2, qqx]
      exact (ac_rules h hk (by omega) x2 _ _).le (by decide)
theorem ac_14 (h : LWi na T G mm hl V) (hk : V.2.1 < 60000) (x2 e : Int32) : AO 4 na T G mm V ((f_L_low ((x2 >>> ((4:Int32) &&& 31))) ((7:Int32)) V).bind (fun v52 => (f_L_low ((x2 >>> ((7:Int32) &&& 31))) ((900:Int32)) v52.2).bind (fun v53 => (f_L_whens e ((v52.1 - (1:Int32))) (v53.1) v53.2).bind (fun v54 => some (v54.1, v54.2))))) := by
  obtain ⟨a1, -, e1⟩ := lo_ok ((x2 >>> ((4:Int32) &&& 31))) (n := 7) (by decide) (by decide) V
  have e1 : f_L_low ((x2 >>> ((4:Int32) &&& 31))) (7:Int32) V = _ := e1
  obtain ⟨a2, -, e2⟩ := lo_ok ((x2 >>> ((7:Int32) &&& 31))) (n := 900) (by decide) (by decide) V
  have e2 : f_L_low ((x2 >>> ((7:Int32) &&& 31))) (900:Int32) V = _ := e2
  rw [e1, qqx, e2, qqx]
  exact ((ac_whens h hk _ _ _).b).le (by decide)
theorem ac_15 (h : LWi na T G mm hl V) (hk : V.2.1 + 2 < 60000) (x2 : Int32) : AO 4 na T G mm V ((ldA V na (2:Int32)).bind (fun v55 => if v55 ≤ (0:Int32) then (f_L_act_824 (x2) V) else ((ldA V na (2:Int32)).bind (fun v56 => (f_L_low (x2) (v56) V).bind (fun v57 => (f_L_low ((x2 >>> ((4:Int32) &&& 31))) ((4:Int32)) v57.2).bind (fun v58 => if v58.1 ≤ (0:Int32) then (f_L_act_820 (x2) (v57.1) ((0:Int32)) v58.2) else (f_L_act_820 (x2) (v57.1) ((1:Int32)) v58.2))))))) := by
  obtain ⟨hq, ⟨n, hA, hB⟩, h50⟩ := id h
  have l2 : ldA V na (2 : Int32) = some (nI (Gk G)) := (stV_ld (i := 2) hA (by decide)).trans (congrArg some hB.2.2.1.1)
  have t2 := hB.2.2.1.2
  rw [l2, qqx]
  by_cases d : Gk G = 0
  · rw [if_pos (show nI (Gk G) ≤ 0 by rw [d]; exact Int32.le_refl _)]
    exact (ac_824 h (by omega) x2).le (by decide)
  · rw [if_neg (nI_nle (by omega) (by omega)), qqx]
    obtain ⟨a1, h1, e1⟩ := lo_ok x2 (n := Gk G) (by omega) (by omega) V
    obtain ⟨a2, -, e2⟩ := lo_ok ((x2 >>> ((4:Int32) &&& 31))) (n := 4) (by decide) (by decide) V
    have e2 : f_L_low ((x2 >>> ((4:Int32) &&& 31))) (4:Int32) V = _ := e2
    rw [e1, qqx, e2, qqx]
    by_cases c : nI a2 ≤ 0
    · rw [if_pos c]; exact (ac_820 h hk x2 h1 (Or.inl rfl)).le (by decide)
    · rw [if_neg c]; exact (ac_820 h hk x2 h1 (Or.inr rfl)).le (by decide)
theorem ac_act (h : LWi na T G mm hl V) (hk : V.2.1 + 10 < 60000) (x2 x3 : Int32) : AO 4 na T G mm V (f_L_act na x2 x3 V) := by
  obtain ⟨hq, ⟨n, hA, hB⟩, h50⟩ := id h
  have l0 : ldA V na (0 : Int32) = some (nI (Tn T)) := (stV_ld (i := 0) hA (by decide)).trans (congrArg some hB.1.1)
  have t12 := hB.1.2
  have t1 := hq.j1.1.1.n1
  obtain ⟨a1, -, e1⟩ := lo_ok x2 (n := Tn T + 1) (by omega) (by omega) V
  obtain ⟨a2, -, e2⟩ := lo_ok ((x2 >>> ((9:Int32) &&& 31))) (n := 29) (by decide) (by decide) V
  have e2 : f_L_low ((x2 >>> ((9:Int32) &&& 31))) (29:Int32) V = _ := e2
  have e3 : dv (nI a2) (28:Int32) = some (nI a2 / 28) := if_neg (by decide)
  obtain ⟨a3, -, e4⟩ := lo_ok ((x2 >>> ((4:Int32) &&& 31))) (n := Tn T) (by omega) (by omega) V
  unfold f_L_act
  rw [l0, qqx, nI_1, e1, qqx, e2, qqx, e3, qqx, l0, qqx, e4, qqx]
  by_cases c0 : x3 = 0
  · rw [if_pos c0]; exact ac_0 h (by omega) x2
  rw [if_neg c0]
  by_cases c1 : x3 = 1
  · rw [if_pos c1]; exact ac_1 h (by omega) x2 _ _
  rw [if_neg c1]
  by_cases c2 : x3 = 2
  · rw [if_pos c2]; exact ac_1 h (by omega) x2 _ _
  rw [if_neg c2]
  by_cases c3 : x3 = 3
  · rw [if_pos c3]; exact ac_3 h (by omega) x2 _ _
  rw [if_neg c3]
  by_cases c4 : x3 = 4
  · rw [if_pos c4]; exact ac_4 h (by omega) x2 _
  rw [if_neg c4]
  by_cases c5 : x3 = 5
  · rw [if_pos c5]; exact ac_5 h (by omega) x2 _
  rw [if_neg c5]
  by_cases c6 : x3 = 6
  · rw [if_pos c6]; exact ac_6 h (by omega) x2 _
  rw [if_neg c6]
  by_cases c7 : x3 = 7
  · rw [if_pos c7]; exact ac_7b h (by omega) x2 _
  rw [if_neg c7]
  by_cases c8 : x3 = 8
  · rw [if_pos c8]; exact (ac_selects h (by omega) x2).b
  rw [if_neg c8]
  by_cases c9 : x3 = 9
  · rw [if_pos c9]; exact ac_9 h (by omega) x2 _
  rw [if_neg c9]
  by_cases c10 : x3 = 10
  · rw [if_pos c10]; exact ac_10 h (by omega) x2
  rw [if_neg c10]
  by_cases c11 : x3 = 11
  · rw [if_pos c11]; exact ac_10 h (by omega) x2
  rw [if_neg c11]
  by_cases c12 : x3 = 12
  · rw [if_pos c12]; exact (ac_12 h (by omega) x2 _).le (by decide)
  rw [if_neg c12]
  by_cases c13 : x3 = 13
  · rw [if_pos c13]; exact (ac_13 h (by omega) x2 _).le (by decide)
  rw [if_neg c13]
  by_cases c14 : x3 = 14
  · rw [if_pos c14]; exact ac_14 h (by omega) x2 _
  rw [if_neg c14]
  exact ac_15 h (by omega) x2
end ACT4
