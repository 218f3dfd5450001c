section ACT3
variable {ct cu na : Nat} {n : Nat → Int32} {mm : Nat × Nat × Nat} {hl hl' dr dr' : Bool} {T T' : qqT} {G G' : qqG} {V V0 : lwS} {σ σ' : mS} {v : Int32} {r : Option (Int32 × lwS)} {e : Nat}
theorem ac_295 (h : LWi na T G mm hl V) (hk : V.2.1 < 60000) (he : e < Tn T) {k : Nat} (k8 : k < 8) {y : Int32} (z : y = 0 ∨ y = 1) : AO 1 na T G mm V (f_L_act_295 (nI e) (nI k) y V) := by
  obtain ⟨hq, ⟨n, hA, hB⟩, h50⟩ := h
  obtain ⟨v, σ', e1, l, w⟩ := e5_setClass hk hq he k8 z
  unfold f_L_act_295
  rw [if_pos z, e1, qqx]
  exact ⟨_, _, rfl, Nat.le_refl _, fun x _ => rfl, T, G, hl, ⟨l, ⟨n, hA, hB⟩, by rw [w]; exact h50⟩, Or.inl (Or.inl (show (-1 : Int32) ≤ 0 by decide))⟩
theorem m1_in {k N : Nat} (h : k ≤ N) (hN : N < 1000) : nI k - 1 = -1 ∨ (0 ≤ nI k - 1 ∧ nI k - 1 < nI N) := by
  cases k with
  | zero => exact Or.inl (by decide)
  | succ k => rw [nI_pred]; exact Or.inr (nI_inn (by omega) (by omega))
theorem ac_7 (h : LWi na T G mm hl V) (hk : V.2.1 + 2 < 60000) (he : e < Tn T) (x2 : Int32) : AO 2 na T G mm V ((f_L_low ((x2 >>> ((5:Int32) &&& 31))) ((2:Int32)) V).bind (fun v25 => (f_L_low ((x2 >>> ((6:Int32) &&& 31))) ((4:Int32)) v25.2).bind (fun v26 => (oC (f_setAttribute (nI e) (v25.1) ((v26.1 - (1:Int32)))) v26.2).bind (fun v27 => (f_L_low ((x2 >>> ((8:Int32) &&& 31))) ((3:Int32)) v27.2).bind (fun v28 => (oC (f_setPart (nI e) ((v28.1 - (1:Int32)))) v28.2).bind (fun v29 => some ((0:Int32), v29.2))))))) := by
  obtain ⟨hq, ⟨n, hA, hB⟩, h50⟩ := h
  obtain ⟨k1, h1, e1⟩ := lo_ok ((x2 >>> ((5:Int32) &&& 31))) (n := 2) (by decide) (by decide) V
  have e1 : f_L_low ((x2 >>> ((5:Int32) &&& 31))) (2:Int32) V = _ := e1
  obtain ⟨k2, h2, e2⟩ := lo_ok ((x2 >>> ((6:Int32) &&& 31))) (n := 4) (by decide) (by decide) V
  have e2 : f_L_low ((x2 >>> ((6:Int32) &&& 31))) (4:Int32) V = _ := e2
  rw [e1, qqx, e2, qqx]
  obtain ⟨v, σ', T', g1, hT, l, w⟩ := e5_setAttribute (by omega) hq he h1 (m1_in (k := k2) (N := 10) (by omega) (by decide))
  rw [g1, qqx]
  obtain ⟨k3, h3, e3⟩ := lo_ok ((x2 >>> ((8:Int32) &&& 31))) (n := 3) (by decide) (by decide) (σ', V.2.1 + 1, V.2.2)
  have e3 : f_L_low ((x2 >>> ((8:Int32) &&& 31))) (3:Int32) (σ', V.2.1 + 1, V.2.2) = _ := e3
  rw [e3, qqx]
  obtain ⟨v2, σ2, g2, l2, w2⟩ := e5_setPart (V := (σ', V.2.1 + 1, V.2.2)) (by show V.2.1 + 1 < 60000; omega) l (e := e) (by omega) (m1_in (k := k3) (N := 4) (by omega) (by decide))
  rw [g2, qqx]
  exact ⟨_, _, rfl, Nat.le_refl _, fun x _ => rfl, T', G, hl, ⟨l2, ⟨n, hA, hB.cg ⟨hT, rfl, rfl, rfl⟩⟩, by rw [w2]; show (0 : Int32) ≤ σ'.2 50; rw [w]; exact h50⟩, Or.inl (Or.inl (show (-1 : Int32) ≤ 0 by decide))⟩
theorem ac_824 (h : LWi na T G mm hl V) (hk : V.2.1 < 60000) (x2 : Int32) : AO 1 na T G mm V (f_L_act_824 x2 V) := by
  obtain ⟨hq, ⟨n, hA, hB⟩, h50⟩ := h
  unfold f_L_act_824
  obtain ⟨k1, h1, e1⟩ := lo_ok ((x2 >>> ((3:Int32) &&& 31))) (n := 1500) (by decide) (by decide) V
  have e1 : f_L_low ((x2 >>> ((3:Int32) &&& 31))) (1500:Int32) V = _ := e1
  rw [e1, qqx]
  obtain ⟨σ', g1, l, w⟩ := e5_setWidth hk hq (e := k1) (by omega)
  rw [g1, qqx]
  exact ⟨_, _, rfl, Nat.le_refl _, fun x _ => rfl, T, G, hl, ⟨l, ⟨n, hA, hB⟩, by rw [w]; exact nI_pos' (by omega)⟩, Or.inl (Or.inl (Int32.le_trans (show (-1 : Int32) ≤ 0 by decide) h50))⟩
theorem AO.tr0 {F : lwS → Option (Int32 × lwS)} (h : ∃ v V', r = some (v, V') ∧ V'.2.1 ≤ V.2.1 + cu ∧ (∀ x, x ≠ na → V'.2.2 x = V.2.2 x) ∧ ∃ T' G', AO ct na T' G' mm V' (F V') ∧ ∀ v2 V2, F V' = some (v2, V2) → (-1 : Int32) ≤ v2) : AO (cu + ct) na T G mm V (r.bind fun v => F v.2) := by
  obtain ⟨v, V', rfl, c, fr, T', G', ⟨v2, V2, e2, c2, f2, T2, G2, hl2, l2, -⟩, hv⟩ := h
  exact ⟨v2, V2, e2, by omega, fun x hx => (f2 x hx).trans (fr x hx), T2, G2, hl2, l2, Or.inl (Or.inl (hv v2 V2 e2))⟩
theorem v824 (h50 : (0 : Int32) ≤ V.1.2 50) (hq : LQ mm hl false T G V) (hk : V.2.1 < 60000) (x2 : Int32) : ∀ v2 V2, f_L_act_824 x2 V = some (v2, V2) → (-1 : Int32) ≤ v2 := by
  intro v2 V2 e
  unfold f_L_act_824 at e
  obtain ⟨k1, h1, e1⟩ := lo_ok ((x2 >>> ((3:Int32) &&& 31))) (n := 1500) (by decide) (by decide) V
  have e1 : f_L_low ((x2 >>> ((3:Int32) &&& 31))) (1500:Int32) V = _ := e1
  rw [e1, qqx] at e
  obtain ⟨σ', g1, l, w⟩ := e5_setWidth hk hq (e := k1) (by omega)
  rw [g1, qqx] at e
  cases e
  exact Int32.le_trans (show (-1 : Int32) ≤ 0 by decide) h50
theorem ac_820 (h : LWi na T G mm hl V) (hk : V.2.1 + 2 < 60000) (x2 : Int32) (he : e < Gk G) {y : Int32} (z : y = 0 ∨ y = 1) : AO 2 na T G mm V (f_L_act_820 x2 (nI e) y V) := by
  obtain ⟨hq, ⟨n, hA, hB⟩, h50⟩ := h
  unfold f_L_act_820
  rw [if_pos z]
  obtain ⟨v, σ', e1, l, w⟩ := e5_turn (by omega) hq he z
  have li : LWi na T G mm hl (σ', V.2.1 + 1, V.2.2) := ⟨l, ⟨n, hA, hB⟩, by rw [w]; exact h50⟩
  exact AO.tr0 (cu := 1) (ct := 1) ⟨v, _, e1, Nat.le_refl _, fun x _ => rfl, T, G, ac_824 li (by show V.2.1 + 1 < 60000; omega) x2, v824 li.2.2 l (by show V.2.1 + 1 < 60000; omega) x2⟩
theorem sl_tests (h : LQ mm hl false T G V) (hk : V.2.1 < 60000) (x1 x2 x3 : Int32) (hd : dr' = false → x1 ≠ 8 ∧ x1 ≠ 9) : ∃ v σ', f_L_tests x1 x2 x3 V = some (v, (σ', V.2.1 + 1, V.2.2)) ∧ LQ mm hl dr' T G (σ', V.2.1 + 1, V.2.2) ∧ σ'.2 50 = V.1.2 50 := by
  unfold f_L_tests
  obtain ⟨a, σ', e1, e2, s⟩ := w_R (t_test hk h x1 x2 x3 hd) (fun r => if r.1 = 0 then r.2 else if r.1 = 1 then (-3) else if r.1 = 2 then (-2) else (-4))
  refine ⟨_, σ', e2, ?_⟩
  rcases s with ⟨y, hy, e3, l⟩ | ⟨z, T', G', p, l⟩
  · exact ⟨l.w (fun z => z) (fun _ => rfl), by rw [e3]; exact sf50 _ _⟩
  · have w := u_ts p
    obtain ⟨rfl, rfl, -⟩ := p
    exact ⟨l, w⟩
theorem sl_joins (h : LQ mm hl dr T G V) (hk : V.2.1 < 60000) (x1 : Int32) : ∃ v σ', f_L_joins x1 V = some (v, (σ', V.2.1 + 1, V.2.2)) ∧ LQ mm hl dr T G (σ', V.2.1 + 1, V.2.2) ∧ σ'.2 50 = V.1.2 50 := by
  unfold f_L_joins
  obtain ⟨a, σ', e1, e2, s⟩ := w_R (t_join hk h x1) (fun r => if r.1 = 0 then r.2 else if r.1 = 1 then (-3) else (-4))
  refine ⟨_, σ', e2, ?_⟩
  rcases s with ⟨y, hy, e3, l⟩ | ⟨z, T', G', p, l⟩
  · exact ⟨l, by rw [e3]; exact sf50 _ _⟩
  · have w := u_jn p
    obtain ⟨rfl, rfl, -⟩ := p
    exact ⟨l, w⟩
theorem ac_153 (hq : LQ mm hl dr T G V) (hA : V.2.2 na = some (9, n)) (hB : nB n T G mm hl) (h50 : (0 : Int32) ≤ V.1.2 50) (hk : V.2.1 < 60000) (k8 : Gs G < 8) (c : V.2.1 + 1 ≤ V0.2.1 + ct) (fr : V.2.2 = V0.2.2) : AO ct na T' G' mm V0 (f_L_selects_153 na V) := by
  have l1 : ldA V na (1 : Int32) = some (nI (Gs G)) := (stV_ld (i := 1) hA (by decide)).trans (congrArg some hB.2.1.1)
  have s1 : stA V na (1 : Int32) (nI (Gs G + 1)) = some (stV V na (upd n 1 (nI (Gs G + 1)))) := stV_st (i := 1) hA (by decide) _
  unfold f_L_selects_153
  rw [l1, qqx, nI_1, s1, qqx]
  obtain ⟨σ', e1, l, w⟩ := e5_select (V := stV V na (upd n 1 (nI (Gs G + 1)))) hk hq (by omega)
  rw [e1, qqx]
  exact ⟨_, _, rfl, c, fun x hx => (stV_o hx).trans (by rw [fr]), T, gSe G, hl, ⟨l, ⟨_, stV_at, hB.u1 ⟨rfl, rfl, rfl⟩ k8⟩, by rw [w]; exact h50⟩, Or.inl (Or.inl (nI_gm (by omega)))⟩
theorem k89 {k : Nat} (h : k < 4) : nI k ≠ 8 ∧ nI k ≠ 9 := ⟨fun z => absurd ((nI_eqE (b := 8) (by omega) (by decide)).mp z) (by omega), fun z => absurd ((nI_eqE (b := 9) (by omega) (by decide)).mp z) (by omega)⟩
theorem ac_selects (h : LWi na T G mm hl V) (hk : V.2.1 + 4 < 60000) (x2 : Int32) : AO 4 na T G mm V (f_L_selects na x2 V) := by
  obtain ⟨hq, ⟨n, hA, hB⟩, h50⟩ := id h
  have l1 : ldA V na (1 : Int32) = some (nI (Gs G)) := (stV_ld (i := 1) hA (by decide)).trans (congrArg some hB.2.1.1)
  unfold f_L_selects
  rw [l1, qqx]
  by_cases c : Gs G = 8
  · rw [if_pos (show nI (Gs G) = 8 by rw [c]; rfl)]; exact ao_9 h
  have k8 : Gs G < 8 := by have := hB.2.1.2; omega
  rw [if_neg (show ¬ nI (Gs G) = 8 from fun z => c ((nI_eqE (b := 8) (by omega) (by decide)).mp z))]
  obtain ⟨a1, g1, e1⟩ := lo_ok x2 (n := 4) (by decide) (by decide) V
  have e1 : f_L_low x2 (4:Int32) V = _ := e1
  obtain ⟨a2, -, e2⟩ := lo_ok ((x2 >>> ((2:Int32) &&& 31))) (n := 3) (by decide) (by decide) V
  have e2 : f_L_low ((x2 >>> ((2:Int32) &&& 31))) (3:Int32) V = _ := e2
  obtain ⟨a3, -, e3⟩ := lo_ok ((x2 >>> ((4:Int32) &&& 31))) (n := 3) (by decide) (by decide) V
  have e3 : f_L_low ((x2 >>> ((4:Int32) &&& 31))) (3:Int32) V = _ := e3
  rw [e1, qqx, e2, qqx, e3, qqx]
  obtain ⟨w1, σ1, q1, l1', u1⟩ := sl_tests (dr' := false) hq (by omega) (nI a1) (nI a2) (nI a3) (fun _ => k89 g1)
  rw [q1, qqx]
  obtain ⟨a4, -, e4⟩ := lo_all ((x2 >>> ((6:Int32) &&& 31))) (N := 3) (by decide) (by decide)
  have e4 : ∀ V : lwS, f_L_low ((x2 >>> ((6:Int32) &&& 31))) (3:Int32) V = some (nI a4, V) := e4
  rw [e4, qqx]
  have h50' : (0 : Int32) ≤ σ1.2 50 := by rw [u1]; exact h50
  by_cases d0 : nI a4 = 0
  · rw [if_pos d0]
    obtain ⟨a5, -, e5⟩ := lo_ok ((x2 >>> ((8:Int32) &&& 31))) (n := 4) (by decide) (by decide) (σ1, V.2.1 + 1, V.2.2)
    have e5 : f_L_low ((x2 >>> ((8:Int32) &&& 31))) (4:Int32) (σ1, V.2.1 + 1, V.2.2) = _ := e5
    rw [e5, qqx]
    obtain ⟨w2, σ2, q2, l2', u2⟩ := sl_joins (V := (σ1, V.2.1 + 1, V.2.2)) l1' (by show V.2.1 + 1 < 60000; omega) (nI a5)
    have q2 : f_L_joins (nI a5) (σ1, V.2.1 + 1, V.2.2) = some (w2, (σ2, V.2.1 + 1 + 1, V.2.2)) := q2
    rw [q2, qqx]
    obtain ⟨a6, -, e6⟩ := lo_ok ((x2 >>> ((10:Int32) &&& 31))) (n := 10) (by decide) (by decide) (σ2, V.2.1 + 1 + 1, V.2.2)
    have e6 : f_L_low ((x2 >>> ((10:Int32) &&& 31))) (10:Int32) (σ2, V.2.1 + 1 + 1, V.2.2) = _ := e6
    obtain ⟨a7, -, e7⟩ := lo_ok ((x2 >>> ((13:Int32) &&& 31))) (n := 3) (by decide) (by decide) (σ2, V.2.1 + 1 + 1, V.2.2)
    have e7 : f_L_low ((x2 >>> ((13:Int32) &&& 31))) (3:Int32) (σ2, V.2.1 + 1 + 1, V.2.2) = _ := e7
    rw [e6, qqx, e7, qqx]
    have g : ∀ y1 y2 : Int32, AO 4 na T G mm V (f_L_selects_92 na x2 y1 y2 (σ2, V.2.1 + 1 + 1, V.2.2)) := fun y1 y2 => by
      unfold f_L_selects_92
      obtain ⟨a8, -, e8⟩ := lo_ok ((x2 >>> ((15:Int32) &&& 31))) (n := 3) (by decide) (by decide) (σ2, V.2.1 + 1 + 1, V.2.2)
      have e8 : f_L_low ((x2 >>> ((15:Int32) &&& 31))) (3:Int32) (σ2, V.2.1 + 1 + 1, V.2.2) = _ := e8
      rw [e8, qqx]
      obtain ⟨w3, σ3, q3, l3', u3⟩ := sl_tests (dr' := true) (V := (σ2, V.2.1 + 1 + 1, V.2.2)) l2' (by show V.2.1 + 1 + 1 < 60000; omega) y1 y2 (nI a8) (fun z => by cases z)
      have q3 : f_L_tests y1 y2 (nI a8) (σ2, V.2.1 + 1 + 1, V.2.2) = some (w3, (σ3, V.2.1 + 1 + 1 + 1, V.2.2)) := q3
      rw [q3, qqx]
      exact ac_153 (V := (σ3, V.2.1 + 1 + 1 + 1, V.2.2)) l3' hA hB (by show (0 : Int32) ≤ σ3.2 50; rw [u3]; show (0 : Int32) ≤ σ2.2 50; rw [u2]; exact h50') (by show V.2.1 + 1 + 1 + 1 < 60000; omega) k8 (by show V.2.1 + 1 + 1 + 1 + 1 ≤ V.2.1 + 4; omega) rfl
    by_cases d3 : nI a6 = 3
    · rw [if_pos d3]; exact g _ _
    · rw [if_neg d3]; exact g _ _
  · rw [if_neg d0, e4, qqx]
    by_cases d1 : nI a4 = 1
    · rw [if_pos d1]
      obtain ⟨a6, -, e6⟩ := lo_ok ((x2 >>> ((10:Int32) &&& 31))) (n := 6) (by decide) (by decide) (σ1, V.2.1 + 1, V.2.2)
      have e6 : f_L_low ((x2 >>> ((10:Int32) &&& 31))) (6:Int32) (σ1, V.2.1 + 1, V.2.2) = _ := e6
      obtain ⟨a7, -, e7⟩ := lo_ok ((x2 >>> ((13:Int32) &&& 31))) (n := 3) (by decide) (by decide) (σ1, V.2.1 + 1, V.2.2)
      have e7 : f_L_low ((x2 >>> ((13:Int32) &&& 31))) (3:Int32) (σ1, V.2.1 + 1, V.2.2) = _ := e7
      obtain ⟨a8, -, e8⟩ := lo_ok ((x2 >>> ((15:Int32) &&& 31))) (n := 3) (by decide) (by decide) (σ1, V.2.1 + 1, V.2.2)
      have e8 : f_L_low ((x2 >>> ((15:Int32) &&& 31))) (3:Int32) (σ1, V.2.1 + 1, V.2.2) = _ := e8
      rw [e6, qqx, e7, qqx, e8, qqx]
      obtain ⟨w3, σ3, q3, l3', u3⟩ := sl_tests (dr' := true) (V := (σ1, V.2.1 + 1, V.2.2)) l1' (by show V.2.1 + 1 < 60000; omega) ((4:Int32) + nI a6) (nI a7) (nI a8) (fun z => by cases z)
      have q3 : f_L_tests ((4:Int32) + nI a6) (nI a7) (nI a8) (σ1, V.2.1 + 1, V.2.2) = some (w3, (σ3, V.2.1 + 1 + 1, V.2.2)) := q3
      rw [q3, qqx]
      exact ac_153 (V := (σ3, V.2.1 + 1 + 1, V.2.2)) l3' hA hB (by show (0 : Int32) ≤ σ3.2 50; rw [u3]; exact h50') (by show V.2.1 + 1 + 1 < 60000; omega) k8 (by show V.2.1 + 1 + 1 + 1 ≤ V.2.1 + 4; omega) rfl
    · rw [if_neg d1]
      exact ac_153 (V := (σ1, V.2.1 + 1, V.2.2)) l1' hA hB h50' (by show V.2.1 + 1 < 60000; omega) k8 (by show V.2.1 + 1 + 1 ≤ V.2.1 + 4; omega) rfl
end ACT3
