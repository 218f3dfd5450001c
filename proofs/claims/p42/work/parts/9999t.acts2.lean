section ACT2
variable {ct cu na : Nat} {n : Nat → Int32} {mm : Nat × Nat × Nat} {hl hl' dr dr' : Bool} {T T' : qqT} {G G' : qqG} {V V0 : lwS} {σ σ' : mS} {v : Int32} {r : Option (Int32 × lwS)} {e : Nat}
theorem c6 {k : Nat} (hk : k < 100) : nI k = 6 ↔ k = 6 := by
  constructor
  · exact fun z => (nI_eqE (b := 6) (by omega) (by decide)).mp z
  · intro z; rw [z]; rfl
theorem a565 (hq : LQ mm hl false T G V) (hA : V.2.2 na = some (9, n)) (hB : nB n T G mm hl) (h50 : (0 : Int32) ≤ V.1.2 50) (hk : V.2.1 < 60000) {x6 : Int32} (h6 : (-1 : Int32) ≤ x6) (x2 y1 : Int32) {k : Nat} (hk7 : k < 7) (ek : ∀ V : lwS, f_L_low ((x2 >>> ((5:Int32) &&& 31))) ((7:Int32)) V = some (nI k, V)) (c : V.2.1 ≤ V0.2.1 + cu) (fr : ∀ x, x ≠ na → V.2.2 x = V0.2.2 x) : AO (cu + 1) na T' G' mm V0 (f_L_act_514 x2 x6 na 7 (n 7) (b2 (decide (k = 6))) V) := by
  have s7 : stA V na (7 : Int32) (n 7 ||| b2 (decide (k = 6))) = some (stV V na (upd n 7 (n 7 ||| b2 (decide (k = 6))))) := stV_st (i := 7) hA (by decide) _
  have g : ∀ y3 y4 y5 : Int32, (y5 = 0 ∨ y5 = 1) → AO (cu + 1) na T' G' mm V0 (f_L_act_565 x6 x6 (nI k) y3 y4 y5 (stV V na (upd n 7 (n 7 ||| b2 (decide (k = 6)))))) := fun y3 y4 y5 z => by
    have q := ac_declares (V := stV V na (upd n 7 (n 7 ||| b2 (decide (k = 6))))) hq stV_at (hB.u7 (decide (k = 6))) h50 hk x6 (nI k) y3 y4 y5 z ⟨fun z => absurd ((nI_eqE (b := 10) (by omega) (by decide)).mp z) (by omega), fun z => absurd ((nI_eqE (b := 11) (by omega) (by decide)).mp z) (by omega)⟩ (fun z => by
      rw [Bool.or_eq_false_iff] at z
      exact ⟨z.1, fun w => of_decide_eq_false z.2 ((c6 (by omega)).mp w)⟩)
    exact q.ig (V0 := V0) (T := T') (G := G') x6 h6 c (fun x hx => (stV_o hx).trans (fr x hx))
  unfold f_L_act_514
  rw [s7, qqx, ek, qqx]
  obtain ⟨k3, -, e3⟩ := lo_ok ((x2 >>> ((8:Int32) &&& 31))) (n := 11) (by decide) (by decide) (stV V na (upd n 7 (n 7 ||| b2 (decide (k = 6)))))
  have e3 : f_L_low ((x2 >>> ((8:Int32) &&& 31))) (11:Int32) _ = _ := e3
  rw [e3, qqx]
  obtain ⟨k4, -, e4⟩ := lo_ok ((x2 >>> ((9:Int32) &&& 31))) (n := 400) (by decide) (by decide) (stV V na (upd n 7 (n 7 ||| b2 (decide (k = 6)))))
  have e4 : f_L_low ((x2 >>> ((9:Int32) &&& 31))) (400:Int32) _ = _ := e4
  rw [e4, qqx]
  obtain ⟨k5, -, e5⟩ := lo_ok ((x2 >>> ((11:Int32) &&& 31))) (n := 4) (by decide) (by decide) (stV V na (upd n 7 (n 7 ||| b2 (decide (k = 6)))))
  have e5 : f_L_low ((x2 >>> ((11:Int32) &&& 31))) (4:Int32) _ = _ := e5
  rw [e5, qqx]
  by_cases c5 : nI k5 = 0
  · rw [if_pos c5]; exact g _ _ _ (Or.inr rfl)
  · rw [if_neg c5]; exact g _ _ _ (Or.inl rfl)
theorem ac_rules (h : LWi na T G mm hl V) (hk : V.2.1 + 2 < 60000) (k12 : Gr G < 12) (y x1 x2 : Int32) : AO 2 na T G mm V ((f_L_rules x1 x2 V).bind fun v2 => f_L_act_477 na y v2.1 v2.2) := by
  obtain ⟨hq, ⟨n, hA, hB⟩, h50⟩ := id h
  obtain ⟨a, σ', e1, e2, s⟩ := w_R (t_rule (by omega) hq x1 x2) fR
  have e2 : f_L_rules x1 x2 V = some (fR (σ'.2 81, a), (σ', V.2.1 + 1, V.2.2)) := e2
  rw [e2, qqx]
  rcases s with ⟨y1, hy, e3, l⟩ | ⟨z, T', G', p, l⟩
  · have h81 : σ'.2 81 = y1 := by rw [e3]; exact sf_s _ _ _
    have ng : fR (σ'.2 81, a) < 0 := by rw [h81]; exact fR_n hy
    unfold f_L_act_477 f_L_act_569
    rw [if_pos ng]
    refine ⟨_, _, rfl, Nat.le_succ _, fun x _ => rfl, T, G, hl, ⟨l, ⟨n, hA, hB⟩, ?_⟩, Or.inr ⟨rfl, rfl, ?_⟩⟩
    · show (0 : Int32) ≤ σ'.2 50
      rw [e3, sf50]
      exact h50
    · show scE V.1 σ'
      rw [e3]
      exact scE.of (scR_sf V.1 y1)
  · have w := u_ru p
    obtain ⟨rfl, f, s, σw, -, -, h40, rfl, -⟩ := p
    have n36 : σ'.2 36 = nI (Gr G + 1) := l.j1.1.2.2.2.2.2.1
    have ea : a = nI (Gr G) := by
      rcases aF_rule _ e1 with q | q
      · exact absurd z q
      · have q : a = σ'.2 36 - 1 := q
        rw [q, n36, nI_pred]
    have ev : fR (σ'.2 81, a) = nI (Gr G) := by unfold fR; rw [z, if_pos rfl]; exact ea
    rw [ev]
    have hA' : (σ', V.2.1 + 1, V.2.2).2.2 na = some (9, n) := hA
    have l3 : ldA (σ', V.2.1 + 1, V.2.2) na (3 : Int32) = some (nI (Gr G)) := (stV_ld (i := 3) hA' (by decide)).trans (congrArg some hB.2.2.2.1.1)
    have s3 : stA (σ', V.2.1 + 1, V.2.2) na (3 : Int32) (nI (Gr G + 1)) = some (stV (σ', V.2.1 + 1, V.2.2) na (upd n 3 (nI (Gr G + 1)))) := stV_st (i := 3) hA' (by decide) _
    have l7 : ldA (stV (σ', V.2.1 + 1, V.2.2) na (upd n 3 (nI (Gr G + 1)))) na (7 : Int32) = some (upd n 3 (nI (Gr G + 1)) 7) := stV_ld (i := 7) stV_at (by decide)
    obtain ⟨k, hk7, -⟩ := lo_ok ((y >>> ((5:Int32) &&& 31))) (n := 7) (by decide) (by decide) V
    obtain ⟨k, hk7, ek⟩ : ∃ k, k < 7 ∧ ∀ V : lwS, f_L_low ((y >>> ((5:Int32) &&& 31))) ((7:Int32)) V = some (nI k, V) := by
      obtain ⟨j, hj, e⟩ := pk_andE (y >>> ((5:Int32) &&& 31)) (m := (2147483647 : Int32)) 31 (by decide)
      refine ⟨j % 7, Nat.mod_lt _ (by decide), fun V => ?_⟩
      unfold f_L_low rm
      rw [e, if_neg (by decide), show (7 : Int32) = nI 7 from rfl, pk_rem hj (by decide) (by decide), qqx]
    unfold f_L_act_477
    rw [if_neg (nI_pos (by omega)), l3, qqx, nI_1, s3, qqx, l7, qqx, ek, qqx]
    have q := a565 (V := stV (σ', V.2.1 + 1, V.2.2) na (upd n 3 (nI (Gr G + 1)))) (V0 := V) (cu := 1) (T' := T') (G' := G) l stV_at (hB.u3 (T := T') ⟨rfl, rfl, rfl⟩ k12) (by show (0 : Int32) ≤ σ'.2 50; rw [w]; exact h50) (by show V.2.1 + 1 < 60000; omega) (x6 := nI (Gr G)) (nI_gm (by omega)) y 0 hk7 ek (Nat.le_refl _) (fun x hx => stV_o hx)
    by_cases c : k = 6
    · rw [decide_eq_true c] at q
      rw [if_pos ((c6 (by omega)).mpr c)]
      exact q
    · rw [decide_eq_false c] at q
      rw [if_neg (fun z => c ((c6 (by omega)).mp z))]
      exact q
theorem ac_667 (hq : LQ mm hl false T G V) (hA : V.2.2 na = some (9, n)) (hB : nB n T G mm hl') (h50 : (0 : Int32) ≤ V.1.2 50) (hk : V.2.1 < 60000) (x2 y1 : Int32) {k : Nat} (ek : ∀ V : lwS, f_L_low ((x2 >>> ((4:Int32) &&& 31))) ((17:Int32)) V = some (nI k, V)) (h6 : hl' = false → hl = false ∧ nI k ≠ 6) : AO 1 na T G mm V (f_L_act_618 x2 y1 V) := by
  unfold f_L_act_618
  rw [ek, qqx]
  obtain ⟨z, ez, z10, z6⟩ := sl_ok (nI k) V
  rw [ez, qqx]
  obtain ⟨k3, -, e3⟩ := lo_ok ((x2 >>> ((6:Int32) &&& 31))) (n := 12) (by decide) (by decide) V
  have e3 : f_L_low ((x2 >>> ((6:Int32) &&& 31))) (12:Int32) V = _ := e3
  rw [e3, qqx]
  obtain ⟨k4, -, e4⟩ := lo_ok ((x2 >>> ((7:Int32) &&& 31))) (n := 500) (by decide) (by decide) V
  have e4 : f_L_low ((x2 >>> ((7:Int32) &&& 31))) (500:Int32) V = _ := e4
  rw [e4, qqx]
  obtain ⟨k5, -, e5⟩ := lo_ok ((x2 >>> ((10:Int32) &&& 31))) (n := 4) (by decide) (by decide) V
  have e5 : f_L_low ((x2 >>> ((10:Int32) &&& 31))) (4:Int32) V = _ := e5
  rw [e5, qqx]
  unfold f_L_act_667
  by_cases c5 : nI k5 = 0
  · rw [if_pos c5]
    exact (ac_declares hq hA hB h50 hk y1 z (nI k3) _ 1 (Or.inr rfl) z10 (fun w => ⟨(h6 w).1, z6 (h6 w).2⟩)).b
  · rw [if_neg c5]
    exact (ac_declares hq hA hB h50 hk y1 z (nI k3) _ 0 (Or.inl rfl) z10 (fun w => ⟨(h6 w).1, z6 (h6 w).2⟩)).b
theorem lo_all (x : Int32) {N : Nat} (h0 : 0 < N) (hN : N < 2 ^ 31) : ∃ k, k < N ∧ ∀ V : lwS, f_L_low x (nI N) V = some (nI k, V) := by
  obtain ⟨j, hj, e⟩ := pk_andE x (m := (2147483647 : Int32)) 31 (by decide)
  refine ⟨j % N, Nat.mod_lt _ h0, fun V => ?_⟩
  unfold f_L_low rm
  rw [e, if_neg (nI_ne0 h0 hN), pk_rem hj h0 hN, qqx]
theorem ac_12 (h : LWi na T G mm hl V) (hk : V.2.1 < 60000) (x2 x4 : Int32) : AO 1 na T G mm V ((ldA V na (7:Int32)).bind (fun v48 => (f_L_low ((x2 >>> ((4:Int32) &&& 31))) ((17:Int32)) V).bind (fun v49 => if v49.1 = (6:Int32) then (f_L_act_595 (x2) (x4) (na) ((7:Int32)) (v48) ((1:Int32)) v49.2) else (f_L_act_595 (x2) (x4) (na) ((7:Int32)) (v48) ((0:Int32)) v49.2)))) := by
  obtain ⟨hq, ⟨n, hA, hB⟩, h50⟩ := id h
  have l7 : ldA V na (7 : Int32) = some (n 7) := stV_ld (i := 7) hA (by decide)
  obtain ⟨k, hk17, ek⟩ := lo_all ((x2 >>> ((4:Int32) &&& 31))) (N := 17) (by decide) (by decide)
  have ek : ∀ V : lwS, f_L_low ((x2 >>> ((4:Int32) &&& 31))) ((17:Int32)) V = some (nI k, V) := ek
  have g : AO 1 na T G mm V (f_L_act_595 x2 x4 na (7:Int32) (n 7) (b2 (decide (k = 6))) V) := by
    have s7 : stA V na (7 : Int32) (n 7 ||| b2 (decide (k = 6))) = some (stV V na (upd n 7 (n 7 ||| b2 (decide (k = 6))))) := stV_st (i := 7) hA (by decide) _
    unfold f_L_act_595
    rw [s7, qqx]
    obtain ⟨k3, -, e3⟩ := lo_ok ((x2 >>> ((3:Int32) &&& 31))) (n := 2) (by decide) (by decide) (stV V na (upd n 7 (n 7 ||| b2 (decide (k = 6)))))
    have e3 : f_L_low ((x2 >>> ((3:Int32) &&& 31))) (2:Int32) _ = _ := e3
    rw [e3, qqx]
    have q : ∀ y1, AO 1 na T G mm V (f_L_act_618 x2 y1 (stV V na (upd n 7 (n 7 ||| b2 (decide (k = 6)))))) := fun y1 => AO.fr (V := stV V na (upd n 7 (n 7 ||| b2 (decide (k = 6))))) rfl rfl (fun x hx => stV_o hx) (ac_667 (V := stV V na (upd n 7 (n 7 ||| b2 (decide (k = 6))))) hq stV_at (hB.u7 (decide (k = 6))) h50 hk x2 y1 ek (fun z => by
      rw [Bool.or_eq_false_iff] at z
      exact ⟨z.1, fun w => of_decide_eq_false z.2 ((c6 (by omega)).mp w)⟩))
    by_cases c3 : nI k3 = 0
    · rw [if_pos c3]; exact q _
    · rw [if_neg c3]; exact q _
  rw [l7, qqx, ek, qqx]
  by_cases c : k = 6
  · rw [decide_eq_true c] at g
    rw [if_pos ((c6 (by omega)).mpr c)]
    exact g
  · rw [decide_eq_false c] at g
    rw [if_neg (fun z => c ((c6 (by omega)).mp z))]
    exact g
theorem ac_717 (hq : LQ mm hl false T G V) (hA : V.2.2 na = some (9, n)) (hB : nB n T G mm hl') (h50 : (0 : Int32) ≤ V.1.2 50) (hk : V.2.1 < 60000) (x2 y1 : Int32) {k : Nat} (ek : ∀ V : lwS, f_L_low ((x2 >>> ((4:Int32) &&& 31))) ((16:Int32)) V = some (nI k, V)) (h6 : hl' = false → hl = false ∧ nI k ≠ 6) : AO 1 na T G mm V (f_L_act_717 x2 y1 V) := by
  unfold f_L_act_717
  rw [ek, qqx]
  obtain ⟨z, ez, z10, z6⟩ := sl_ok (nI k) V
  rw [ez, qqx]
  obtain ⟨k3, -, e3⟩ := lo_ok ((x2 >>> ((8:Int32) &&& 31))) (n := 5) (by decide) (by decide) V
  have e3 : f_L_low ((x2 >>> ((8:Int32) &&& 31))) (5:Int32) V = _ := e3
  rw [e3, qqx]
  obtain ⟨k4, -, e4⟩ := lo_ok ((x2 >>> ((10:Int32) &&& 31))) (n := 9) (by decide) (by decide) V
  have e4 : f_L_low ((x2 >>> ((10:Int32) &&& 31))) (9:Int32) V = _ := e4
  rw [e4, qqx]
  obtain ⟨k5, -, e5⟩ := lo_ok ((x2 >>> ((7:Int32) &&& 31))) (n := 200) (by decide) (by decide) V
  have e5 : f_L_low ((x2 >>> ((7:Int32) &&& 31))) (200:Int32) V = _ := e5
  rw [e5, qqx]
  exact (ac_varies hq hA hB h50 hk y1 z _ _ _ z10 (fun w => ⟨(h6 w).1, z6 (h6 w).2⟩)).b
theorem ac_13 (h : LWi na T G mm hl V) (hk : V.2.1 < 60000) (x2 x4 : Int32) : AO 1 na T G mm V ((ldA V na (7:Int32)).bind (fun v48 => (f_L_low ((x2 >>> ((4:Int32) &&& 31))) ((16:Int32)) V).bind (fun v49 => if v49.1 = (6:Int32) then (f_L_act_694 (x2) (x4) (na) ((7:Int32)) (v48) ((1:Int32)) v49.2) else (f_L_act_694 (x2) (x4) (na) ((7:Int32)) (v48) ((0:Int32)) v49.2)))) := by
  obtain ⟨hq, ⟨n, hA, hB⟩, h50⟩ := id h
  have l7 : ldA V na (7 : Int32) = some (n 7) := stV_ld (i := 7) hA (by decide)
  obtain ⟨k, hk17, ek⟩ := lo_all ((x2 >>> ((4:Int32) &&& 31))) (N := 16) (by decide) (by decide)
  have ek : ∀ V : lwS, f_L_low ((x2 >>> ((4:Int32) &&& 31))) ((16:Int32)) V = some (nI k, V) := ek
  have g : AO 1 na T G mm V (f_L_act_694 x2 x4 na (7:Int32) (n 7) (b2 (decide (k = 6))) V) := by
    have s7 : stA V na (7 : Int32) (n 7 ||| b2 (decide (k = 6))) = some (stV V na (upd n 7 (n 7 ||| b2 (decide (k = 6))))) := stV_st (i := 7) hA (by decide) _
    unfold f_L_act_694
    rw [s7, qqx]
    obtain ⟨k3, -, e3⟩ := lo_ok ((x2 >>> ((3:Int32) &&& 31))) (n := 2) (by decide) (by decide) (stV V na (upd n 7 (n 7 ||| b2 (decide (k = 6)))))
    have e3 : f_L_low ((x2 >>> ((3:Int32) &&& 31))) (2:Int32) _ = _ := e3
    rw [e3, qqx]
    have q : ∀ y1, AO 1 na T G mm V (f_L_act_717 x2 y1 (stV V na (upd n 7 (n 7 ||| b2 (decide (k = 6)))))) := fun y1 => AO.fr (V := stV V na (upd n 7 (n 7 ||| b2 (decide (k = 6))))) rfl rfl (fun x hx => stV_o hx) (ac_717 (V := stV V na (upd n 7 (n 7 ||| b2 (decide (k = 6))))) hq stV_at (hB.u7 (decide (k = 6))) h50 hk x2 y1 ek (fun z => by
      rw [Bool.or_eq_false_iff] at z
      exact ⟨z.1, fun w => of_decide_eq_false z.2 ((c6 (by omega)).mp w)⟩))
    by_cases c3 : nI k3 = 0
    · rw [if_pos c3]; exact q _
    · rw [if_neg c3]; exact q _
  rw [l7, qqx, ek, qqx]
  by_cases c : k = 6
  · rw [decide_eq_true c] at g
    rw [if_pos ((c6 (by omega)).mpr c)]
    exact g
  · rw [decide_eq_false c] at g
    rw [if_neg (fun z => c ((c6 (by omega)).mp z))]
    exact g
end ACT2
