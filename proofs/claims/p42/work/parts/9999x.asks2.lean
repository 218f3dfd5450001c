section ASK2
variable {na : Nat} {n : Nat → Int32} {mm : Nat × Nat × Nat} {hl dr : Bool} {T : qqT} {G : qqG} {V V0 : lwS} {σ σ' τ : mS} {e p : Nat}
theorem zr1 (V : lwS) : f_L_asks_311 1 V = some (1, V) := by
  unfold f_L_asks_311 zret
  exact if_pos (Or.inr rfl)
/-- the end of a question: the counters are told, and all is as it is found anew -/
theorem as_end (hn : V0.2.2 na = some (9, n)) (hB : nB n T G mm hl) (h : RI mm hl dr T G V0 V) (hc : V.2.1 + 3 < 60000) (m : Nat) : ∃ V' mm', f_L_asks_9 (m + 1) na (TV V0.1 0 0 1) (nI (Tn T)) V = some (1, V') ∧ LQ mm' hl dr T G V' ∧ (∃ n', V'.2.2 na = some (9, n') ∧ nB n' T G mm' hl) ∧ scE V0.1 V'.1 ∧ (∀ x, x ≠ na → V'.2.2 x = V0.2.2 x) ∧ V'.2.1 ≤ V.2.1 + 3 := by
  have J := h.1.j1
  have h30 := J.1.1.n30
  have h1 := J.1.1.n1
  have hA := h.ar hn
  have l0 : ldA V na (0 : Int32) = some (nI (Tn T)) := (stV_ld (i := 0) hA (by decide)).trans (congrArg some hB.1.1)
  have l4 : ldA V na (4 : Int32) = some (nI mm.1) := (stV_ld (i := 4) hA (by decide)).trans (congrArg some hB.2.2.2.2.1.1)
  have l5 : ldA V na (5 : Int32) = some (nI mm.2.1) := (stV_ld (i := 5) hA (by decide)).trans (congrArg some hB.2.2.2.2.1.2.1)
  have l6 : ldA V na (6 : Int32) = some (nI mm.2.2) := (stV_ld (i := 6) hA (by decide)).trans (congrArg some hB.2.2.2.2.1.2.2)
  obtain ⟨a, b, c, e51, e52, e53, ka, kb, kc, m1, m2, m3, q⟩ := Q_mm h.1.2
  have ha : a < 2 ^ 31 := by omega
  have hb : b < 2 ^ 31 := by
    have : 30 * V.2.1 < 30 * 60000 := by omega
    have : (30 * 60000 : Nat) < 2 ^ 31 := by decide
    exact Nat.lt_trans (Nat.lt_of_le_of_lt kb ‹30 * V.2.1 < 30 * 60000›) this
  have hc' : c < 2 ^ 31 := Nat.lt_of_le_of_lt kc hb
  rw [f_L_asks_9, l0, qqx, if_pos (show nI (Tn T) ≤ nI (Tn T) from Int32.le_refl _), qqx, l4, qqx, e51, if_neg (nI_nlt m1 ha), qqx, l5, qqx, e52, if_neg (nI_nlt m2 hb), qqx, l6, qqx, e53, if_neg (nI_nlt m3 hc'), qqx, qqx, if_neg (nI_nlt kc hb)]
  have s4 : stA V na (4 : Int32) (V.1.2 51) = some (stV V na (upd n 4 (V.1.2 51))) := stV_st (i := 4) hA (by decide) _
  have s5 : stA (stV V na (upd n 4 (V.1.2 51))) na (5 : Int32) (V.1.2 52) = some (stV (stV V na (upd n 4 (V.1.2 51))) na (upd (upd n 4 (V.1.2 51)) 5 (V.1.2 52))) := stV_st (i := 5) stV_at (by decide) _
  have s6 : stA (stV (stV V na (upd n 4 (V.1.2 51))) na (upd (upd n 4 (V.1.2 51)) 5 (V.1.2 52))) na (6 : Int32) (V.1.2 53) = some (stV (stV (stV V na (upd n 4 (V.1.2 51))) na (upd (upd n 4 (V.1.2 51)) 5 (V.1.2 52))) na (upd (upd (upd n 4 (V.1.2 51)) 5 (V.1.2 52)) 6 (V.1.2 53))) := stV_st (i := 6) stV_at (by decide) _
  obtain ⟨W, hW, w1, w2, w3, w4⟩ : ∃ W : lwS, W = stV (stV (stV V na (upd n 4 (V.1.2 51))) na (upd (upd n 4 (V.1.2 51)) 5 (V.1.2 52))) na (upd (upd (upd n 4 (V.1.2 51)) 5 (V.1.2 52)) 6 (V.1.2 53)) ∧ W.1 = V.1 ∧ W.2.1 = V.2.1 ∧ W.2.2 na = some (9, upd (upd (upd n 4 (V.1.2 51)) 5 (V.1.2 52)) 6 (V.1.2 53)) ∧ ∀ x, x ≠ na → W.2.2 x = V.2.2 x := ⟨_, rfl, rfl, rfl, stV_at, fun x hx => (stV_o hx).trans ((stV_o hx).trans (stV_o hx))⟩
  have lW : LQ (a, b, c) hl dr T G W := by
    obtain ⟨hJ, -⟩ := h.1
    unfold LQ
    rw [w1, w2]
    exact ⟨hJ, q⟩
  have hBW : nB (upd (upd (upd n 4 (V.1.2 51)) 5 (V.1.2 52)) 6 (V.1.2 53)) T G (a, b, c) hl := by
    rw [e51, e52, e53]
    exact hB.um a b c
  have ndW : ndB T W.1 = false := by rw [w1]; exact h.2.1
  have sW : scE V0.1 W.1 := by rw [w1]; exact h.2.2.1
  unfold f_L_asks_245
  rw [qqx, s4, qqx, qqx, show (stV V na (upd n 4 (V.1.2 51))).1.2 52 = V.1.2 52 from rfl, s5, qqx, qqx, show (stV (stV V na (upd n 4 (V.1.2 51))) na (upd (upd n 4 (V.1.2 51)) 5 (V.1.2 52))).1.2 53 = V.1.2 53 from rfl, s6, qqx, ← hW, if_neg (show ¬ (1:Int32) = 0 by decide), marked_0 lW ndW, qqx, if_pos rfl]
  obtain ⟨τ, e1, l1, s1, so⟩ := a_anew (V := W) (by rw [w2]; omega) lW (e := 0) (by omega) (TD_0 J.1.1) (p := 1) (by decide)
  have e1 : oC (f_valueAnew (0:Int32) (1:Int32)) W = some (TV τ 1 0 1, (τ, W.2.1 + 1, W.2.2)) := e1
  have ea : TV τ 1 0 1 = TV W.1 0 0 1 := anew_told lW.j1 lW.2 ndW s1 so (by omega) (TD_0 J.1.1) (by decide)
  have eb : TV W.1 0 0 1 = TV V0.1 0 0 1 := TV_sc sW (by decide) (by decide)
  rw [e1, qqx, if_pos (ea.trans eb).symm]
  obtain ⟨e2, l2⟩ := a_shownParent (V := (τ, W.2.1 + 1, W.2.2)) (by show W.2.1 + 1 < 60000; rw [w2]; omega) l1 (e := 0) (by omega)
  rw [Tsp_0 J.1.1] at e2
  have e2 : oC (f_shownParent (0:Int32)) (τ, W.2.1 + 1, W.2.2) = some (-1, (sf τ 81 0, W.2.1 + 1 + 1, W.2.2)) := e2
  rw [e2, qqx, if_pos rfl]
  obtain ⟨e3, l3⟩ := a_isIn (V := (sf τ 81 0, W.2.1 + 1 + 1, W.2.2)) (by show W.2.1 + 1 + 1 < 60000; rw [w2]; omega) l2 (e := 0) (by omega)
  rw [TD_0 J.1.1] at e3
  have e3 : oZ (f_isIn (0:Int32)) (sf τ 81 0, W.2.1 + 1 + 1, W.2.2) = some (b2 true, (sf (sf τ 81 0) 81 0, W.2.1 + 1 + 1 + 1, W.2.2)) := e3
  rw [e3, qqx, if_neg (show ¬ b2 true = 0 by decide)]
  refine ⟨(sf (sf τ 81 0) 81 0, W.2.1 + 1 + 1 + 1, W.2.2), (a, b, c), zr1 _, l3, ⟨_, w3, hBW⟩, ((sW.tr s1).tr (scE.of (scR_sf τ 0))).tr (scE.of (scR_sf _ 0)), fun x hx => (w4 x hx).trans (by rw [h.2.2.2]), ?_⟩
  show W.2.1 + 1 + 1 + 1 ≤ V.2.1 + 3
  rw [w2]
  omega
theorem as_9 (hn : V0.2.2 na = some (9, n)) (hB : nB n T G mm hl) : ∀ (d i m : Nat) (V : lwS), i + d = Tn T → d < m → RI mm hl dr T G V0 V → V.2.1 + 70 * d + 3 < 60000 → ∃ V' mm', f_L_asks_9 m na (TV V0.1 0 0 1) (nI i) V = some (1, V') ∧ LQ mm' hl dr T G V' ∧ (∃ n', V'.2.2 na = some (9, n') ∧ nB n' T G mm' hl) ∧ scE V0.1 V'.1 ∧ (∀ x, x ≠ na → V'.2.2 x = V0.2.2 x) ∧ V'.2.1 ≤ V.2.1 + 70 * d + 3 := by
  have h12 := hB.1.2
  intro d
  induction d with
  | zero =>
    intro i m V hi hm h hc
    obtain ⟨m, rfl⟩ : ∃ q, m = q + 1 := ⟨m - 1, by omega⟩
    obtain rfl : i = Tn T := by omega
    exact as_end hn hB h (by omega) m
  | succ d ih =>
    intro i m V hi hm h hc
    obtain ⟨m, rfl⟩ : ∃ q, m = q + 1 := ⟨m - 1, by omega⟩
    have hA := h.ar hn
    have l0 : ldA V na (0 : Int32) = some (nI (Tn T)) := (stV_ld (i := 0) hA (by decide)).trans (congrArg some hB.1.1)
    have hi' : i < Tn T := by omega
    obtain ⟨e1, l1⟩ := a_isIn (by omega) h.1 hi'
    have h1 := h.s0 l1
    rw [f_L_asks_9, l0, qqx, if_neg (show ¬ nI (Tn T) ≤ nI i from nI_ge (by omega) (by omega)), e1, qqx]
    have c1 : (sf V.1 81 0, V.2.1 + 1, V.2.2).2.1 = V.2.1 + 1 := rfl
    cases hd : TD T i with
    | false =>
      obtain ⟨V1, e2, r, c⟩ := as_26n (k9 := f_L_asks_9 m) (TV V0.1 0 0 1) hn hi' hd 15 0 16 (sf V.1 81 0, V.2.1 + 1, V.2.2) (by omega) (by omega) h1 (by rw [c1]; omega)
      rw [c1] at c
      obtain ⟨V2, mm2, e3, q1, q2, q3, q4, q5⟩ := ih (i + 1) m V1 (by omega) (by omega) r (by omega)
      exact ⟨V2, mm2, e2.trans e3, q1, q2, q3, q4, by omega⟩
    | true =>
      obtain ⟨V1, e2, r, c⟩ := as_26 (k9 := f_L_asks_9 m) (TV V0.1 0 0 1) hn hB hi' hd 15 0 16 (sf V.1 81 0, V.2.1 + 1, V.2.2) (by omega) (by omega) h1 (by rw [c1]; omega)
      rw [c1] at c
      obtain ⟨V2, mm2, e3, q1, q2, q3, q4, q5⟩ := ih (i + 1) m V1 (by omega) (by omega) r (by omega)
      exact ⟨V2, mm2, e2.trans e3, q1, q2, q3, q4, by omega⟩
theorem asks_ok (h : LWi na T G mm hl V) (hc : V.2.1 + 900 < 60000) : ∃ V' mm', f_L_asks na V = some (1, V') ∧ LWi na T G mm' hl V' ∧ (∀ x, x ≠ na → V'.2.2 x = V.2.2 x) ∧ V'.2.1 ≤ V.2.1 + 900 := by
  obtain ⟨hq, ⟨n, hA, hB⟩, h50⟩ := h
  have J := hq.j1
  have h1 := J.1.1.n1
  have h12 := hB.1.2
  obtain ⟨τ, -, e1, l, nd, -⟩ := a_value (by omega) hq (e := 0) (by omega) (TD_0 J.1.1) (p := 1) (by decide)
  have e1 : oC (f_value (0:Int32) (1:Int32)) V = some (TV τ 0 0 1, (τ, V.2.1 + 1, V.2.2)) := e1
  have w := a5_value (by omega) hq e1
  have hA1 : (τ, V.2.1 + 1, V.2.2).2.2 na = some (9, n) := hA
  obtain ⟨V', mm', e2, q1, q2, q3, q4, q5⟩ := as_9 hA1 hB (Tn T) 0 13 (τ, V.2.1 + 1, V.2.2) (by omega) (by omega) ⟨l, nd, scE.rf τ, rfl⟩ (by show V.2.1 + 1 + 70 * Tn T + 3 < 60000; omega)
  have q5 : V'.2.1 ≤ V.2.1 + 1 + 70 * Tn T + 3 := q5
  refine ⟨V', mm', ?_, ⟨q1, q2, ?_⟩, q4, by omega⟩
  · unfold f_L_asks
    rw [e1, qqx]
    exact e2
  · rw [q3.2.2.2.2 50 (by decide)]
    show (0 : Int32) ≤ τ.2 50
    rw [w]
    exact h50
end ASK2
