section ASK
variable {na : Nat} {n : Nat → Int32} {mm : Nat × Nat × Nat} {hl dr : Bool} {T : qqT} {G : qqG} {V V0 : lwS} {σ σ' τ : mS} {e p : Nat} {k9 : Nat → Int32 → Int32 → lwS → Option (Int32 × lwS)}
/-- behind a reading: only what a reading may move has moved -/
def RI (mm : Nat × Nat × Nat) (hl dr : Bool) (T : qqT) (G : qqG) (V0 V : lwS) : Prop := LQ mm hl dr T G V ∧ ndB T V.1 = false ∧ scE V0.1 V.1 ∧ V.2.2 = V0.2.2
theorem RI.st (h : RI mm hl dr T G V0 V) (l : LQ mm hl dr T G (τ, V.2.1 + 1, V.2.2)) (s : scE V.1 τ) : RI mm hl dr T G V0 (τ, V.2.1 + 1, V.2.2) := ⟨l, (nd_sc s).trans h.2.1, h.2.2.1.tr s, h.2.2.2⟩
theorem RI.s0 (h : RI mm hl dr T G V0 V) (l : LQ mm hl dr T G (sf V.1 81 0, V.2.1 + 1, V.2.2)) : RI mm hl dr T G V0 (sf V.1 81 0, V.2.1 + 1, V.2.2) := h.st l (scE.of (scR_sf V.1 0))
theorem RI.ar (h : RI mm hl dr T G V0 V) (hn : V0.2.2 na = some (9, n)) : V.2.2 na = some (9, n) := by rw [h.2.2.2]; exact hn
theorem as_149 (x2 : Int32) (hn : V0.2.2 na = some (9, n)) (hB : nB n T G mm hl) (he : e < Tn T) (hd : TD T e = true) : ∀ (d i m : Nat) (V : lwS), i + d = Gr G → d < m → RI mm hl dr T G V0 V → V.2.1 + d < 60000 → ∃ V', f_L_asks_149 k9 m na x2 (nI e) 1 (nI i) V = k9 na x2 (nI (e + 1)) V' ∧ RI mm hl dr T G V0 V' ∧ V'.2.1 ≤ V.2.1 + d := by
  have h12 := hB.2.2.2.1.2
  intro d
  induction d with
  | zero =>
    intro i m V hi hm h hc
    obtain ⟨m, rfl⟩ : ∃ q, m = q + 1 := ⟨m - 1, by omega⟩
    have l3 : ldA V na (3 : Int32) = some (nI (Gr G)) := (stV_ld (i := 3) (h.ar hn) (by decide)).trans (congrArg some hB.2.2.2.1.1)
    refine ⟨V, ?_, h, by omega⟩
    rw [f_L_asks_149, l3, qqx, if_pos (show nI (Gr G) ≤ nI i from nI_le (by omega) (by omega))]
    unfold f_L_asks_192
    rw [nI_1]
  | succ d ih =>
    intro i m V hi hm h hc
    obtain ⟨m, rfl⟩ : ∃ q, m = q + 1 := ⟨m - 1, by omega⟩
    have l3 : ldA V na (3 : Int32) = some (nI (Gr G)) := (stV_ld (i := 3) (h.ar hn) (by decide)).trans (congrArg some hB.2.2.2.1.1)
    obtain ⟨v, τ, e1, ⟨v0, v11⟩, l, s⟩ := a_why2 (by omega) h.1 h.2.1 he hd (p := 1) (by decide) (r := i) (by omega)
    have e1 : oC (f_why (nI e) (1:Int32) (nI i)) V = some (v, (τ, V.2.1 + 1, V.2.2)) := e1
    obtain ⟨V', e2, r, c⟩ := ih (i + 1) m (τ, V.2.1 + 1, V.2.2) (by omega) (by omega) (h.st l s) (by show V.2.1 + 1 + d < 60000; omega)
    refine ⟨V', ?_, r, by have : V'.2.1 ≤ V.2.1 + 1 + d := c; omega⟩
    rw [f_L_asks_149, l3, qqx, if_neg (show ¬ nI (Gr G) ≤ nI i from nI_ge (by omega) (by omega)), if_neg (show ¬ (1:Int32) = 0 by decide), e1, qqx, if_neg (show ¬ v < 0 from Int32.not_lt.mpr v0), if_pos v11, nI_1]
    exact e2
theorem as_149n (x2 : Int32) (hn : V0.2.2 na = some (9, n)) (h : RI mm hl dr T G V0 V) (x5 : Int32) (m : Nat) : f_L_asks_149 k9 (m + 1) na x2 (nI e) 0 x5 V = k9 na x2 (nI (e + 1)) V := by
  have l3 : ldA V na (3 : Int32) = some (n 3) := stV_ld (i := 3) (h.ar hn) (by decide)
  rw [f_L_asks_149, l3, qqx]
  unfold f_L_asks_192
  by_cases c : n 3 ≤ x5
  · rw [if_pos c, nI_1]
  · rw [if_neg c, if_pos rfl, nI_1]
theorem a_valN (hk : V.2.1 < 60000) (h : LQ mm hl dr T G V) (he : e < Tn T) (hd : TD T e = false) (hp : p < 15) : f_L_value (nI e) (nI p) V = some (-2000004, (sf V.1 81 3, V.2.1 + 1, V.2.2)) ∧ LQ mm hl dr T G (sf V.1 81 3, V.2.1 + 1, V.2.2) := by
  have J := h.j1
  have h30 := J.1.1.n30
  obtain ⟨h1, h2⟩ := no_R hk h (t_value hk h (nI e) (nI p)) (y := 3) (by decide) (by
    unfold f_value f_value_41
    rw [r_isElement J.1.2.1 J.1.1, qqx, if_dt (nI_inn he (by omega)), r_in0 (nI p) (n := 15) (by decide) (by decide), qqx, if_dt (nI_inn hp (by decide)), r_inDoc J.1.1 J.1.2.1 he, qqx, hd, if_pos (by decide), r_holds3, qqx]
    rfl)
  refine ⟨?_, h2⟩
  unfold f_L_value oM
  rw [h1]
  rfl
theorem as_26n (x2 : Int32) (hn : V0.2.2 na = some (9, n)) (he : e < Tn T) (hd : TD T e = false) : ∀ (d p m : Nat) (V : lwS), p + d = 15 → d < m → RI mm hl dr T G V0 V → V.2.1 + d < 60000 → ∃ V', f_L_asks_26 k9 m na x2 (nI e) 0 (nI p) V = k9 na x2 (nI (e + 1)) V' ∧ RI mm hl dr T G V0 V' ∧ V'.2.1 ≤ V.2.1 + d := by
  intro d
  induction d with
  | zero =>
    intro p m V hi hm h hc
    obtain ⟨m, rfl⟩ : ∃ q, m = q + 1 := ⟨m - 1, by omega⟩
    refine ⟨V, ?_, h, by omega⟩
    rw [f_L_asks_26, if_pos (show (15:Int32) ≤ nI p from nI_le (a := 15) (by omega) (by omega)), if_pos rfl]
    unfold f_L_asks_146
    exact as_149n x2 hn h 0 12
  | succ d ih =>
    intro p m V hi hm h hc
    obtain ⟨m, rfl⟩ : ∃ q, m = q + 1 := ⟨m - 1, by omega⟩
    obtain ⟨e1, l⟩ := a_valN (by omega) h.1 he hd (p := p) (by omega)
    obtain ⟨V', e2, r, c⟩ := ih (p + 1) m (sf V.1 81 3, V.2.1 + 1, V.2.2) (by omega) (by omega) (h.st l (scE.of (scR_sf V.1 3))) (by show V.2.1 + 1 + d < 60000; omega)
    refine ⟨V', ?_, r, by have : V'.2.1 ≤ V.2.1 + 1 + d := c; omega⟩
    rw [f_L_asks_26, if_neg (show ¬ (15:Int32) ≤ nI p from nI_ge (b := 15) (by omega) (by decide)), e1, qqx, if_pos rfl, if_pos rfl]
    unfold f_L_asks_54 f_L_asks_73 f_L_asks_98
    rw [if_pos rfl, if_pos rfl, nI_1]
    exact e2
theorem as_128 (x2 : Int32) (hn : V0.2.2 na = some (9, n)) (hB : nB n T G mm hl) (he : e < Tn T) (hd : TD T e = true) (h : RI mm hl dr T G V0 V) (hc : V.2.1 + 14 < 60000) : ∃ V', f_L_asks_128 k9 na x2 (nI e) 1 V = k9 na x2 (nI (e + 1)) V' ∧ RI mm hl dr T G V0 V' ∧ V'.2.1 ≤ V.2.1 + 14 := by
  have J := h.1.j1
  have h30 := J.1.1.n30
  have h12 := hB.2.2.2.1.2
  unfold f_L_asks_128
  by_cases z : e = 0
  · subst z
    rw [if_pos (show nI 0 ≤ (0:Int32) from Int32.le_refl _)]
    obtain ⟨V', e2, r, c⟩ := as_149 (k9 := k9) x2 hn hB he hd (Gr G) 0 13 V (by omega) (by omega) h (by omega)
    exact ⟨V', e2, r, by omega⟩
  · rw [if_neg (nI_nle (by omega) (by omega))]
    cases hs : Tsp T e with
    | none => exact absurd (TD_top J.1.1 he hd hs) z
    | some x =>
      have hx : TD T x = true := by rw [← Tsp_D J.1.1 hs]; exact hd
      have hxn : x < Tn T := (Tsp_cases J.1.1 hs).2.1
      obtain ⟨e1, l1⟩ := a_shownParent (by omega) h.1 he
      rw [hs] at e1
      have h1 := h.s0 l1
      obtain ⟨e2, l2⟩ := a_isIn (V := (sf V.1 81 0, V.2.1 + 1, V.2.2)) (by show V.2.1 + 1 < 60000; omega) h1.1 hxn
      have h2 := h1.s0 l2
      obtain ⟨V', e3, r, c⟩ := as_149 (k9 := k9) x2 hn hB he hd (Gr G) 0 13 (sf (sf V.1 81 0) 81 0, V.2.1 + 1 + 1, V.2.2) (by omega) (by omega) h2 (by show V.2.1 + 1 + 1 + Gr G < 60000; omega)
      refine ⟨V', ?_, r, by have : V'.2.1 ≤ V.2.1 + 1 + 1 + Gr G := c; omega⟩
      rw [e1, qqx]
      have e2 : oZ (f_isIn (qqO (some x))) (sf V.1 81 0, V.2.1 + 1, V.2.2) = some (b2 (TD T x), (sf (sf V.1 81 0) 81 0, V.2.1 + 1 + 1, V.2.2)) := e2
      rw [e2, qqx, hx, if_neg (show ¬ b2 true = 0 by decide)]
      exact e3
theorem as_26 (x2 : Int32) (hn : V0.2.2 na = some (9, n)) (hB : nB n T G mm hl) (he : e < Tn T) (hd : TD T e = true) : ∀ (d p m : Nat) (V : lwS), p + d = 15 → d < m → RI mm hl dr T G V0 V → V.2.1 + 3 * d + 16 < 60000 → ∃ V', f_L_asks_26 k9 m na x2 (nI e) 1 (nI p) V = k9 na x2 (nI (e + 1)) V' ∧ RI mm hl dr T G V0 V' ∧ V'.2.1 ≤ V.2.1 + 3 * d + 16 := by
  intro d
  induction d with
  | zero =>
    intro p m V hi hm h hc
    obtain ⟨m, rfl⟩ : ∃ q, m = q + 1 := ⟨m - 1, by omega⟩
    have J := h.1.j1
    have h30 := J.1.1.n30
    obtain ⟨τ, -, e1, l1, nd1, s1⟩ := a_value (by omega) h.1 he hd (p := 6) (by decide)
    have e1 : oC (f_value (nI e) (6:Int32)) V = some (TV τ 0 e 6, (τ, V.2.1 + 1, V.2.2)) := e1
    have h1 := h.st l1 (s1 h.2.1)
    have ev : TV τ 0 e 6 = τ.1 43 (12 * e + 6) := by
      unfold TV
      rw [if_pos (by decide), Nat.mul_zero, Nat.zero_add]
    rw [f_L_asks_26, if_pos (show (15:Int32) ≤ nI p from nI_le (a := 15) (by omega) (by omega)), if_neg (show ¬ (1:Int32) = 0 by decide), e1, qqx]
    by_cases c : 0 < TV τ 0 e 6
    · rw [if_pos c]
      obtain ⟨V', e2, r, c⟩ := as_128 (k9 := k9) x2 hn hB he hd h1 (by show V.2.1 + 1 + 14 < 60000; omega)
      exact ⟨V', e2, r, by have : V'.2.1 ≤ V.2.1 + 1 + 14 := c; omega⟩
    · rw [if_neg c]
      obtain ⟨τ2, e2, l2, s2⟩ := a_size (V := (τ, V.2.1 + 1, V.2.2)) (by show V.2.1 + 1 < 60000; omega) h1.1 h1.2.1 he hd
      have z : τ.1 46 e = -1 := by
        rw [ev] at c
        exact (h1.1.j1.2.2.2.2.2.1 e he).2.2 ((nd_is T τ).mp nd1 e he hd).1 c
      have e2 : oC (f_size (nI e)) (τ, V.2.1 + 1, V.2.2) = some (τ.1 46 e, (τ2, V.2.1 + 1 + 1, V.2.2)) := e2
      have h2 := h1.st l2 s2
      rw [e2, qqx, if_pos z]
      obtain ⟨V', e3, r, c⟩ := as_128 (k9 := k9) x2 hn hB he hd h2 (by show V.2.1 + 1 + 1 + 14 < 60000; omega)
      exact ⟨V', e3, r, by have : V'.2.1 ≤ V.2.1 + 1 + 1 + 14 := c; omega⟩
  | succ d ih =>
    intro p m V hi hm h hc
    obtain ⟨m, rfl⟩ : ∃ q, m = q + 1 := ⟨m - 1, by omega⟩
    have hp : p < 15 := by omega
    have h30 := h.1.j1.1.1.n30
    obtain ⟨τ, e0, -, l1, nd1, s1⟩ := a_value (by omega) h.1 he hd hp
    have e1 : f_L_value (nI e) (nI p) V = some (TV τ 0 e p, (τ, V.2.1 + 1, V.2.2)) := by
      unfold f_L_value oM
      rw [e0]
      rfl
    have h1 := h.st l1 (s1 h.2.1)
    obtain ⟨τ2, e2, l2, s2, so⟩ := a_anew (V := (τ, V.2.1 + 1, V.2.2)) (by show V.2.1 + 1 < 60000; omega) h1.1 he hd hp
    have h2 := h1.st l2 s2
    have ea : TV τ2 1 e p = TV τ 0 e p := anew_told h1.1.j1 h1.1.2 nd1 s2 so he hd hp
    have e2 : oC (f_valueAnew (nI e) (nI p)) (τ, V.2.1 + 1, V.2.2) = some (TV τ2 1 e p, (τ2, V.2.1 + 1 + 1, V.2.2)) := e2
    rw [f_L_asks_26, if_neg (show ¬ (15:Int32) ≤ nI p from nI_ge (b := 15) (by omega) (by decide)), e1, qqx, if_neg (show ¬ (1:Int32) = 0 by decide)]
    unfold f_L_asks_54
    rw [if_neg (show ¬ (1:Int32) = 0 by decide), e2, qqx, if_pos ea.symm]
    unfold f_L_asks_73
    rw [if_neg (show ¬ (1:Int32) = 0 by decide)]
    by_cases c : p < 5
    · rw [if_neg (show ¬ (5:Int32) ≤ nI p from nI_ge (b := 5) (by omega) (by decide))]
      obtain ⟨τ3, e3, l3, s3⟩ := a_seen (V := (τ2, V.2.1 + 1 + 1, V.2.2)) (by show V.2.1 + 1 + 1 < 60000; omega) h2.1 h2.2.1 he hd c
      have h3 := h2.st l3 s3
      have e3 : oC (f_seen (nI e) (nI p)) (τ2, V.2.1 + 1 + 1, V.2.2) = some (TV τ2 0 e p, (τ3, V.2.1 + 1 + 1 + 1, V.2.2)) := e3
      have es : TV τ2 0 e p = TV τ 0 e p := TV_sc s2 (by omega) hp
      rw [e3, qqx, if_pos es]
      unfold f_L_asks_98
      rw [nI_1]
      obtain ⟨V', e4, r, c⟩ := ih (p + 1) m (τ3, V.2.1 + 1 + 1 + 1, V.2.2) (by omega) (by omega) h3 (by show V.2.1 + 1 + 1 + 1 + 3 * d + 16 < 60000; omega)
      exact ⟨V', e4, r, by have : V'.2.1 ≤ V.2.1 + 1 + 1 + 1 + 3 * d + 16 := c; omega⟩
    · rw [if_pos (show (5:Int32) ≤ nI p from nI_le (a := 5) (by omega) (by omega))]
      unfold f_L_asks_98
      rw [nI_1]
      obtain ⟨V', e4, r, c⟩ := ih (p + 1) m (τ2, V.2.1 + 1 + 1, V.2.2) (by omega) (by omega) h2 (by show V.2.1 + 1 + 1 + 3 * d + 16 < 60000; omega)
      exact ⟨V', e4, r, by have : V'.2.1 ≤ V.2.1 + 1 + 1 + 3 * d + 16 := c; omega⟩
end ASK
