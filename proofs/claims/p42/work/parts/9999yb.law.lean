section LAW
variable {na : Nat} {n : Nat → Int32} {mm : Nat × Nat × Nat} {hl dr : Bool} {T : qqT} {G : qqG} {V V0 : lwS} {σ σ' τ τ' σ0 : mS} {L : Nat} {xs : Nat → Int32}
/-- a refusal, whatever the call would do if it were not refused -/
theorem no_take (hk : V.2.1 < 60000) (h : LQ mm hl dr T G V) : f_L_takes 0 V = some (-4, (sf V.1 81 2, V.2.1 + 1, V.2.2)) ∧ LQ mm hl dr T G (sf V.1 81 2, V.2.1 + 1, V.2.2) := by
  have J := h.j1
  have h1' := J.1.1.n1
  have h30 := J.1.1.n30
  have e : f_take 0 V.1 = some (-1, sf V.1 81 2) := by
    unfold f_take f_take_25 f_take_30
    rw [r_isElement J.1.2.1 J.1.1, qqx, if_dt (show (0 : Int32) ≤ 0 ∧ (0 : Int32) < nI (Tn T) from nI_inn (e := 0) (by omega) (by omega)), if_pos rfl, r_holds2, qqx]
    rfl
  refine ⟨?_, ?_⟩
  · unfold f_L_takes oM oR
    rw [if_pos hk, e, qqx, qqx]
    show some (if (sf V.1 81 2).2 81 = 0 then (-1 : Int32) else if (sf V.1 81 2).2 81 = 1 then (-2) else (-4), (sf V.1 81 2, V.2.1 + 1, V.2.2)) = _
    rw [sf_s]
    rfl
  · obtain ⟨⟨S, L, A, ex, K, v, nw, w⟩, q⟩ := h
    obtain ⟨q1, r, e1, e2, -, hJ⟩ := sq_take hk w 0
    obtain ⟨T', G', L', A', ex', K', v', nw', w', p⟩ := hJ q1.2.2 (Nat.le_refl _)
    rw [e] at e2
    cases e2
    rcases p with ⟨rfl, rfl, y', hy', e3⟩ | ⟨p0, p⟩
    · exact ⟨⟨_, L', A', ex', K', v', nw', w'⟩, Q_sc w.j1 q (scE.of (scR_sf V.1 2))⟩
    · have p0 : (sf V.1 81 2).2 81 = 0 := p0
      rw [sf_s] at p0
      exact absurd p0 (by decide)
theorem lw_end (h : LWi na T G mm hl V) (hc : V.2.1 + 1000 < 60000) (m : Nat) : P_L_law_53 L xs (m + 1) na 30 V := by
  obtain ⟨V1, mm', e1, ⟨hq, ⟨n, hA, hB⟩, h50⟩, fr, c⟩ := asks_ok h (by omega)
  have l0 : ldA V1 na (0 : Int32) = some (nI (Tn T)) := (stV_ld (i := 0) hA (by decide)).trans (congrArg some hB.1.1)
  obtain ⟨z1, q1⟩ := z_value (by omega) hq
  obtain ⟨z2, q2⟩ := z_value15 (V := (sf V1.1 81 1, V1.2.1 + 1, V1.2.2)) (by show V1.2.1 + 1 < 60000; omega) q1
  obtain ⟨z3, q3⟩ := no_take (V := (sf (sf V1.1 81 1) 81 2, V1.2.1 + 1 + 1, V1.2.2)) (by show V1.2.1 + 1 + 1 < 60000; omega) q2
  obtain ⟨z4, q4⟩ := z_put (V := (sf (sf (sf V1.1 81 1) 81 2) 81 2, V1.2.1 + 1 + 1 + 1, V1.2.2)) (by show V1.2.1 + 1 + 1 + 1 < 60000; omega) q3 (by have := q3.j1.1.1.clen 0; have := q3.j1.1.1.n30; omega)
  obtain ⟨z5, q5⟩ := z_test (V := (sf (sf (sf (sf V1.1 81 1) 81 2) 81 2) 81 2, V1.2.1 + 1 + 1 + 1 + 1, V1.2.2)) (by show V1.2.1 + 1 + 1 + 1 + 1 < 60000; omega) q4
  obtain ⟨z6, q6⟩ := z_join (V := (sf (sf (sf (sf (sf V1.1 81 1) 81 2) 81 2) 81 2) 81 1, V1.2.1 + 1 + 1 + 1 + 1 + 1, V1.2.2)) (by show V1.2.1 + 1 + 1 + 1 + 1 + 1 < 60000; omega) q5
  rw [P_L_law_53, if_pos (Int32.le_refl _)]
  refine ⟨_, e1, ?_⟩
  rw [if_neg (show ¬ (1:Int32) = 0 by decide)]
  refine ⟨_, l0, _, z1, ?_⟩
  rw [if_pos rfl]
  refine ⟨_, z2, ?_⟩
  rw [if_pos rfl]
  refine ⟨_, z3, ?_⟩
  rw [if_pos rfl]
  refine ⟨_, z4, ?_⟩
  rw [if_pos rfl]
  refine ⟨_, z5, ?_⟩
  rw [if_pos rfl]
  refine ⟨_, z6, ?_⟩
  rw [if_pos rfl]
  rfl
theorem lw_132 {k53 : Nat → Int32 → lwS → Prop} {x3 : Int32} (x4 : Int32) (h : LWi na T G mm hl V) (hc : V.2.1 + 900 < 60000) (K : ∀ V', (∃ T G mm hl, LWi na T G mm hl V') → V'.2.1 ≤ V.2.1 + 900 → k53 na (x3 + 1) V') : P_L_law_132 L xs k53 na x3 x4 V := by
  obtain ⟨a1, -, e1⟩ := lo_ok x4 (n := 4) (by decide) (by decide) V
  refine ⟨_, e1, ?_⟩
  by_cases c : nI a1 = 0
  · rw [if_pos c]
    obtain ⟨V', mm', e2, l, fr, c2⟩ := asks_ok h hc
    refine ⟨_, e2, ?_⟩
    rw [if_neg (show ¬ (1:Int32) = 0 by decide)]
    exact K V' ⟨T, G, mm', hl, l⟩ c2
  · rw [if_neg c]
    exact K V ⟨T, G, mm, hl, h⟩ (by omega)
theorem cell_ok {j : Nat} (hj : j < 2 ^ 31) : ∃ v, cellO L xs (nI j) = some v := by
  unfold cellO
  rw [if_neg (nI_pos hj)]
  exact ⟨_, rfl⟩
def tlr (na : Nat) (V : lwS) (a : Nat) : lwS := match f_L_tell na a V with
  | some r => r.2
  | none => V
theorem tlr_is {a : Nat} {V' : lwS} (e : f_L_tell na a V = some (a, V')) : tlr na V a = V' := by
  unfold tlr
  rw [e]
theorem lw_53 : ∀ (d i m : Nat) (V : lwS), i + d = 30 → d < m → (∃ T G mm hl, LWi na T G mm hl V) → V.2.1 + 1200 * d + 1000 < 60000 → P_L_law_53 L xs m na (nI i) V := by
  intro d
  induction d with
  | zero =>
    intro i m V hi hm ⟨T, G, mm, hl, h⟩ hc
    obtain ⟨m, rfl⟩ : ∃ q, m = q + 1 := ⟨m - 1, by omega⟩
    obtain rfl : i = 30 := by omega
    exact lw_end h (by omega) m
  | succ d ih =>
    intro i m V hi hm ⟨T, G, mm, hl, h⟩ hc
    obtain ⟨m, rfl⟩ : ∃ q, m = q + 1 := ⟨m - 1, by omega⟩
    obtain ⟨hq, ⟨n, hA, hB⟩, h50⟩ := id h
    obtain ⟨v9, e9⟩ : ∃ v, cellO L xs ((2:Int32) * nI i) = some v := by
      rw [show (2:Int32) = nI 2 from rfl, pk_mul]
      exact cell_ok (by omega)
    obtain ⟨v10, e10⟩ : ∃ v, cellO L xs ((2:Int32) * nI i + 1) = some v := by
      rw [show (2:Int32) = nI 2 from rfl, pk_mul, nI_1]
      exact cell_ok (by omega)
    obtain ⟨f', ht⟩ := tell_ex V.1 T G na hB.2.1.2 hB.1.2
    have h1 : ∀ a, V.2.2 a = none → ∃ V', f_L_tell na a V = some (a, V') ∧ LQ mm hl false T G V' ∧ V'.2.2 a = some (64, f') ∧ tF a V V' ∧ V'.2.1 ≤ V.2.1 + 100 := fun a ha => ht mm hl false a V hq (coE.rf _) ⟨n, hA, hB.1.1, hB.2.1.1⟩ ha (by omega)
    have K : ∀ V', (∃ T G mm hl, LWi na T G mm hl V') → V'.2.1 ≤ V.2.1 + 1200 → P_L_law_53 L xs m na (nI i + 1) V' := fun V' w c => by
      rw [nI_1]
      exact ih (i + 1) m V' (by omega) (by omega) w (by omega)
    rw [P_L_law_53, if_neg (show ¬ (30:Int32) ≤ nI i from nI_ge (b := 30) (by omega) (by decide))]
    refine ⟨v9, e9, v10, e10, tlr na V, fun a ha => by obtain ⟨V', e, -⟩ := h1 a ha; rw [tlr_is e]; exact e, fun a11 h11 => ?_⟩
    obtain ⟨V1, e1, l1, x1, f1, c1⟩ := h1 a11 h11
    rw [tlr_is e1]
    have ne : na ≠ a11 := fun z => by rw [z, h11] at hA; cases hA
    have hW1 : LWi na T G mm hl V1 := ⟨l1, ⟨n, (f1.2 na ne).trans hA, hB⟩, by rw [f1.1.2.2.2.2 50 (by decide)]; exact h50⟩
    obtain ⟨k, -, ek⟩ := lo_ok (v9 >>> ((3:Int32) &&& 31)) (n := 16) (by decide) (by decide) V1
    obtain ⟨v, V2, e2, c2, fr2, T', G', hl', l2, k2⟩ := ac_act hW1 (by omega) v10 (nI k)
    refine ⟨_, ek, _, e2, ?_⟩
    have c2 : V2.2.1 ≤ V1.2.1 + 4 := c2
    have done : P_L_law_132 L xs (P_L_law_53 L xs m) na (nI i) v9 V2 := lw_132 v9 l2 (by omega) (fun V' w c => K V' w (by omega))
    by_cases d1 : (-1 : Int32) ≤ v
    · rw [if_pos d1]; exact done
    rw [if_neg d1]
    by_cases d2 : v ≤ (-9 : Int32)
    · rw [if_pos d2]; exact done
    rw [if_neg d2]
    rcases k2 with (z | z) | ⟨rfl, rfl, s2⟩
    · exact absurd z d1
    · exact absurd z d2
    obtain ⟨hq2, ⟨n2, hA2, hB2⟩, h502⟩ := id l2
    have h2 : ∀ a, V2.2.2 a = none → ∃ V', f_L_tell na a V2 = some (a, V') ∧ LQ mm hl' false T' G' V' ∧ V'.2.2 a = some (64, f') ∧ tF a V2 V' ∧ V'.2.1 ≤ V2.2.1 + 100 := fun a ha => ht mm hl' false a V2 hq2 (((coE.rf _).sc f1.1).sc s2) ⟨n2, hA2, hB2.1.1, hB2.2.1.1⟩ ha (by omega)
    refine ⟨tlr na V2, fun a ha => by obtain ⟨V', e, -⟩ := h2 a ha; rw [tlr_is e]; exact e, fun a14 h14 => ?_⟩
    obtain ⟨V3, e3, l3, x3, f3, c3⟩ := h2 a14 h14
    rw [tlr_is e3]
    have x2 : V2.2.2 a11 = some (64, f') := (fr2 a11 ne.symm).trans x1
    have ne2 : a11 ≠ a14 := fun z => by rw [z, h14] at x2; cases x2
    have ne3 : na ≠ a14 := fun z => by rw [z, h14] at hA2; cases hA2
    have es : f_L_same a11 a14 V3 = some (1, V3) := same_2 ((f3.2 a11 ne2).trans x2) x3 64 0 65 (by decide) (by decide)
    have hW3 : LWi na T' G' mm hl' V3 := ⟨l3, ⟨n2, (f3.2 na ne3).trans hA2, hB2⟩, by rw [f3.1.2.2.2.2 50 (by decide)]; exact h502⟩
    have done3 : P_L_law_132 L xs (P_L_law_53 L xs m) na (nI i) v9 V3 := lw_132 v9 hW3 (by omega) (fun V' w c => K V' w (by omega))
    refine ⟨_, es, ?_⟩
    rw [if_neg (show ¬ (1:Int32) = 0 by decide)]
    exact done3
theorem lw_19 : ∀ (d i m : Nat) (V : lwS), i + d = 4 → d < m → (∃ T G mm hl, LWi na T G mm hl V) → V.2.1 + 2 * d < 100 → P_L_law_19 L xs m na (nI i) V := by
  intro d
  induction d with
  | zero =>
    intro i m V hi hm h hc
    obtain ⟨m, rfl⟩ : ∃ q, m = q + 1 := ⟨m - 1, by omega⟩
    obtain rfl : i = 4 := by omega
    rw [P_L_law_19, if_pos (show (4:Int32) ≤ nI 4 from Int32.le_refl _)]
    exact lw_53 30 0 31 V (by decide) (by decide) h (by omega)
  | succ d ih =>
    intro i m V hi hm ⟨T, G, mm, hl, h⟩ hc
    obtain ⟨m, rfl⟩ : ∃ q, m = q + 1 := ⟨m - 1, by omega⟩
    obtain ⟨v1, V1, e1, c1, fr1, T1, G1, hl1, l1, -⟩ := ac_make h (by omega) (e := 1 + i) (by omega)
    have c1 : V1.2.1 ≤ V.2.1 + 1 := c1
    have e2 : dv (nI i) (2:Int32) = some (nI i / 2) := if_neg (by decide)
    obtain ⟨v3, V3, e3, c3, fr3, T3, G3, hl3, l3, -⟩ := ac_puts l1 (by omega) (nI i + 1) (nI i / 2) 0
    have c3 : V3.2.1 ≤ V1.2.1 + 1 := c3
    rw [P_L_law_19, if_neg (show ¬ (4:Int32) ≤ nI i from nI_ge (b := 4) (by omega) (by decide))]
    have e1 : f_L_make na ((1:Int32) + nI i) V = some (v1, V1) := by rw [show (1:Int32) = nI 1 from rfl, nI_add]; exact e1
    refine ⟨_, e1, _, e2, _, e3, ?_⟩
    show P_L_law_19 L xs m na (nI i + 1) V3
    rw [nI_1]
    exact ih (i + 1) m V3 (by omega) (by omega) ⟨T3, G3, mm, hl3, l3⟩ (by omega)
end LAW
theorem lawT_true : lawT := by
  intro L xs σ a V hL hσ hV
  rw [st_nw] at hV
  have hV := (Option.some.inj hV).symm
  obtain ⟨σ1, h1, hJ⟩ := rs2
  obtain ⟨σ2, h2, -, -, -, -, -, -, -, w50, -⟩ := r_X12
  rw [hσ] at h1 h2
  cases h1
  cases h2
  obtain ⟨w, q⟩ := hJ 255 (Nat.le_refl _)
  have hA : V.2.2 a = some (9, upd (fun _ => 0) 0 1) := by rw [hV]; exact if_pos rfl
  have e1 : V.1 = σ := by rw [hV]
  have e2 : V.2.1 = 0 := by rw [hV]
  have hq : LQ (0, 0, 0) false false T0 G0 V := by
    unfold LQ
    rw [e1, e2]
    exact ⟨⟨_, N0, A0, E0, K0, 0, 0, w⟩, q⟩
  refine lw_19 4 0 5 V (by decide) (by decide) ⟨T0, G0, (0, 0, 0), false, hq, ⟨_, hA, ⟨rfl, by decide⟩, ⟨rfl, by decide⟩, ⟨rfl, by decide⟩, ⟨rfl, by decide⟩, ⟨rfl, rfl, rfl⟩, Or.inl rfl, fun _ => rfl⟩, ?_⟩ (by rw [e2]; decide)
  rw [e1, w50]
  decide
