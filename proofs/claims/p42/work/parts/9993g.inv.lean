section QG
variable {mm : Nat × Nat × Nat}
variable {T T' : qqT} {G G' : qqG} {L : qqL} {A : kA} {ex : Nat → Nat → Prop} {K : kS} {v nw k : Nat} {S : cS} {σ σ' : mS} {hl dr dr' hl' : Bool} {e : Nat}
def J1 (T : qqT) (G : qqG) (σ : mS) : Prop := (Tw T ∧ RT T σ ∧ RC T G σ) ∧ ((∀ s, s < Gs G → RSl σ s s) ∧ RSl σ 30 (Gs G) ∧ σ.2 26 = nI (Gs G) ∧ Gs G ≤ 30) ∧ (mkD T σ ∧ ∀ e, e < 32 → ¬ (e < Tn T ∧ TD T e = true) → bt (σ.2 48) e = false) ∧ (∀ s, s < Gs G → ∀ i, 16 ≤ i → i < 32 → bt (σ.1 25 s) i = false) ∧ (RDv T G σ ∧ RAn σ ∧ RNw σ ∧ σ.2 70 = 0) ∧ (∀ e, e < Tn T → (∀ v, v < 3 → okP (rPr σ 0 e v)) ∧ (∀ p, p < 12 → bV (σ.1 43 (12 * e + p))) ∧ (bt (σ.2 48) e = true → ¬ 0 < σ.1 43 (12 * e + 6) → σ.1 46 e = -1)) ∧ ∀ e, Tn T ≤ e → e < 30 → (∀ p, p < 12 → σ.1 43 (12 * e + p) = 0) ∧ ∀ p, p < 5 → σ.1 55 (5 * e + p) = -1
theorem JW.j1 (w : JW k T G L A ex K v nw S σ) : J1 T G σ := by
  obtain ⟨⟨hw, hA, hin⟩, -, ⟨-, ⟨-, hL⟩, -⟩, j⟩ := w
  refine ⟨⟨hw, j.1.2.2.2, j.2.1.1⟩, ⟨fun s hs => (j.2.2.2.2.2.1.1.1 s hs).2.2.2, j.2.2.2.2.2.2.1.1.2.1, j.2.2.2.2.2.1.2, j.2.2.2.2.2.1.1.2.2.2.1⟩, ⟨j.2.2.2.2.1.1, j.2.2.2.1.2.2.1⟩, fun s hs => (j.2.1.2.2.2.2.1 s hs).2.2.2, ⟨j.2.1.2.2.2.1, j.2.2.1.1, j.2.2.1.2.2.1, by rw [j.2.2.1.2.2.2.2.1.1, hL]; rfl⟩, fun e he => ?_, fun e h1 h2 => by
    have := j.2.2.2.2.2.2.2.2.1 e h1 h2
    exact ⟨this.2.2.2.2.2.2.1, fun p hp => (this.2.2.2.2.2.2.2.2 p hp).2⟩⟩
  have r := j.2.2.2.1.1 e he
  refine ⟨fun v hv => ?_, r.2.2.2.2.1, fun z1 z2 => (r.2.2.2.1 z1).2 z2⟩
  unfold rPr
  rw [ix0]
  exact ((vEqv_w.mp r.1).1.2 v hv).1
def Q (k : Nat) (mm : Nat × Nat × Nat) (hl dr : Bool) (T : qqT) (G : qqG) (σ : mS) : Prop :=
  ((∀ s, s < Gs G → Fq σ s) ∧ (σ.1 22 30 = 1 → σ.1 21 30 < 0) ∧ (dr = false → σ.1 22 30 = 0 ∧ σ.1 21 30 < 0)) ∧
  (∀ e, e < Tn T → TD T e = true → bt (σ.2 48) e = true → bt (σ.2 49) e = false → cons T G σ e) ∧
  (ndB T σ = false → ∀ e, e < Tn T → TD T e = true → szOK T G σ e) ∧
  ((∀ a, a < 70 → Ldc σ 10 a = false ∧ Ldc σ 11 a = false) ∧ ∀ e, e < Tn T → ∀ p, p < 5 → σ.1 55 (5 * e + p) = -1) ∧
  (∃ a b c : Nat, σ.2 51 = nI a ∧ σ.2 52 = nI b ∧ σ.2 53 = nI c ∧ a ≤ k ∧ b ≤ 30 * k ∧ c ≤ b ∧ mm.1 ≤ a ∧ mm.2.1 ≤ b ∧ mm.2.2 ≤ c) ∧
  (hl = false → (∀ a, a < 70 → Ldc σ 6 a = false) ∧ ∀ e, e < Tn T → σ.1 43 (12 * e + 6) ≤ 0)
theorem nd_is (T : qqT) (σ : mS) : ndB T σ = false ↔ ∀ e, e < Tn T → TD T e = true → bt (σ.2 48) e = true ∧ bt (σ.2 49) e = false := by
  unfold ndB
  constructor
  · intro h e he hd
    have : (TD T e && (bt (σ.2 49) e || !bt (σ.2 48) e)) = false := by
      cases hb : (TD T e && (bt (σ.2 49) e || !bt (σ.2 48) e)) with
      | false => rfl
      | true => rw [qAny_is.mpr ⟨e, he, hb⟩] at h; cases h
    rw [hd, Bool.true_and, Bool.or_eq_false_iff, Bool.not_eq_false'] at this
    exact ⟨this.2, this.1⟩
  · intro h
    refine Bool.eq_false_iff.mpr (fun w => ?_)
    obtain ⟨e, he, hb⟩ := qAny_is.mp w
    rw [Bool.and_eq_true] at hb
    obtain ⟨h1, h2⟩ := h e he hb.1
    rw [h1, h2] at hb
    exact absurd hb.2 (by decide)
theorem Fq.cg {s : Nat} (h : ∀ f, f ∈ [14, 15, 16, 17, 18, 19, 20, 21, 22, 23, 24, 25] → σ'.1 f = σ.1 f) (q : Fq σ s) : Fq σ' s := by
  have e14 := h 14 (by decide)
  have e15 := h 15 (by decide)
  have e16 := h 16 (by decide)
  have e17 := h 17 (by decide)
  have e18 := h 18 (by decide)
  have e19 := h 19 (by decide)
  have e21 := h 21 (by decide)
  have e22 := h 22 (by decide)
  have e23 := h 23 (by decide)
  have e24 := h 24 (by decide)
  have e25 := h 25 (by decide)
  have c : nC σ' = nC σ := by funext s; unfold nC; rw [e14]
  have tt : nTt σ' = nTt σ := by funext s k; unfold nTt; rw [e16]
  have a : tA σ' = tA σ := by funext i; unfold tA; rw [e18]
  have b : tB σ' = tB σ := by funext i; unfold tB; rw [e19]
  have co : cO σ' = cO σ := by funext s k; unfold cO; rw [e15]
  have bi : tBi σ' = tBi σ := by funext i; unfold tBi; rw [e17, e18]
  have dp : tDp σ' = tDp σ := by funext i; unfold tDp; rw [e17, e25, a, b]
  have ns : tNs σ' = tNs σ := by funext i; unfold tNs; rw [e17, c, a]
  have nr : tNr σ' = tNr σ := by funext i; unfold tNr; rw [bi, ns, e23, a]
  have fr : tFr σ' = tFr σ := by funext i; unfold tFr; rw [ns, e24, a, dp]
  have al : tAl σ' = tAl σ := by funext i; unfold tAl; rw [bi, dp, e17, a]
  have sa : sAl σ' = sAl σ := by funext s; unfold sAl; rw [co, al, tt, c]
  have nc : nrC σ' = nrC σ := by funext l i; unfold nrC; rw [nr]
  have fc : frC σ' = frC σ := by funext l i; unfold frC; rw [fr, bi, dp]
  have an : acN σ' = acN σ := by funext s m j; unfold acN; rw [nc, tt]
  have af : acF σ' = acF σ := by funext s m j; unfold acF; rw [fc, tt]
  unfold Fq at q ⊢
  rw [e21, e22, e23, e24, e25, c, sa, an, af]
  exact q
theorem Tho_H (hw : Tw T) {H H' : Nat → Bool} (hh : ∀ x, x < Tn T → H x = H' x) : ∀ y, y < Tn T → Tho T H y = Tho T H' y := fun y hy => Tho_cg hw (e := y) (fun x hx _ => hh x hx) y hy (Nat.le_refl _)
theorem hsz_rows (hw : Tw T) (h : ∀ y, y < Tn T → rEq σ σ' y ∧ σ'.1 46 y = σ.1 46 y) (he : e < Tn T) : hsz T σ' 0 e = hsz T σ 0 e := by
  unfold hsz
  rw [Tho_H hw (H := Hv σ' 0) (H' := Hv σ 0) (fun x hx => by
    unfold Hv
    rw [ix0, (h x hx).1.1 6 (by decide)]) e he]
  cases ht : Tho T (Hv σ 0) e with
  | none => rfl
  | some x =>
    have hx := (Tho_lt hw e he ht).1
    show some (σ'.1 46 (30 * 0 + x)) = some (σ.1 46 (30 * 0 + x))
    rw [Nat.mul_zero, Nat.zero_add, (h x hx).2]
theorem Q_edit {k' : Nat} (hw : Tw T) (hw' : Tw T') (h40 : Gr G ≤ 40) (q : Q k mm hl dr T G σ) (hn : Tn T' = Tn T) (h1 : ∀ f, f ∈ [14, 15, 16, 17, 18, 19, 20, 21, 22, 23, 24, 25] → σ'.1 f = σ.1 f) (h2 : ∀ y, y < Tn T → rEq σ σ' y ∧ σ'.1 46 y = σ.1 46 y) (h55 : ∀ e, e < Tn T → ∀ p, p < 5 → σ'.1 55 (5 * e + p) = σ.1 55 (5 * e + p) ∨ σ'.1 55 (5 * e + p) = -1) (h3 : ∀ f, f ∈ [51, 52, 53] → σ'.2 f = σ.2 f) (hE : ∀ a, a < 70 → Ldc σ' 10 a = false ∧ Ldc σ' 11 a = false) (hH : hl' = false → hl = false ∧ ∀ a, a < 70 → Ldc σ' 6 a = false)
    (hk : ∀ e, e < Tn T → TD T' e = true → bt (σ'.2 48) e = true → bt (σ'.2 49) e = false → TD T e = true ∧ bt (σ.2 48) e = true ∧ bt (σ.2 49) e = false ∧ keepE T T' G σ σ' e)
    (hd : hl = false ∨ ∀ x, x < Tn T → TD T x = true → TD T' x = true) (hkk : k ≤ k' := by omega) : Q k' mm hl' dr T' G σ' := by
  obtain ⟨⟨q1, q2, q3⟩, q4, q5, ⟨q6, q7⟩, ⟨a, b, c, q8, q9, q10, q11, q12, q13⟩, q14⟩ := q
  have n1 := hw.n1
  have r0 : σ'.1 43 1 = σ.1 43 1 := by
    have := (h2 0 (by omega)).1.1 1 (by decide)
    exact this
  refine ⟨⟨fun s hs => (q1 s hs).cg h1, ?_, ?_⟩, ?_, ?_, ⟨hE, fun e he p hp => ?_⟩, ⟨a, b, c, by rw [h3 51 (by decide)]; exact q8, by rw [h3 52 (by decide)]; exact q9, by rw [h3 53 (by decide)]; exact q10, by omega, by omega, q13⟩, fun z => ?_⟩
  · rw [h1 22 (by decide), h1 21 (by decide)]; exact q2
  · rw [h1 22 (by decide), h1 21 (by decide)]; exact q3
  · intro e he hd' h48 h49
    rw [hn] at he
    obtain ⟨k1, k2, k3, k4⟩ := hk e he hd' h48 h49
    exact cons_keep h40 k4 (h2 e he).1 (fun y hy => (h2 y (Tsp_cases hw hy).2.1).1) (fun _ => r0) (q4 e he k1 k2 k3)
  · intro hz e he hd'
    rw [hn] at he
    have nz := (nd_is T' σ').mp hz
    have kk : ∀ x, x < Tn T → TD T' x = true → TD T x = true ∧ bt (σ.2 48) x = true ∧ bt (σ.2 49) x = false ∧ keepE T T' G σ σ' x := fun x hx hdx => hk x hx hdx (nz x (by omega) hdx).1 (nz x (by omega) hdx).2
    rcases hd with z | hd
    · intro hp
      rw [(h2 e he).1.1 6 (by decide)] at hp
      have := (q14 z).2 e he
      exact absurd hp (Int32.not_lt.mpr this)
    · have hz0 : ndB T σ = false := (nd_is T σ).mpr (fun x hx hdx => ⟨(kk x hx (hd x hx hdx)).2.1, (kk x hx (hd x hx hdx)).2.2.1⟩)
      obtain ⟨k1, k2, k3, k4⟩ := kk e he hd'
      refine size_keep hw hw' he (by omega) h40 (fun x => ⟨fun w => ?_, fun w => ?_⟩) (fun x hx => ?_) (h2 e he).1 (h2 e he).2 r0 (q5 hz0 e he k1)
      · have hx : x < Tn T := by have := (Tsp_cases hw' w).1; omega
        have := (kk x hx ((Tsp_D hw' w).trans hd')).2.2.2
        rw [← this.2.2.1]; exact w
      · have hx : x < Tn T := (Tsp_cases hw w).1
        have := (kk x hx (hd x hx ((Tsp_D hw w).trans k1))).2.2.2
        rw [this.2.2.1]; exact w
      · have hxn := (Tsp_cases hw hx).1
        have := (kk x hxn (hd x hxn ((Tsp_D hw hx).trans k1))).2.2.2
        exact ⟨this.1, this.2.1⟩
  · rw [hn] at he
    rcases h55 e he p hp with z | z
    · rw [z]; exact q7 e he p hp
    · exact z
  · obtain ⟨z1, z2⟩ := hH z
    obtain ⟨w1, w2⟩ := q14 z1
    refine ⟨z2, fun e he => ?_⟩
    rw [hn] at he
    rw [(h2 e he).1.1 6 (by decide)]; exact w2 e he
theorem Q_all {k' : Nat} (J : J1 T G σ) (J' : J1 T' G' σ') (q : Q k mm hl dr T G σ) (hn : Tn T' = Tn T) (hG : Gs G' = Gs G) (h1 : ∀ f, f ∈ [14, 15, 16, 17, 18, 19, 20, 21, 22, 23, 24, 25] → σ'.1 f = σ.1 f) (h2 : ∀ f, f ∈ [43, 55] → σ'.1 f = σ.1 f) (hE : ∀ a, a < 70 → Ldc σ' 10 a = false ∧ Ldc σ' 11 a = false) (hH : hl' = false → hl = false ∧ ∀ a, a < 70 → Ldc σ' 6 a = false) (h3 : ∀ f, f ∈ [51, 52, 53] → σ'.2 f = σ.2 f) (hm : ∀ e, e < Tn T' → TD T' e = true → bt (σ'.2 49) e = true) (hkk : k ≤ k' := by omega) : Q k' mm hl' dr T' G' σ' := by
  obtain ⟨⟨q1, q2, q3⟩, q4, q5, ⟨q6, q7⟩, ⟨a, b, c, q8, q9, q10, q11, q12, q13⟩, q14⟩ := q
  have hw' := J'.1.1
  have n1 := hw'.n1
  refine ⟨⟨fun s hs => (q1 s (by rw [hG] at hs; exact hs)).cg h1, ?_, ?_⟩, ?_, ?_, ⟨hE, fun e he p hp => by rw [h2 55 (by decide)]; exact q7 e (by omega) p hp⟩, ⟨a, b, c, by rw [h3 51 (by decide)]; exact q8, by rw [h3 52 (by decide)]; exact q9, by rw [h3 53 (by decide)]; exact q10, by omega, by omega, q13⟩, fun z => ?_⟩
  · rw [h1 22 (by decide), h1 21 (by decide)]; exact q2
  · rw [h1 22 (by decide), h1 21 (by decide)]; exact q3
  · intro e he hd h48 h49
    rw [hm e he hd] at h49; cases h49
  · intro hz
    have := ((nd_is T' σ').mp hz 0 (by omega) (TD_0 hw')).2
    rw [hm 0 (by omega) (TD_0 hw')] at this; cases this
  · obtain ⟨z1, z2⟩ := hH z
    obtain ⟨w1, w2⟩ := q14 z1
    exact ⟨z2, fun e he => by rw [h2 43 (by decide)]; exact w2 e (by omega)⟩
end QG
