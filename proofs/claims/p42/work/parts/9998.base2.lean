/-! MATHS, 124: the start -/
def rB (o : Option (Nat × Nat)) (k i : Nat) : Bool := match o with
  | some p => decide (p.1 = k) && decide (p.2 = i)
  | none => false
theorem rB_e {o : Option (Nat × Nat)} {k i : Nat} (h : rB o k i = true) : o = some (k, i) := by
  cases o with
  | none => cases h
  | some p =>
    have h : (decide (p.1 = k) && decide (p.2 = i)) = true := h
    rw [Bool.and_eq_true] at h
    exact congrArg some (Prod.ext (of_decide_eq_true h.1) (of_decide_eq_true h.2))
theorem rN_e {o : Option (Nat × Nat)} (h : o.isNone = true) : o = none := by
  cases o with
  | none => rfl
  | some p => cases h
def T0 : qqT := (1, fun _ => none, fun _ => none, fun _ => [], fun _ => [], fun _ => false, fun _ => false, fun _ => -1)
def G0 : qqG := (0, 0, 0, 0, fun _ => 0, fun _ => 0, fun _ => none, fun _ => 0)
def N0 : qqL := (0, fun _ => (0, 0, 0, 0))
def E0 (k i : Nat) : Prop := ex0 k i = true
theorem T0_w : Tw T0 := ⟨⟨Nat.le_refl _, show 1 ≤ 30 by decide⟩, (fun e p h => by cases h), (fun p e h => by cases h), (fun e p h => by cases h), (fun p e h => by cases h), fun p => List.nodup_nil, fun p => List.nodup_nil, fun e => Or.inl rfl, (fun e h z => by cases z), ⟨rfl, rfl⟩, fun _ => 0, (fun e p h => by cases h), (fun e p h => by cases h)⟩
theorem kp0 : KP E0 K0 := by
  refine ⟨⟨fun k h1 h2 h3 => ?_, fun t ht => ?_, fun a ha => ?_, fun q hq => ?_, fun e k he h1 h2 => ?_, fun b k hb h1 h2 => ?_⟩, ⟨rB_e (by decide +kernel), rB_e (by decide +kernel), rB_e (by decide +kernel), rB_e (by decide +kernel), rB_e (by decide +kernel), rB_e (by decide +kernel), rB_e (by decide +kernel), rB_e (by decide +kernel)⟩, ⟨rB_e (by decide +kernel), rB_e (by decide +kernel), rB_e (by decide +kernel), rB_e (by decide +kernel), rB_e (by decide +kernel), fun t ht => rB_e ?_⟩, ⟨rB_e (by decide +kernel), rB_e (by decide +kernel), rB_e (by decide +kernel), rB_e (by decide +kernel), rB_e (by decide +kernel)⟩, fun a ha => ⟨rB_e ?_, rB_e ?_, rB_e ?_, fun p hp => rB_e ?_⟩, fun e he => ⟨rB_e ?_, rB_e ?_, rB_e ?_, rB_e ?_, rB_e ?_⟩, fun b hb => ⟨rB_e ?_, rB_e ?_, rB_e ?_, rB_e ?_⟩⟩
  · exact (by decide +kernel : ∀ k, k < 66 → 49 ≤ k → k ≠ 55 → ex0 k 0 = true) k (by omega) h1 h3
  · exact (by decide +kernel : ∀ t, t < 31 → ex0 55 t = true) t ht
  · exact ⟨(by decide +kernel : ∀ t, t < 4 → ex0 34 t = true) a ha, (by decide +kernel : ∀ t, t < 4 → ex0 35 t = true) a ha, (by decide +kernel : ∀ t, t < 4 → ex0 37 t = true) a ha⟩
  · exact (by decide +kernel : ∀ t, t < 20 → ex0 36 t = true) q hq
  · exact (by decide +kernel : ∀ k, k < 44 → ∀ e, e < 30 → 39 ≤ k → ex0 k e = true) k (by omega) e he h1
  · exact (by decide +kernel : ∀ k, k < 49 → ∀ e, e < 2 → 44 ≤ k → ex0 k e = true) k (by omega) b hb h1
  · exact (by decide +kernel : ∀ t, t < 31 → rB (K0.2 54 0 t) 55 t = true) t ht
  · exact (by decide +kernel : ∀ a, a < 4 → rB (K0.2 62 0 a) 34 a = true) a ha
  · exact (by decide +kernel : ∀ a, a < 4 → rB (K0.2 34 a 3) 35 a = true) a ha
  · exact (by decide +kernel : ∀ a, a < 4 → rB (K0.2 34 a 4) 37 a = true) a ha
  · exact (by decide +kernel : ∀ a, a < 4 → ∀ p, p < 5 → rB (K0.2 35 a p) 36 (5 * a + p) = true) a ha p hp
  · exact (by decide +kernel : ∀ e, e < 30 → rB (K0.2 64 0 e) 39 e = true) e he
  · exact (by decide +kernel : ∀ e, e < 30 → rB (K0.2 39 e 0) 40 e = true) e he
  · exact (by decide +kernel : ∀ e, e < 30 → rB (K0.2 39 e 5) 41 e = true) e he
  · exact (by decide +kernel : ∀ e, e < 30 → rB (K0.2 39 e 6) 42 e = true) e he
  · exact (by decide +kernel : ∀ e, e < 30 → rB (K0.2 39 e 7) 43 e = true) e he
  · exact (by decide +kernel : ∀ e, e < 2 → rB (K0.2 44 e 0) 45 e = true) b hb
  · exact (by decide +kernel : ∀ e, e < 2 → rB (K0.2 44 e 5) 46 e = true) b hb
  · exact (by decide +kernel : ∀ e, e < 2 → rB (K0.2 44 e 6) 47 e = true) b hb
  · exact (by decide +kernel : ∀ e, e < 2 → rB (K0.2 44 e 7) 48 e = true) b hb
theorem kt0 : KT T0 E0 K0 := by
  refine ⟨fun e he => ?_, show ex0 50 0 = true by decide +kernel, show ex0 51 0 = true by decide +kernel, by decide +kernel, rB_e (by decide +kernel), rB_e (by decide +kernel), fun e he => ?_⟩
  · have he : e < 1 := he
    have e0 : e = 0 := by omega
    subst e0
    refine ⟨fun k hk => (by decide +kernel : ∀ k, k < 11 → ex0 k 0 = true) k (by omega), by decide +kernel, by show K0.1 0 0 7 = 0; decide +kernel, ?_, by show K0.1 0 0 5 = -1; decide +kernel, rN_e (by decide +kernel), rN_e (by decide +kernel), rN_e (by decide +kernel), rN_e (by decide +kernel), rN_e (by decide +kernel), rN_e (by decide +kernel), rB_e (by decide +kernel), rB_e (by decide +kernel), rB_e (by decide +kernel)⟩
    have : K0.1 0 0 1 = 0 := by decide +kernel
    rw [this]
    exact ⟨fun z => absurd z (by decide), (fun z => by cases z)⟩
  · have he : e < 1 := he
    have e0 : e = 0 := by omega
    subst e0
    exact rB_e (by decide +kernel)
theorem kl0 : KL T0 K0 := by
  refine ⟨fun e he => ?_, ?_, ?_⟩
  · have he : e < 1 := he
    have e0 : e = 0 := by omega
    subst e0
    exact ⟨by show K0.1 0 0 14 = 1; decide +kernel, rN_e (by decide +kernel), rN_e (by decide +kernel), by show K0.1 1 0 12 = 0; decide +kernel⟩
  · have h1 : K0.1 50 0 2 = 1 := by decide +kernel
    have h2 : qqM (TD T0) 1 = 1 := by decide
    exact h1.trans h2.symm
  · have h : (Tord T0).tail = [] := rfl
    rw [h]
    exact rN_e (by decide +kernel)
theorem ex0_n {k i : Nat} (h : (i ≠ 0 ∧ (k ≤ 33)) ∨ (11 ≤ k ∧ k ≤ 16) ∨ k = 38 ∨ (19 ≤ k ∧ k ≤ 21) ∨ (23 ≤ k ∧ k ≤ 25) ∨ (27 ≤ k ∧ k ≤ 29) ∨ (31 ≤ k ∧ k ≤ 33)) : ¬ E0 k i := by
  intro z
  unfold E0 ex0 at z
  simp only [Bool.or_eq_true, Bool.and_eq_true, decide_eq_true_eq, List.contains_iff_mem, List.mem_cons, List.not_mem_nil, or_false] at z
  omega
theorem J_start : ∃ σ, f_X12_init = some σ ∧ JW 0 T0 G0 N0 A0 E0 K0 0 0 (dH LZ) σ ∧ Q 0 (0, 0, 0) false false T0 G0 σ := by
  obtain ⟨σ, e9, a6, a37, a55, a60, ⟨c14, c16, c21, c22⟩, z1, z13, z50, z2⟩ := r_X12
  have zz : ∀ f, ¬ f6L f → f ≠ 37 → f ≠ 55 → f ≠ 60 → f ≠ 61 → f ≠ 14 → f ≠ 16 → f ≠ 21 → f ≠ 22 → ∀ i, σ.1 f i = 0 := fun f h0 h1 h2 h3 h4 h5 h6 h7 h8 i => z1 f i h0 h1 h2 h3 h4 h5 h6 h7 h8
  have nf : ∀ f, f ≠ 3 → f ≠ 4 → f ≠ 5 → f ≠ 6 → f ≠ 7 → f ≠ 59 → ¬ f6L f := fun f h1 h2 h3 h4 h5 h6 => by unfold f6L; omega
  have q : ∀ f, f ∈ [0, 1, 2, 8, 9, 10, 11, 12, 34, 35, 43, 44, 45, 46, 47, 62, 63, 64] → ∀ i, σ.1 f i = 0 := fun f hf => zz f (nf f (by rintro rfl; revert hf; decide) (by rintro rfl; revert hf; decide) (by rintro rfl; revert hf; decide) (by rintro rfl; revert hf; decide) (by rintro rfl; revert hf; decide) (by rintro rfl; revert hf; decide)) (by rintro rfl; revert hf; decide) (by rintro rfl; revert hf; decide) (by rintro rfl; revert hf; decide) (by rintro rfl; revert hf; decide) (by rintro rfl; revert hf; decide) (by rintro rfl; revert hf; decide) (by rintro rfl; revert hf; decide) (by rintro rfl; revert hf; decide)
  have m3 : ∀ i, i < 30 → σ.1 3 i = -1 ∧ σ.1 4 i = -1 ∧ σ.1 5 i = -1 ∧ σ.1 6 i = -1 ∧ σ.1 7 i = -1 ∧ σ.1 59 i = -1 := fun i hi => ⟨a6 3 i (by unfold f6L; omega) hi, a6 4 i (by unfold f6L; omega) hi, a6 5 i (by unfold f6L; omega) hi, a6 6 i (by unfold f6L; omega) hi, a6 7 i (by unfold f6L; omega) hi, a6 59 i (by unfold f6L; omega) hi⟩
  have nC1 : nC σ 30 = 1 := by unfold nC; rw [c14]; rfl
  have nT1 : nTt σ 30 0 = 0 := by
    unfold nTt
    have := c16 0 (by decide)
    rw [show 4 * 30 + 0 = 120 + 0 from rfl, this]; rfl
  have ldc : ∀ p, p < 15 → Ldc σ p 40 = false := fun p hp => by
    unfold Ldc
    rw [a37 _ (by omega)]; decide
  have vr : ∀ a, VR T0 G0 a → a = 40 := fun a ha => by
    have ha : a < 0 ∨ (40 ≤ a ∧ a < 40 + 1) := ha
    omega
  have e1 : ∀ e, e < Tn T0 → e = 0 := fun e he => by
    have he : e < 1 := he
    omega
  have g0 : gAl G0 σ = 0 := rfl
  have hQ : Q 0 (0, 0, 0) false false T0 G0 σ := by
    have ld9 : ∀ p, p < 15 → ∀ a, a < 70 → Ldc σ p a = false := fun p hp a ha => by
      unfold Ldc
      rw [a37 _ (by omega)]; decide
    have b48 : bt (σ.2 48) 0 = false := by rw [z2 48 (by decide) (by decide), b_0]
    refine ⟨⟨fun s hs => absurd hs (Nat.not_lt_zero s), fun _ => by rw [c21]; decide, fun _ => ⟨c22, by rw [c21]; decide⟩⟩, fun e he _ hk => ?_, fun hn => ?_, ⟨fun a ha => ⟨ld9 10 (by decide) a ha, ld9 11 (by decide) a ha⟩, fun e he p hp => a55 _ (by have := e1 e he; omega)⟩, ⟨0, 0, 0, z2 51 (by decide) (by decide), z2 52 (by decide) (by decide), z2 53 (by decide) (by decide), Nat.zero_le _, Nat.zero_le _, Nat.le_refl _, Nat.le_refl _, Nat.le_refl _, Nat.le_refl _⟩, fun _ => ⟨fun a ha => ld9 6 (by decide) a ha, fun e he => by rw [q 43 (by decide)]; decide⟩⟩
    · rw [e1 e he, b48] at hk; cases hk
    · have := ((nd_is T0 σ).mp hn 0 (by decide) (TD_0 T0_w)).1
      rw [b48] at this; cases this
  refine ⟨σ, e9, ⟨⟨T0_w, KA0, ⟨show ex0 65 0 = true by decide +kernel, by decide +kernel, fun p hp => (by decide +kernel : ∀ p, p < 12 → K0.1 65 0 p = vI0 p) p hp⟩⟩, by decide +kernel, ⟨Nat.le_refl _, ⟨Nat.zero_le _, rfl⟩, z2 54 (by decide) (by decide)⟩, ⟨⟨kt0, kp0, kl0, ⟨fun _ => 0, fun e he => Or.inl ?_⟩⟩, fun e he => ?_, fun e he => ?_, ?_⟩, ⟨?_, ?_, fun a ha => ?_, fun a ha p hp hl => ?_, ?_⟩, ⟨?_, ?_, ?_, ?_, ?_, ?_⟩, ⟨fun e he => ?_, fun e he _ p hp => a55 _ (by have := e1 e he; omega), fun e _ _ => ?_, fun e he hd => ?_⟩, ⟨fun e _ hb => ?_, fun e he _ => ?_, ?_, ?_, ?_⟩, ⟨?_, z2 26 (by decide) (by decide)⟩, ?_, ?_⟩, hQ⟩
  · rw [e1 e he]; exact rN_e (by decide +kernel)
  · rw [e1 e he]; exact ⟨rB_e (by decide +kernel), rB_e (by decide +kernel), rB_e (by decide +kernel)⟩
  · rw [e1 e he, q 0 (by decide), q 1 (by decide), q 2 (by decide), (m3 0 (by decide)).1, (m3 0 (by decide)).2.1, (m3 0 (by decide)).2.2.1]
    exact ⟨by decide +kernel, by decide +kernel, by decide +kernel, by decide +kernel, by decide +kernel, by decide +kernel⟩
  · refine ⟨z13, fun e he => (m3 e he).2.2.2.1, fun e he => (m3 e he).2.2.2.2.1, fun e he => q 8 (by decide) e, fun e he => q 10 (by decide) e, fun e he => q 12 (by decide) e, (fun e k x h => by cases h), (fun e k x h => by cases h), fun e he => ?_, fun e he => (m3 e he).2.1⟩
    rw [q 0 (by decide)]
    exact ⟨fun z => absurd z (by decide), (fun z => by cases z)⟩
  · exact ⟨z2 31 (by decide) (by decide), Nat.zero_le _, fun k hk => absurd hk (Nat.not_lt_zero k), z2 36 (by decide) (by decide), Nat.zero_le _, fun r hr => absurd hr (Nat.not_lt_zero r), Nat.zero_le _⟩
  · refine ⟨fun k hk => absurd hk (Nat.not_lt_zero k), fun r hr => absurd hr (Nat.not_lt_zero r), fun e he => ?_, ⟨?_, ?_, ?_, rN_e (by decide +kernel), rN_e (by decide +kernel)⟩, fun s hs => absurd hs (Nat.not_lt_zero s)⟩
    · rw [e1 e he]
      exact ⟨rN_e (by decide +kernel), rN_e (by decide +kernel), by decide +kernel, rB_e (by decide +kernel), rB_e (by decide +kernel), rB_e (by decide +kernel), rB_e (by decide +kernel)⟩
    · rw [z2 31 (by decide) (by decide)]; decide +kernel
    · rw [z2 36 (by decide) (by decide)]; decide +kernel
    · rw [z50]; decide +kernel
  · rw [vr a ha]
    have h6 : K0.1 1 0 6 = 0 := by decide +kernel
    have eb : bkr 40 = (1, 0) := rfl
    unfold KDr
    rw [eb]
    show (∀ p, 15 ≤ p → p < 32 → bt (K0.1 1 0 6) p = false) ∧ ∀ p, p < 15 → bt (K0.1 1 0 6) p = Ldc σ p 40 ∧ (Ldc σ p 40 = true → _)
    rw [h6]
    exact ⟨fun p _ _ => b_0 p, fun p hp => ⟨by rw [b_0, ldc p hp], fun z => by rw [ldc p hp] at z; exact absurd z (by decide)⟩⟩
  · rw [vr a ha, ldc p hp] at hl
    exact absurd hl (by decide)
  · have h9 : K0.1 58 0 9 = 0 := by decide +kernel
    have h10 : K0.1 58 0 10 = 0 := by decide +kernel
    have h11 : K0.1 58 0 11 = 0 := by decide +kernel
    have h12 : K0.1 58 0 12 = 0 := by decide +kernel
    refine ⟨fun s hs => absurd hs (Nat.not_lt_zero s), fun i _ => ?_, ?_, ?_⟩
    · rw [h9, h10]; exact ⟨rfl, rfl⟩
    · rw [g0, h11]; exact ⟨false, rfl, fun _ => (b_0 14).symm⟩
    · rw [g0, h12, b_0]; rfl
  · refine ⟨fun a ha => ⟨⟨10, by decide, by decide, (a60 a ha).1⟩, ⟨1, by decide, by decide, (a60 a ha).2⟩, ⟨false, q 62 (by decide) a⟩⟩, fun i _ => ⟨⟨false, q 63 (by decide) i⟩, fun z => ?_⟩⟩
    rw [q 63 (by decide)] at z
    exact absurd z (by decide)
  · intro a ha
    rw [(a60 a ha).1, (a60 a ha).2, q 62 (by decide)]
    refine ⟨(by decide +kernel : ∀ a, a < 4 → K0.1 34 a 0 = 10) a ha, (by decide +kernel : ∀ a, a < 4 → K0.1 34 a 1 = 1) a ha, (by decide +kernel : ∀ a, a < 4 → K0.1 34 a 2 = 0) a ha, fun p hp => ?_⟩
    have as0 : ∀ t, aSt σ a p t = false := fun t => by
      unfold aSt
      rw [q 63 (by decide)]; decide
    refine ⟨fun t _ => ?_, fun t _ z => by rw [as0 t] at z; cases z⟩
    rw [as0 t, Bool.and_false, (by decide +kernel : ∀ a, a < 4 → ∀ p, p < 5 → K0.1 37 a p = 0) a ha p hp]
    exact b_0 t
  · exact ⟨0, by decide, z2 54 (by decide) (by decide), fun e he => Or.inl (m3 e he).2.2.2.2.2, fun i hi => Or.inl (a55 i hi)⟩
  · rw [z2 54 (by decide) (by decide)]; decide +kernel
  · exact ⟨z2 70 (by decide) (by decide), Nat.zero_le _, fun k hk => absurd hk (Nat.not_lt_zero k)⟩
  · exact ⟨by decide +kernel, fun k hk => absurd hk (Nat.not_lt_zero k)⟩
  · rw [e1 e he]
    have z6 : K0.1 6 0 3 = 0 := by decide +kernel
    have z61 : K0.1 6 0 1 = 0 := by decide +kernel
    refine ⟨vEqv_w.mpr ⟨⟨fun p hp => ?_, fun v hv => ?_⟩, ?_⟩, fun p hp => ?_, fun p hp => ?_, fun hbe => ?_, fun p hp => ?_, ?_⟩
    · rw [q 43 (by decide)]; exact (by decide +kernel : ∀ p, p < 12 → K0.1 7 0 p = 0) p hp
    · rw [q 44 (by decide), q 45 (by decide), (by decide +kernel : ∀ v, v < 3 → K0.1 7 0 (12 + v) = 0) v hv]
      exact ⟨Or.inr ⟨0, by decide, rfl, sm_0⟩, by decide⟩
    · rw [q 43 (by decide)]; exact fun z => absurd z (by decide)
    · exact Or.inl ⟨a55 _ (by omega), (by decide +kernel : ∀ p, p < 5 → K0.1 10 0 p = 0) p hp⟩
    · rw [z6, b_0, q 47 (by decide)]; rfl
    · rw [z2 48 (by decide) (by decide), b_0] at hbe; exact absurd hbe (by decide)
    · rw [q 43 (by decide)]; unfold bV; decide
    · rw [z61, z2 48 (by decide) (by decide), b_0]; rfl
  · rw [z2 48 (by decide) (by decide), b_0]
  · rw [e1 e he] at hd
    have : TD T0 0 = true := TD_0 T0_w
    rw [this] at hd; cases hd
  · rw [z2 49 (by decide) (by decide), b_0] at hb; cases hb
  · have h : K0.1 49 0 10 = 0 := by decide +kernel
    rw [h, z2 49 (by decide) (by decide)]
  · rw [z2 51 (by decide) (by decide)]; decide +kernel
  · rw [z2 52 (by decide) (by decide)]; decide +kernel
  · rw [z2 53 (by decide) (by decide)]; decide +kernel
  · refine ⟨fun s hs => absurd hs (Nat.not_lt_zero s), fun s hs => absurd hs (Nat.not_lt_zero s), by decide +kernel, by decide +kernel, ⟨by decide +kernel, fun t ht => ⟨0, Nat.le_refl _, (by decide +kernel : ∀ t, t < 31 → K0.1 57 0 t = 0) t ht⟩⟩, fun t ht s _ hb => ?_, fun h _ _ s hs => absurd hs (Nat.not_lt_zero s)⟩
    rw [(by decide +kernel : ∀ t, t < 31 → K0.1 56 0 t = 0) t ht, b_0] at hb
    cases hb
  · refine ⟨⟨⟨⟨show ex0 17 0 = true by decide +kernel, rB_e (by decide +kernel), ?_, ?_, ?_, ?_⟩, fun k hk => ?_⟩, ?_, rB_e (by decide +kernel), by decide +kernel, fun k hk _ => c16 k hk⟩, fun k hk i hi => ?_, ?_, ?_, ?_, fun i hi => ?_, by decide +kernel, by decide +kernel, by decide +kernel⟩
    · rw [nC1]; exact rB_e (by decide +kernel)
    · rw [nC1]; decide +kernel
    · rw [c21]; decide +kernel
    · rw [c22]; decide +kernel
    · rw [nC1] at hk
      have hk0 : k = 0 := by omega
      subst hk0
      refine ⟨⟨show ex0 18 0 = true by decide +kernel, show ex0 22 0 = true by decide +kernel, show ex0 26 0 = true by decide +kernel, show ex0 30 0 = true by decide +kernel⟩, ?_, ?_, fun h => by omega, rB_e (by decide +kernel), rB_e (by decide +kernel), rB_e (by decide +kernel), ?_, fun t ht => ?_⟩
      · have := c16 0 (by decide)
        rw [show 4 * 30 + 0 = 120 + 0 from rfl, this]; decide +kernel
      · have : qHs σ 30 0 = false := by unfold qHs; rw [nT1]; rfl
        rw [this]; show K0.1 18 0 5 = 0; decide +kernel
      · rw [nC1, if_neg (by omega)]; exact rN_e (by decide +kernel)
      · rw [nT1] at ht; omega
    · refine ⟨⟨1, by omega, by omega, c14, fun k hk => ⟨0, by omega, c16 k (by omega), fun h => by omega, fun t ht => by omega⟩⟩, Or.inl c21, ⟨false, c22⟩, fun _ k hk => ?_⟩
      rw [nC1] at hk
      have hk0 : k = 0 := by omega
      subst hk0
      unfold qHs
      rw [nT1]; rfl
    · rw [nC1] at hk
      have hk0 : k = 0 := by omega
      subst hk0
      have e6' : K0.1 18 0 6 = 0 := by decide +kernel
      have e7' : K0.1 18 0 7 = 0 := by decide +kernel
      have e8' : K0.1 18 0 8 = 0 := by decide +kernel
      show bt (K0.1 18 0 6) i = _ ∧ bt (K0.1 18 0 7) i = _ ∧ bt (K0.1 18 0 8) i = _
      rw [e6', e7', e8', nT1]
      exact ⟨rfl, rfl, rfl⟩
    · have wz : ∀ i, wSm σ 30 i = 0 := by
        intro i
        induction i with
        | zero => rfl
        | succ i ih =>
          show wSm σ 30 i + (if i / 4 < nC σ 30 ∧ i % 4 < nTt σ 30 (i / 4) then tWt σ (16 * 30 + i) else 0) = 0
          rw [ih, if_neg, Int32.add_zero]
          rintro ⟨h1, h2⟩
          rw [nC1] at h1
          have h0 : i / 4 = 0 := by omega
          rw [h0, nT1] at h2
          omega
      rw [wz]; decide +kernel
    · have sz : sAl σ 30 = 0 := by
        unfold sAl
        refine orF_z (fun k hk => ?_)
        rw [nC1] at hk
        have hk0 : k = 0 := by omega
        subst hk0
        rw [nT1, if_neg (by omega)]; exact or_00 0
      rw [sz]
      exact ⟨false, by decide +kernel, fun _ => by rw [b_0]⟩
    · have sz : sAl σ 30 = 0 := by
        unfold sAl
        refine orF_z (fun k hk => ?_)
        rw [nC1] at hk
        have hk0 : k = 0 := by omega
        subst hk0
        rw [nT1, if_neg (by omega)]; exact or_00 0
      rw [sz, b_0]
      show K0.1 17 0 8 = 0
      decide +kernel
    · have e9' : K0.1 17 0 9 = 0 := by decide +kernel
      show bt (K0.1 17 0 9) i = true ↔ _
      rw [e9', b_0]
      refine ⟨(fun z => by cases z), ?_⟩
      rintro ⟨a, ⟨k, t, hk, ht, -⟩, -⟩
      rw [nC1] at hk
      have hk0 : k = 0 := by omega
      subst hk0
      rw [nT1] at ht
      omega
  · refine ⟨⟨fun k e h1 h2 => ex0_n ?_, fun k _ => ex0_n (by omega), fun k r h1 h2 _ => ex0_n (by omega), fun s h1 k h2 h3 => ex0_n ?_, fun y h1 h2 => ?_, fun k _ => ex0_n (by omega)⟩, fun e he h30 => ?_, fun a ha _ p hp => a37 _ (by omega), fun r _ _ => q 35 (by decide) r⟩
    · have h2 : 1 ≤ e := h2
      omega
    · have h1 : 0 < s := h1
      omega
    · rw [nC1] at h1
      exact ⟨ex0_n (by omega), ex0_n (by omega), ex0_n (by omega), ex0_n (by omega)⟩
    · refine ⟨rfl, q 1 (by decide) e, q 2 (by decide) e, (m3 e h30).1, (m3 e h30).2.1, (m3 e h30).2.2.1, fun p _ => q 43 (by decide) _, fun v _ => ⟨q 44 (by decide) _, q 45 (by decide) _⟩, fun p hp => ⟨q 47 (by decide) _, a55 _ (by omega)⟩⟩
theorem rs2 : ∃ σ, f_X12_init = some σ ∧ ∀ n, 255 ≤ n → JW 0 T0 G0 N0 A0 E0 K0 0 0 ((dH LZ).1, n) σ ∧ Q 0 (0, 0, 0) false false T0 G0 σ := by
  obtain ⟨σ, h, ⟨⟨w1, w2, w3⟩, w4⟩, hq⟩ := J_start
  have hl : (dH LZ).2 = 255 := by
    show LZ.length = 255
    decide +kernel
  exact ⟨σ, h, fun n hn => ⟨⟨⟨w1, w2.mono (by omega), w3⟩, w4⟩, hq⟩⟩
