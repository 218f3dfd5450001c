def jnS (σ σ' : mS) (m c : Nat) : Prop := sB [14, 15] [] σ σ' ∧ σ'.1 14 30 = nI (m + 1) ∧ (∀ s, s ≠ 30 → σ'.1 14 s = σ.1 14 s) ∧ σ'.1 15 (120 + m) = nI c ∧ ∀ i, i ≠ 120 + m → σ'.1 15 i = σ.1 15 i
def jnI (n m a b d : Nat) : Prop := b = n ∧ (a = 18 + m ∨ a = 22 + m ∨ a = 26 + m ∨ a = 30 + m ∨ (a = 17 ∧ (d = 2 ∨ d = 7)))
def jnR (n m a b d : Nat) : Prop := b = n ∧ (a = 18 + m ∨ a = 22 + m ∨ a = 26 + m ∨ a = 30 + m ∨ (a = 17 ∧ d = 1) ∨ (a + 1 = 18 + m ∧ d = 9))
def exJ (ex : Nat → Nat → Prop) (m n : Nat) : Nat → Nat → Prop := exU (exU (exU (exU ex (18 + m) n) (22 + m) n) (26 + m) n) (30 + m) n
section JN1
variable {T : qqT} {G : qqG} {L : qqL} {A A' : kA} {ex ex' : Nat → Nat → Prop} {K K' : kS} {S S' : cS} {σ σ' : mS} {v v' n k c m : Nat}
theorem exJ_i (a b : Nat) : exJ ex m n a b ↔ (ex a b ∨ ((a = 18 + m ∨ a = 22 + m ∨ a = 26 + m ∨ a = 30 + m) ∧ b = n)) := by
  unfold exJ exU
  constructor
  · rintro ((((h | h) | h) | h) | h)
    · exact Or.inl h
    all_goals exact Or.inr (by omega)
  · rintro (h | ⟨h | h | h | h, h2⟩)
    · exact Or.inl (Or.inl (Or.inl (Or.inl h)))
    · exact Or.inl (Or.inl (Or.inl (Or.inr ⟨h, h2⟩)))
    · exact Or.inl (Or.inl (Or.inr ⟨h, h2⟩))
    · exact Or.inl (Or.inr ⟨h, h2⟩)
    · exact Or.inr ⟨h, h2⟩
theorem jnS_f (s : jnS σ σ' m c) {f : Nat} (h1 : f ≠ 14) (h2 : f ≠ 15) : σ'.1 f = σ.1 f := s.1.1 f (by simp [h1, h2])
theorem jnS_t (s : jnS σ σ' m c) {i : Nat} (h : ∀ a, σ.1 17 i = 5 ∨ σ.1 17 i = 6 → tA σ i = a → a ≠ 30) : tNr σ' i = tNr σ i ∧ tFr σ' i = tFr σ i ∧ tAl σ' i = tAl σ i ∧ tWt σ' i = tWt σ i := by
  have a1 : tA σ' i = tA σ i := by unfold tA; rw [jnS_f s (by decide) (by decide)]
  have a2 : tB σ' i = tB σ i := by unfold tB; rw [jnS_f s (by decide) (by decide)]
  have a3 : tBi σ' i = tBi σ i := by unfold tBi; rw [jnS_f s (by decide) (by decide), jnS_f s (by decide) (by decide)]
  have a4 : tDp σ' i = tDp σ i := by unfold tDp; rw [a1, a2, jnS_f s (by decide) (by decide), jnS_f s (by decide) (by decide)]
  have a5 : tNs σ' i = tNs σ i := by
    unfold tNs
    rw [a1, jnS_f s (by decide) (by decide)]
    by_cases z : σ.1 17 i = 5 ∨ σ.1 17 i = 6
    · have : nC σ' (tA σ i) = nC σ (tA σ i) := by unfold nC; rw [s.2.2.1 _ (h _ z rfl)]
      rw [this]
    · rw [decide_eq_false z, Bool.false_and, Bool.false_and]
  refine ⟨?_, ?_, ?_, ?_⟩
  · unfold tNr; rw [a3, a5, a1, jnS_f s (by decide) (by decide)]
  · unfold tFr; rw [a4, a5, a1, jnS_f s (by decide) (by decide)]
  · unfold tAl; rw [a3, a4, a1, jnS_f s (by decide) (by decide)]
  · unfold tWt; rw [a1, a2, jnS_f s (by decide) (by decide), jnS_f s (by decide) (by decide)]
theorem J0.jn (j : J0 T G L ex K σ v) (hn : n = Gs G) (hm : m = nC σ 30) (hm4 : m < 4) (hc : c < 4) (s : jnS σ σ' m c) (b : kB (jnI n m) (jnR n m) K K')
    (f1 : K'.2 17 n 1 = some (18 + m, n) ∧ K'.1 17 n 2 = nI (m + 1)) (f2 : K'.1 (18 + m) n 0 = nI c ∧ K'.1 (18 + m) n 4 = 0 ∧ K'.1 (18 + m) n 5 = 0 ∧ K'.1 (18 + m) n 6 = 0 ∧ K'.1 (18 + m) n 7 = 0 ∧ K'.1 (18 + m) n 8 = 0) (f3 : K'.2 (18 + m) n 1 = some (22 + m, n) ∧ K'.2 (18 + m) n 2 = some (26 + m, n) ∧ K'.2 (18 + m) n 3 = some (30 + m, n) ∧ K'.2 (18 + m) n 9 = none) (f4 : ∀ q, q + 1 = m → K'.2 (18 + q) n 9 = some (18 + m, n)) (f5 : K'.1 17 n 7 = K.1 17 n 7 ||| b2 (decide (1 < c))) : J0 T G L (exJ ex m n) K' σ' v := by
  have exI : ∀ a b, exJ ex m n a b ↔ (ex a b ∨ ((a = 18 + m ∨ a = 22 + m ∨ a = 26 + m ∨ a = 30 + m) ∧ b = n)) := fun a b => exJ_i a b
  generalize exJ ex m n = ex' at exI
  subst hn
  have mono : ∀ a b, ex a b → ex' a b := fun a b h => (exI a b).mpr (Or.inl h)
  have hg30 := j.2.2.2.2.2.1.1.2.2.2.1
  obtain ⟨⟨d1, d2, d3, d4, d5⟩, d6, d7, d8, d9, d10, d11⟩ := j.2.2.2.2.2.2.1
  have rn := d2.n
  have h4 : ∀ q, q < nC σ 30 → nTt σ 30 q ≤ 4 := fun q hq => (d2.t hq).1
  have bI : ∀ x y z, ¬ jnI (Gs G) m x y z → K'.1 x y z = K.1 x y z := b.1
  have bR : ∀ x y z, ¬ jnR (Gs G) m x y z → K'.2 x y z = K.2 x y z := b.2
  have wd : kB (dfP (Gs G)) (dfP (Gs G)) K K' := b.wd (fun x y z h => by unfold jnI at h; unfold dfP; omega) (fun x y z h => by unfold jnR at h; unfold dfP; omega)
  have sb : sB [14, 15, 16, 17, 18, 19, 21, 22] [] σ σ' := s.1.wd (fun f hf => by revert f; decide) (fun f hf => hf)
  have ag : sAg (Gs G) σ σ' := ⟨fun r hr => ⟨s.2.2.1 r (by omega), by rw [jnS_f s (by decide) (by decide)], by rw [jnS_f s (by decide) (by decide)]⟩, fun i hi => ⟨s.2.2.2.2 i (by omega), by rw [jnS_f s (by decide) (by decide)]⟩, fun i hi => by rw [jnS_f s (by decide) (by decide), jnS_f s (by decide) (by decide), jnS_f s (by decide) (by decide)]; exact ⟨rfl, rfl, rfl⟩, fun f hf => s.1.1 f (by revert f; decide)⟩
  have nc : nC σ' 30 = m + 1 := by unfold nC; rw [s.2.1]; exact nI_clamp (by omega)
  have nT : ∀ r q, nTt σ' r q = nTt σ r q := fun r q => by unfold nTt; rw [jnS_f s (by decide) (by decide)]
  have nT0 : nTt σ 30 m = 0 := by
    unfold nTt
    rw [show 4 * 30 + m = 120 + m by omega, d5 m hm4 (by omega)]
    decide
  have cOo : ∀ q, q < m → cO σ' 30 q = cO σ 30 q := fun q hq => by unfold cO; rw [s.2.2.2.2 _ (by omega)]
  have cOm : cO σ' 30 m = c := by
    unfold cO
    rw [show 4 * 30 + m = 120 + m by omega, s.2.2.2.1]; exact nI_clamp (by omega)
  have hsq : ∀ q, qHs σ' 30 q = qHs σ 30 q := fun q => by unfold qHs; rw [nT, jnS_f s (by decide) (by decide)]
  have tq : ∀ q t, q < nC σ 30 → t < nTt σ 30 q → tNr σ' (480 + 4 * q + t) = tNr σ (480 + 4 * q + t) ∧ tFr σ' (480 + 4 * q + t) = tFr σ (480 + 4 * q + t) ∧ tAl σ' (480 + 4 * q + t) = tAl σ (480 + 4 * q + t) ∧ tWt σ' (480 + 4 * q + t) = tWt σ (480 + 4 * q + t) := fun q t hq ht => by
    refine jnS_t s (fun a ha hta => ?_)
    obtain ⟨k0, k1, k2, -, -, -, k6, -⟩ := (d2.t hq).2.2.2 t ht
    have e : 16 * 30 + 4 * q + t = 480 + 4 * q + t := by omega
    rw [e] at k2 k6
    have : k0 = 5 ∨ k0 = 6 := by
      rcases ha with h | h
      · rw [h] at k2; exact Or.inl ((nI_eqE (a := 5) (by decide) (by omega)).mp k2).symm
      · rw [h] at k2; exact Or.inr ((nI_eqE (a := 6) (by decide) (by omega)).mp k2).symm
    obtain ⟨y, y1, y2, -⟩ := k6 this
    have : tA σ (480 + 4 * q + t) = y := by unfold tA; rw [y2]; exact nI_clamp (by omega)
    omega
  have hsal : sAl σ' 30 = sAl σ 30 ||| (if 1 < c then 16384 else 0) := by
    unfold sAl
    rw [nc, ← hm]
    show orF _ m ||| ((if 0 < m ∧ 1 < cO σ' 30 m then (16384 : Int32) else 0) ||| orF (fun t => tAl σ' (16 * 30 + 4 * m + t)) (nTt σ' 30 m)) = _
    rw [cOm, nT, nT0]
    show _ ||| (_ ||| (0 : Int32)) = _
    rw [or_00]
    have e1 : (if 0 < m ∧ 1 < c then (16384 : Int32) else 0) = if 1 < c then 16384 else 0 := by
      by_cases z : 1 < c
      · rw [if_pos ⟨by omega, z⟩, if_pos z]
      · rw [if_neg (fun y => z y.2), if_neg z]
    rw [e1]
    congr 1
    refine orF_cg (fun q hq => ?_)
    rw [cOo q hq, nT]
    congr 1
    exact orF_cg (fun t ht => (tq q t (by omega) ht).2.2.1)
  have hws : ∀ i, wSm σ' 30 i = wSm σ 30 i := by
    intro i
    induction i with
    | zero => rfl
    | succ i ih =>
      show wSm σ' 30 i + (if i / 4 < nC σ' 30 ∧ i % 4 < nTt σ' 30 (i / 4) then tWt σ' (16 * 30 + i) else 0) = wSm σ 30 i + (if i / 4 < nC σ 30 ∧ i % 4 < nTt σ 30 (i / 4) then tWt σ (16 * 30 + i) else 0)
      rw [ih, nc, nT, ← hm]
      by_cases z : i / 4 < m ∧ i % 4 < nTt σ 30 (i / 4)
      · have e := (tq (i / 4) (i % 4) (by omega) z.2).2.2.2
        rw [show 480 + 4 * (i / 4) + i % 4 = 16 * 30 + i by omega] at e
        rw [if_pos z, if_pos ⟨by omega, z.2⟩, e]
      · rw [if_neg z, if_neg]
        rintro ⟨y1, y2⟩
        have : i / 4 = m := by
          by_cases x : i / 4 < m
          · exact absurd ⟨x, y2⟩ z
          · omega
        rw [this, nT0] at y2
        omega
  have qin : ∀ a, qIn σ' 30 a ↔ qIn σ 30 a := by
    intro a
    have eA : ∀ i, tA σ' i = tA σ i := fun i => by unfold tA; rw [jnS_f s (by decide) (by decide)]
    have eB : ∀ i, tB σ' i = tB σ i := fun i => by unfold tB; rw [jnS_f s (by decide) (by decide)]
    unfold qIn
    constructor
    · rintro ⟨q, t, hq, ht, hx⟩
      rw [nc] at hq
      rw [nT] at ht
      rw [eA, eB, jnS_f s (by decide) (by decide)] at hx
      refine ⟨q, t, ?_, ht, hx⟩
      by_cases y : q = m
      · rw [y, nT0] at ht; omega
      · omega
    · rintro ⟨q, t, hq, ht, hx⟩
      refine ⟨q, t, by rw [nc]; omega, by rw [nT]; exact ht, ?_⟩
      rw [eA, eB, jnS_f s (by decide) (by decide)]; exact hx
  refine j.df mono wd sb ag ⟨⟨?_, ?_, ?_, ?_, ?_⟩, ?_, ?_, ?_, ?_, ?_, ?_, ?_, ?_⟩ ?_
  · obtain ⟨⟨e1, e2, e3, e4, e5, e6⟩, e7⟩ := d1
    refine ⟨⟨mono _ _ e1, by rw [bR _ _ _ (by unfold jnR; omega)]; exact e2, by rw [nc]; exact f1.1, by rw [nc]; exact f1.2, by rw [bI _ _ _ (by unfold jnI; omega), jnS_f s (by decide) (by decide)]; exact e5, by rw [bI _ _ _ (by unfold jnI; omega), jnS_f s (by decide) (by decide)]; exact e6⟩, fun q hq => ?_⟩
    rw [nc] at hq
    rw [nc]
    by_cases z : q = m
    · subst z
      refine ⟨⟨(exI _ _).mpr (Or.inr ⟨by omega, rfl⟩), (exI _ _).mpr (Or.inr ⟨by omega, rfl⟩), (exI _ _).mpr (Or.inr ⟨by omega, rfl⟩), (exI _ _).mpr (Or.inr ⟨by omega, rfl⟩)⟩, ?_, ?_, fun _ => ?_, f3.1, f3.2.1, f3.2.2.1, ?_, fun t ht => ?_⟩
      · rw [f2.2.1, jnS_f s (by decide) (by decide), show 4 * 30 + q = 120 + q by omega]; exact (d5 q hm4 (by omega)).symm
      · rw [f2.2.2.1, hsq]
        unfold qHs
        rw [nT0]; rfl
      · rw [f2.1, show 4 * 30 + q = 120 + q by omega, s.2.2.2.1]
      · rw [f3.2.2.2, if_neg (by omega)]
      · rw [nT, nT0] at ht; omega
    · obtain ⟨⟨y0, y1, y2', y3⟩, y4, y5, y6, y7, y8, y9, y10, y11⟩ := e7 q (by omega)
      refine ⟨⟨mono _ _ y0, mono _ _ y1, mono _ _ y2', mono _ _ y3⟩, by rw [bI _ _ _ (by unfold jnI; omega), jnS_f s (by decide) (by decide)]; exact y4, by rw [bI _ _ _ (by unfold jnI; omega), hsq]; exact y5, fun h0 => by rw [bI _ _ _ (by unfold jnI; omega), s.2.2.2.2 _ (by omega)]; exact y6 h0, by rw [bR _ _ _ (by unfold jnR; omega)]; exact y7, by rw [bR _ _ _ (by unfold jnR; omega)]; exact y8, by rw [bR _ _ _ (by unfold jnR; omega)]; exact y9, ?_, fun t ht => ?_⟩
      · by_cases y : q + 1 = m
        · rw [f4 q y, if_pos (by omega), ← y]
        · rw [bR _ _ _ (by unfold jnR; omega), y10, if_pos (by omega), if_pos (by omega)]
      · rw [nT] at ht
        rw [jnS_f s (by decide) (by decide), jnS_f s (by decide) (by decide), jnS_f s (by decide) (by decide), bI (22 + q) _ _ (by unfold jnI; omega), bI (26 + q) _ _ (by unfold jnI; omega), bI (30 + q) _ _ (by unfold jnI; omega)]
        exact y11 t ht
  · obtain ⟨⟨m0, m1, m2, m3, m4⟩, r2, r3, r4⟩ := d2
    have hm0 : nC σ 30 = m0 := by unfold nC; rw [m3]; exact nI_clamp (by omega)
    have rt : ∀ i, RTs σ (Gs G) i → RTs σ' (Gs G) i := fun i hi => by
      unfold RTs at hi ⊢
      rw [jnS_f s (f := 17) (by decide) (by decide), jnS_f s (f := 18) (by decide) (by decide), jnS_f s (f := 19) (by decide) (by decide), jnS_f s (f := 21) (by decide) (by decide), jnS_f s (f := 22) (by decide) (by decide)]
      exact hi
    refine ⟨⟨m + 1, by omega, by omega, s.2.1, fun q hq => ?_⟩, by rw [jnS_f s (by decide) (by decide)]; exact r2, by rw [jnS_f s (by decide) (by decide)]; exact r3, fun h0 q hq => ?_⟩
    · by_cases z : q = m
      · subst z
        refine ⟨0, by omega, by rw [jnS_f s (by decide) (by decide), show 4 * 30 + q = 120 + q by omega]; exact d5 q hm4 (by omega), fun _ => ⟨c, hc, by rw [show 4 * 30 + q = 120 + q by omega]; exact s.2.2.2.1⟩, fun t ht => by omega⟩
      · obtain ⟨c', c1, c2, c3, c4⟩ := m4 q (by omega)
        exact ⟨c', c1, by rw [jnS_f s (by decide) (by decide)]; exact c2, fun h0 => by rw [s.2.2.2.2 _ (by omega)]; exact c3 h0, fun t ht => rt _ (c4 t ht)⟩
    · rw [nc] at hq
      rw [jnS_f s (by decide) (by decide)] at h0
      rw [hsq]
      by_cases z : q = m
      · rw [z]
        unfold qHs
        rw [nT0]; rfl
      · exact r4 h0 q (by omega)
  · rw [bR _ _ _ (by unfold jnR; omega)]; exact d3
  · rw [bI _ _ _ (by unfold jnI; omega)]; exact d4
  · intro q hq hnq
    rw [nc] at hnq
    rw [jnS_f s (by decide) (by decide)]; exact d5 q hq (by omega)
  · intro q hq i hi
    rw [nc] at hq
    rw [nT]
    by_cases z : q = m
    · subst z
      rw [f2.2.2.2.1, f2.2.2.2.2.1, f2.2.2.2.2.2, nT0]
      exact ⟨rfl, rfl, rfl⟩
    · rw [bI _ _ _ (by unfold jnI; omega), bI _ _ _ (by unfold jnI; omega), bI _ _ _ (by unfold jnI; omega), orF_cg (g := fun t => tNr σ (480 + 4 * q + t)) (fun t ht => (tq q t (by omega) ht).1), orF_cg (g := fun t => tFr σ (480 + 4 * q + t)) (fun t ht => (tq q t (by omega) ht).2.1), orF_cg (g := fun t => tAl σ (480 + 4 * q + t)) (fun t ht => (tq q t (by omega) ht).2.2.1)]
      exact d6 q (by omega) i hi
  · rw [bI _ _ _ (by unfold jnI; omega), hws]; exact d7
  · rw [f5, hsal]
    refine d8.or ⟨_, rfl, fun _ => ?_⟩
    by_cases z : 1 < c
    · rw [if_pos z, decide_eq_true z]; decide
    · rw [if_neg z, decide_eq_false z]; decide
  · rw [bI _ _ _ (by unfold jnI; omega), hsal, d9, b_or]
    have : bt (if 1 < c then (16384 : Int32) else 0) 15 = false := by
      by_cases z : 1 < c
      · rw [if_pos z]; decide
      · rw [if_neg z]; decide
    rw [this, Bool.or_false]
  · intro i hi
    rw [bI _ _ _ (by unfold jnI; omega), d10 i hi]
    constructor
    · rintro ⟨a, h1, h2⟩
      by_cases z : a = Gs G
      · exact ⟨a, (qin a).mpr h1, by rw [bI _ _ _ (by unfold jnI; omega)]; exact h2⟩
      · exact ⟨a, (qin a).mpr h1, by rw [bI _ _ _ (by unfold jnI; omega)]; exact h2⟩
    · rintro ⟨a, h1, h2⟩
      exact ⟨a, (qin a).mp h1, by rw [bI _ _ _ (by unfold jnI; omega)] at h2; exact h2⟩
  · rw [bI _ _ _ (by unfold jnI; omega)]; exact d11.1
  · rw [bI _ _ _ (by unfold jnI; omega)]; exact d11.2.1
  · rw [bI _ _ _ (by unfold jnI; omega)]; exact d11.2.2
  · obtain ⟨⟨g1, g2, g3, g4, g5, g6⟩, g7, g8, g9⟩ := j.2.2.2.2.2.2.2
    have E : ∀ {a b : Nat}, ex' a b → ¬ ex a b → ¬ ((a = 18 + m ∨ a = 22 + m ∨ a = 26 + m ∨ a = 30 + m) ∧ b = Gs G) → False := fun h h1 h2 => ((exI _ _).mp h).elim h1 h2
    refine ⟨⟨fun k e h1 h2 z => E z (g1 k e h1 h2) (by omega), fun k h1 z => E z (g2 k h1) (by omega), fun k r h1 h2 h3 z => E z (g3 k r h1 h2 h3) (by omega), fun s h1 k h2 h3 z => E z (g4 s h1 k h2 h3) (by omega), fun j h1 h2 => ?_, fun k h1 z => E z (g6 k h1) (by omega)⟩, ?_, ?_, ?_⟩
    · rw [nc] at h1
      obtain ⟨u1, u2, u3, u4⟩ := g5 j (by omega) h2
      exact ⟨fun z => E z u1 (by omega), fun z => E z u2 (by omega), fun z => E z u3 (by omega), fun z => E z u4 (by omega)⟩
    · have o : ∀ f, f ∉ [14, 15] → σ'.1 f = σ.1 f := s.1.1
      rw [o 1 (by decide), o 2 (by decide), o 3 (by decide), o 4 (by decide), o 5 (by decide), o 43 (by decide), o 44 (by decide), o 45 (by decide), o 47 (by decide), o 55 (by decide)]
      exact g7
    · rw [jnS_f s (by decide) (by decide)]; exact g8
    · rw [jnS_f s (by decide) (by decide)]; exact g9
end JN1
