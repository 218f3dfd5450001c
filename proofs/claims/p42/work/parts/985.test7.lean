section TS7
variable {T : qqT} {G : qqG} {L : qqL} {A A' : kA} {ex ex' : Nat → Nat → Prop} {K K' : kS} {S S' : cS} {σ σ' : mS} {v v' n k c nw9 : Nat} {x1 x2 x3 : Int32}
theorem sut_P {q : Nat} (hs : sutB q x2 x3 = true) : (q = 0 ∨ q = 1 → ∃ a, a < 8 ∧ x2 = nI a) ∧ (q = 2 ∨ q = 9 → ∃ a, a < 4 ∧ x2 = nI a) ∧ (q = 3 → (∃ a, a < 2 ∧ x2 = nI a) ∧ ∃ c, c < 10 ∧ x3 = nI c) ∧ (q = 7 → ∃ a, a < 4 ∧ x2 = nI a) := by
  have ix : ∀ (x : Int32) (m : Nat), m < 2 ^ 31 → decide (0 ≤ x ∧ x < nI m) = true → ∃ a, a < m ∧ x = nI a := fun x m hm h => (ix_cases x hm).elim id (fun z => absurd (of_decide_eq_true h) z)
  unfold sutB at hs
  refine ⟨fun z => ?_, fun z => ?_, fun z => ?_, fun z => ?_⟩
  · rw [if_pos z] at hs; exact ix _ _ (by decide) hs
  · rw [if_neg (by omega), if_pos z] at hs; exact ix _ _ (by decide) hs
  · rw [if_neg (by omega), if_neg (by omega), if_pos z, Bool.and_eq_true] at hs
    exact ⟨ix _ _ (by decide) hs.1, ix _ _ (by decide) hs.2⟩
  · rw [if_neg (by omega), if_neg (by omega), if_neg (by omega), if_neg (by omega), if_pos z] at hs
    exact ix _ _ (by decide) hs
theorem tBi_q {q i : Nat} (hq : q < 10) (hs : sutB q x2 x3 = true) (t17 : σ.1 17 i = nI q) (t18 : σ.1 18 i = x2) {ft : Int32} (hf : (q = 1 → ft = (1 : Int32) <<< (x2 &&& 31)) ∧ (q = 2 → ft = (1 : Int32) <<< (((8:Int32) + x2) &&& 31)) ∧ (q = 3 → ft = (1 : Int32) <<< (((12:Int32) + x2) &&& 31)) ∧ (q ≠ 1 → q ≠ 2 → q ≠ 3 → ft = 0)) : (∀ m, m < 14 → bt (tBi σ i) m = bt ft m) ∧ bt (tBi σ i) 14 = decide (q = 4) ∧ bt (tBi σ i) 15 = false := by
  obtain ⟨p1, p2, p3, -⟩ := sut_P hs
  obtain ⟨f1, f2, f3, f0⟩ := hf
  have n : ∀ r : Nat, r < 10 → q ≠ r → ¬ nI q = nI r := fun r hr hne z => hne ((nI_eqE (by omega) (by omega)).mp z)
  unfold tBi
  rw [t17, t18]
  by_cases c1 : q = 1
  · subst c1
    obtain ⟨a, ha, rfl⟩ := p1 (Or.inr rfl)
    rw [f1 rfl, if_pos (show nI 1 = 1 from rfl), b_one (by omega) (by decide), b_one (by omega) (by decide)]
    exact ⟨fun _ _ => rfl, decide_eq_decide.mpr (by omega), decide_eq_false (by omega)⟩
  · rw [if_neg (show ¬ nI q = 1 from n 1 (by decide) c1)]
    by_cases c2 : q = 2
    · subst c2
      obtain ⟨a, ha, rfl⟩ := p2 (Or.inl rfl)
      rw [f2 rfl, if_pos (show nI 2 = 2 from rfl), show (8 : Int32) = nI 8 from rfl, nI_add, b_256 ha (by decide), b_256 ha (by decide)]
      exact ⟨fun m hm => by rw [b_256 ha (by omega), b_one (by omega) (by omega)], decide_eq_decide.mpr (by omega), decide_eq_false (by omega)⟩
    · rw [if_neg (show ¬ nI q = 2 from n 2 (by decide) c2)]
      by_cases c3 : q = 3
      · subst c3
        obtain ⟨⟨a, ha, rfl⟩, -⟩ := p3 rfl
        rw [f3 rfl, if_pos (show nI 3 = 3 from rfl), show (12 : Int32) = nI 12 from rfl, nI_add, b_4096 ha (by decide), b_4096 ha (by decide)]
        exact ⟨fun m hm => by rw [b_4096 ha (by omega), b_one (by omega) (by omega)], decide_eq_decide.mpr (by omega), decide_eq_false (by omega)⟩
      · rw [if_neg (show ¬ nI q = 3 from n 3 (by decide) c3), f0 c1 c2 c3]
        by_cases c4 : q = 4
        · subst c4
          rw [if_pos (show nI 4 = 4 from rfl), b_16384 (by decide), b_16384 (by decide)]
          exact ⟨fun m hm => by rw [b_16384 (by omega), b_0, decide_eq_false (by omega)], rfl, rfl⟩
        · rw [if_neg (show ¬ nI q = 4 from n 4 (by decide) c4), b_0, b_0, decide_eq_false c4]
          exact ⟨fun m _ => rfl, rfl, rfl⟩
theorem or_00 (x : Int32) : x ||| 0 = x := b_ext (fun i _ => by rw [b_or, b_0, Bool.or_false])
theorem z_or (x : Int32) : 0 ||| x = x := b_ext (fun i _ => by rw [b_or, b_0, Bool.false_or])
theorem ts_N (hA : KA A ex K S) (j : J0 T G L ex K σ v) (hk : k + 1 = nC σ 30) (hc : c = nTt σ 30 k) (hc4 : c < 4) (h16 : σ.1 16 (120 + k) = nI c) (d : drC ex K (Gs G) k c) {q : Nat} (hq : q < 10) (hs : sutB q x2 x3 = true) (hn : q ≠ 5 ∧ q ≠ 6 ∧ q ≠ 7) : ∃ S' K' σ', f_X7_addTest (A 17 (Gs G)) (nI q) x2 x3 none S = some S' ∧ f_test_336 (nI q) x2 x3 (nI (120 + k)) 0 σ = some (nI (c + 1), σ') ∧ KA A ex K' S' ∧ J0 T G L ex K' σ' v ∧ K'.1 (18 + k) (Gs G) 4 = nI (c + 1) ∧ kB (tsP (Gs G) k c) F3 K K' ∧ (∀ f, σ'.2 f = (sf σ 81 0).2 f) ∧ tsS (sf σ 81 0) σ' k c (nI q) x2 x3 ∧ σ'.1 21 30 = (if nI q = 9 then x2 else σ.1 21 30) ∧ σ'.1 22 30 = (if nI q = 8 then 1 else σ.1 22 30) := by
  have hk4 := d.2.1
  obtain ⟨ft, g1, g2⟩ := c_feat hq x2
  have j0 := j.scR (scR_sf σ 0)
  obtain ⟨⟨e1, e2, e3, e4, e5⟩, e6, e7, e8, e9, e10, e11⟩ := j.2.2.2.2.2.2.1
  obtain ⟨o, ho⟩ := e8.b
  obtain ⟨S', K', a1, a2, b, ⟨a3, a4⟩, a5, ⟨a6, a7⟩, ⟨a8, a9, a10⟩, a11, a12, a13, a14⟩ := c_addTestN d hc4 hA g1 ho x3
  obtain ⟨σ', r1, s, p21, p22⟩ := r_t336 (x1 := nI q) (x2 := x2) (x3 := x3) hk4 hc4 h16
  have t17 := s.2.2.1.1
  have t18 := s.2.2.1.2.1
  have t19 := s.2.2.1.2.2
  have n : ∀ r : Nat, r < 10 → q ≠ r → ¬ nI q = nI r := fun r hr hne z => hne ((nI_eqE (by omega) (by omega)).mp z)
  have n5 : ¬ nI q = 5 := n 5 (by decide) hn.1
  have n6 : ¬ nI q = 6 := n 6 (by decide) hn.2.1
  have n7 : ¬ nI q = 7 := n 7 (by decide) hn.2.2
  obtain ⟨bi, b14, b15⟩ := tBi_q (σ := σ') hq hs t17 t18 g2
  have ns : tNs σ' (480 + 4 * k + c) = false := by
    unfold tNs
    rw [t17, decide_eq_false (fun z => z.elim n5 n6), Bool.false_and]
  have dp : tDp σ' (480 + 4 * k + c) = 0 := by
    unfold tDp
    rw [t17, if_neg (fun z => z.elim n5 n6), if_neg n7]
  have nr : tNr σ' (480 + 4 * k + c) = tBi σ' (480 + 4 * k + c) := by
    unfold tNr
    rw [ns, if_neg (by decide), or_00]
  have fr : tFr σ' (480 + 4 * k + c) = 0 := by
    unfold tFr
    rw [ns, if_neg (by decide), dp]
  have al : tAl σ' (480 + 4 * k + c) = tBi σ' (480 + 4 * k + c) := by
    unfold tAl
    rw [t17, if_neg n7, dp, or_00, or_00]
  have q8 : qHs σ 30 k = qHs (sf σ 81 0) 30 k := rfl
  have d1k := (e1.2 k (by omega)).2.2.1
  obtain ⟨sp1, sp2, sp3, -⟩ := sut_P hs
  have no56 : ¬ (q = 5 ∨ q = 6) := fun z => z.elim hn.1 hn.2.1
  have no7 : ¬ q = 7 := hn.2.2
  refine ⟨S', K', σ', a1, r1, a2, j0.ts rfl hk hc hc4 s ⟨q, hq, t17, fun z => by rw [t18]; exact sp1 z, fun z => by rw [t18]; exact sp2 z, fun z => by rw [t18, t19]; exact sp3 z, fun z => absurd z no56, fun z => absurd z no7⟩ p21 p22 b ⟨a3, ?_⟩ a5 ⟨?_, ?_⟩ (fun i hi => ⟨?_, ?_, ?_⟩) ?_ ⟨_, a12, ?_⟩ ?_ (fun i hi => ?_), a3, b, (fun f => s.1.2 f (by simp)), s, p21, p22⟩
  · rw [a4]
    show (if nI q = 8 then 1 else K.1 (18 + k) (Gs G) 5) = b2 (qHs σ 30 k || decide (nI q = 8))
    by_cases c8 : nI q = 8
    · rw [if_pos c8, decide_eq_true c8, Bool.or_true]; rfl
    · rw [if_neg c8, decide_eq_false c8, Bool.or_false]; exact d1k
  · rw [a6, p21]
    by_cases c9 : nI q = 9
    · rw [if_pos c9, if_pos c9]
    · rw [if_neg c9, if_neg c9]; exact e1.1.2.2.2.2.1
  · rw [a7, p22]
    by_cases c8 : nI q = 8
    · rw [if_pos c8, if_pos c8]
    · rw [if_neg c8, if_neg c8]; exact e1.1.2.2.2.2.2
  · rw [a8, b_or, nr, bi i hi]
  · rw [a9, fr, b_0, Bool.or_false]
  · rw [a10, b_or, al, bi i hi]
  · rw [a11]
    congr 1
    unfold tWt
    rw [t17]
    by_cases z : nI q = 0 ∨ nI q = 9
    · rw [if_pos z, if_pos z]
    · rw [if_neg z, if_neg z, if_neg (fun y => y.elim n5 n6), if_neg n7]
  · refine ⟨_, rfl, fun _ => ?_⟩
    rw [al, b14]
    by_cases z : q = 4
    · rw [z]; rfl
    · rw [decide_eq_false z, decide_eq_false (show ¬ nI q = 4 from n 4 (by decide) z)]
  · rw [a13, al, b15]
    exact (or_00 _).symm
  · rw [a14]
    refine ⟨Or.inl, fun z => z.elim id ?_⟩
    rintro ⟨a, ⟨h1, -⟩ | ⟨h1, -⟩, -⟩
    · rw [t17] at h1; exact absurd h1 (fun z => z.elim n5 n6)
    · rw [t17] at h1; exact absurd h1 n7
theorem ts_I (hA : KA A ex K S) (j : J0 T G L ex K σ v) (hk : k + 1 = nC σ 30) (hc : c = nTt σ 30 k) (hc4 : c < 4) (h16 : σ.1 16 (120 + k) = nI c) (d : drC ex K (Gs G) k c) {q a : Nat} (hs : sutB q x2 x3 = true) (hn : q = 5 ∨ q = 6 ∨ q = 7) (ha : a < Gs G) (hof : ofI q x2 x3 = nI a) (h22 : σ.1 22 a = 0) (h21 : σ.1 21 a < 0) : ∃ S' K' σ', f_X7_addTest (A 17 (Gs G)) (nI q) x2 x3 (some (A 17 a)) S = some S' ∧ f_test_336 (nI q) x2 x3 (nI (120 + k)) 0 σ = some (nI (c + 1), σ') ∧ KA A ex K' S' ∧ J0 T G L ex K' σ' v ∧ K'.1 (18 + k) (Gs G) 4 = nI (c + 1) ∧ kB (tsP (Gs G) k c) F3 K K' ∧ (∀ f, σ'.2 f = (sf σ 81 0).2 f) ∧ tsS (sf σ 81 0) σ' k c (nI q) x2 x3 ∧ σ'.1 21 30 = (if nI q = 9 then x2 else σ.1 21 30) ∧ σ'.1 22 30 = (if nI q = 8 then 1 else σ.1 22 30) := by
  have hk4 := d.2.1
  have hq : q < 10 := by omega
  have no01 : ¬ (q = 0 ∨ q = 1) := by omega
  have no29 : ¬ (q = 2 ∨ q = 9) := by omega
  have no3 : ¬ q = 3 := by omega
  have hg30 := j.2.2.2.2.2.1.1.2.2.2.1
  have j0 := j.scR (scR_sf σ 0)
  obtain ⟨⟨e1, e2, e3, e4, e5⟩, e6, e7, e8, e9, e10, e11⟩ := j.2.2.2.2.2.2.1
  obtain ⟨o, ho⟩ := e8.b
  have ft := j.2.1.2.2.2.2
  obtain ⟨y1, y2, y3, -⟩ := ft.1 a ha
  obtain ⟨oa, hoa⟩ := y2.b
  have kc := j.2.1.2.1.2.2.2.2 a ha
  have km := j.2.2.2.2.2.1.1.1 a ha
  have rsl := km.2.2.2.n
  obtain ⟨S', K', a1, a2, b, ⟨a3, a4⟩, a5, ⟨a6, a7⟩, ⟨a8, a9, a10⟩, a11, a12, a13, a14⟩ := c_addTestI d hc4 hA kc.1 (by omega) ho hoa e9 y3 (nI q) x2 x3
  obtain ⟨σ', r1, s, p21, p22⟩ := r_t336 (x1 := nI q) (x2 := x2) (x3 := x3) hk4 hc4 h16
  have t17 := s.2.2.1.1
  have t18 := s.2.2.1.2.1
  have t19 := s.2.2.1.2.2
  have n : ∀ r : Nat, r < 10 → q ≠ r → ¬ nI q = nI r := fun r hr hne z => hne ((nI_eqE (by omega) (by omega)).mp z)
  have c2 : (K.1 17 a 2 ≤ 1) ↔ nC σ a = 1 := by
    rw [km.1.1.2.2.2.1, show (1 : Int32) = nI 1 from rfl]
    have := nI_leE (a := nC σ a) (b := 1) (by omega) (by decide)
    rw [this]; omega
  have bi0 : tBi σ' (480 + 4 * k + c) = 0 := by
    unfold tBi
    rw [t17, if_neg (show ¬ nI q = 1 from n 1 (by decide) (by omega)), if_neg (show ¬ nI q = 2 from n 2 (by decide) (by omega)), if_neg (show ¬ nI q = 3 from n 3 (by decide) (by omega)), if_neg (show ¬ nI q = 4 from n 4 (by decide) (by omega))]
  have s20 : ∀ f, f ∈ [20, 23, 24, 25] → σ'.1 f = σ.1 f := fun f hf => s.1.1 f (by revert f; decide)
  have nc : nC σ' a = nC σ a := tsS_nC s a
  have tAa : q ≠ 7 → tA σ' (480 + 4 * k + c) = a := fun z => by
    unfold ofI at hof
    rw [if_neg z] at hof
    unfold tA
    rw [t18, hof]; exact nI_clamp (by omega)
  have tBa : q = 7 → tB σ' (480 + 4 * k + c) = a := fun z => by
    unfold ofI at hof
    rw [if_pos z] at hof
    unfold tB
    rw [t19, hof]; exact nI_clamp (by omega)
  have dp : tDp σ' (480 + 4 * k + c) = σ.1 25 a := by
    unfold tDp
    rw [t17, s20 25 (by decide)]
    by_cases z : q = 7
    · rw [if_neg (fun y => y.elim (n 5 (by decide) (by omega)) (n 6 (by decide) (by omega))), if_pos (show nI q = 7 by rw [z]; rfl), tBa z]
    · have : nI q = 5 ∨ nI q = 6 := by
        rcases hn with h | h | h
        · exact Or.inl (by rw [h]; rfl)
        · exact Or.inr (by rw [h]; rfl)
        · exact absurd h z
      rw [if_pos this, tAa z]
  have c56 : (nI q = 5 ∨ nI q = 6) ↔ q ≠ 7 := by
    constructor
    · rintro (h | h) rfl
      · exact absurd h (by decide)
      · exact absurd h (by decide)
    · intro z
      rcases hn with h | h | h
      · exact Or.inl (by rw [h]; rfl)
      · exact Or.inr (by rw [h]; rfl)
      · exact absurd h z
  have c7 : nI q = 7 ↔ q = 7 := by
    rw [show (7 : Int32) = nI 7 from rfl]
    exact ⟨fun z => (nI_eqE (by omega) (by decide)).mp z, fun z => by rw [z]⟩
  have ns : tNs σ' (480 + 4 * k + c) = decide (nI q ≠ 7 ∧ K.1 17 a 2 ≤ 1) := by
    unfold tNs
    rw [t17, ← Bool.decide_and]
    refine decide_eq_decide.mpr ?_
    rw [c56, c2, show (nI q ≠ 7) = (q ≠ 7) from propext (not_congr c7)]
    constructor
    · rintro ⟨h1, h2⟩
      rw [tAa h1, nc] at h2
      exact ⟨h1, h2⟩
    · rintro ⟨h1, h2⟩
      exact ⟨h1, by rw [tAa h1, nc]; exact h2⟩
  have al : ∀ i, i < 32 → bt (tAl σ' (480 + 4 * k + c)) i = (bt (σ.1 25 a) i || (decide (q = 7) && (decide (i = 15) || (decide (i = 14) && decide (1 < tA σ' (480 + 4 * k + c)))))) := by
    intro i hi
    unfold tAl
    rw [t17, dp, bi0, z_or, b_or]
    congr 1
    by_cases z : q = 7
    · rw [if_pos (c7.mpr z), decide_eq_true z, Bool.true_and, b_or, b_32768 hi]
      congr 1
      by_cases y : 1 < tA σ' (480 + 4 * k + c)
      · rw [if_pos y, decide_eq_true y, Bool.and_true, b_16384 hi]
      · rw [if_neg y, decide_eq_false y, Bool.and_false, b_0]
    · rw [if_neg (fun y => z (c7.mp y)), decide_eq_false z, Bool.false_and, b_0]
  have al14 : ∀ i, i < 14 → bt (tAl σ' (480 + 4 * k + c)) i = bt (σ.1 25 a) i := fun i hi => by
    rw [al i (by omega), decide_eq_false (show ¬ i = 15 by omega), decide_eq_false (show ¬ i = 14 by omega), Bool.false_and, Bool.or_false, Bool.and_false, Bool.or_false]
  have al15 : bt (tAl σ' (480 + 4 * k + c)) 15 = (bt (σ.1 25 a) 15 || decide (q = 7)) := by
    rw [al 15 (by decide)]
    simp
  have d1k := (e1.2 k (by omega)).2.2.1
  obtain ⟨-, -, -, sp7⟩ := sut_P hs
  have f21 : (sf σ 81 0).1 21 a < 0 := h21
  have n8 : ¬ nI q = 8 := n 8 (by decide) (by omega)
  have n9 : ¬ nI q = 9 := n 9 (by decide) (by omega)
  have f22 : (sf σ 81 0).1 22 a = 0 := h22
  have u21 : σ'.1 21 a < 0 ∧ σ'.1 22 a = 0 := by
    obtain ⟨w1, w2⟩ := s.2.2.2.2 a (by omega)
    exact ⟨by rw [w1]; exact h21, by rw [w2]; exact h22⟩
  refine ⟨S', K', σ', a1, r1, a2, j0.ts rfl hk hc hc4 s ⟨q, hq, t17, fun z => absurd z no01, fun z => absurd z no29, fun z => absurd z no3, fun z => ⟨a, ha, ?_, u21.2, u21.1⟩, fun z => ⟨?_, a, ha, ?_, u21.2, u21.1⟩⟩ p21 p22 b ⟨a3, ?_⟩ a5 ⟨?_, ?_⟩ (fun i hi => ⟨?_, ?_, ?_⟩) ?_ ⟨_, a12, ?_⟩ ?_ (fun i hi => ?_), a3, b, (fun f => s.1.2 f (by simp)), s, p21, p22⟩
  · rw [t18]; unfold ofI at hof; rw [if_neg (by omega)] at hof; exact hof
  · rw [t18]; exact sp7 z
  · rw [t19]; unfold ofI at hof; rw [if_pos z] at hof; exact hof
  · rw [a4, decide_eq_false n8, Bool.or_false]; exact d1k
  · rw [a6, p21, if_neg n9]; exact e1.1.2.2.2.2.1
  · rw [a7, p22, if_neg n8]; exact e1.1.2.2.2.2.2
  · rw [a8]
    unfold tNr
    rw [ns, bi0, z_or]
    by_cases z : nI q ≠ 7 ∧ K.1 17 a 2 ≤ 1
    · rw [if_pos z, decide_eq_true z, if_pos rfl, b_or, (y1 i hi).1, tAa (fun y => z.1 (c7.mpr y)), s20 23 (by decide)]
    · rw [if_neg z, decide_eq_false z, if_neg (by decide), b_0, Bool.or_false]
  · rw [a9]
    unfold tFr
    rw [ns, dp]
    by_cases z : nI q ≠ 7 ∧ K.1 17 a 2 ≤ 1
    · rw [if_pos z, decide_eq_true z, if_pos rfl, b_or, (y1 i hi).2.1, tAa (fun y => z.1 (c7.mpr y)), s20 24 (by decide)]
    · rw [if_neg z, decide_eq_false z, if_neg (by decide), b_or, (y1 i hi).2.2]
  · rw [a10, b_or, (y1 i hi).2.2, al14 i hi]
  · rw [a11, kc.2]
    congr 1
    unfold tWt
    rw [t17, if_neg (fun z => z.elim (n 0 (by decide) (by omega)) (n 9 (by decide) (by omega))), s20 20 (by decide)]
    by_cases z : q = 7
    · rw [if_neg (fun y => (c56.mp y) z), if_pos (c7.mpr z), tBa z]
    · rw [if_pos (c56.mpr z), tAa z]
  · obtain ⟨oo, ho1, ho2⟩ := y2
    refine ⟨oo, ho1, fun z => ?_⟩
    rw [al15, Bool.or_eq_false_iff] at z
    rw [al 14 (by decide), z.2, Bool.false_and, Bool.or_false]
    exact ho2 z.1
  · rw [a13, al15]
    congr 2
    exact congrArg (fun w => bt (σ.1 25 a) 15 || w) (decide_eq_decide.mpr c7)
  · rw [a14, b_or, Bool.or_eq_true]
    refine ⟨fun z => z.imp id (fun z => ⟨a, ?_, z⟩), fun z => z.imp id ?_⟩
    · unfold tIn
      rw [t17]
      by_cases y : q = 7
      · exact Or.inr ⟨c7.mpr y, tBa y⟩
      · exact Or.inl ⟨c56.mpr y, tAa y⟩
    · rintro ⟨a', h1, h2⟩
      have : a' = a := by
        rcases h1 with ⟨h, rfl⟩ | ⟨h, rfl⟩
        · rw [t17] at h; exact tAa (c56.mp h)
        · rw [t17] at h; exact tBa (c7.mp h)
      rw [this] at h2; exact h2
end TS7
