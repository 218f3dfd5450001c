def gRu (G : qqG) (f s : Nat) : qqG := (G.1, G.2.1, G.2.2.1 + 1, G.2.2.2.1, fun r => if r = G.2.2.1 then s else G.2.2.2.2.1 r, fun r => if r = G.2.2.1 then f else G.2.2.2.2.2.1 r, G.2.2.2.2.2.2.1, G.2.2.2.2.2.2.2)
def ruP (n k i j : Nat) : Prop := (11 ≤ k ∧ k ≤ 15 ∧ i = n) ∨ (k = 58 ∧ i = 0 ∧ (j = 5 ∨ (9 ≤ j ∧ j ≤ 12)))
def ruR (n k i j : Nat) : Prop := (11 ≤ k ∧ k ≤ 15 ∧ i = n) ∨ (k = 60 ∧ i = 0 ∧ j = n) ∨ (k = 58 ∧ i = 0 ∧ (j = 6 ∨ j = 7)) ∨ (k = 11 ∧ i + 1 = n ∧ j = 14)
section RUL
variable {T : qqT} {G : qqG} {L : qqL} {A A' : kA} {ex : Nat → Nat → Prop} {K K' : kS} {S S' : cS} {σ σ' : mS} {v v' nw9 k : Nat}
theorem orF_cg {f g : Nat → Int32} : ∀ {n : Nat}, (∀ r, r < n → f r = g r) → orF f n = orF g n := by
  intro n
  induction n with
  | zero => intro _; rfl
  | succ n ih =>
    intro h
    show orF f n ||| f n = orF g n ||| g n
    rw [ih (fun r hr => h r (by omega)), h n (by omega)]
theorem orF_new (σ : mS) (G : qqG) (f s F : Nat) : orF (fun r => σ.1 F (Gse (gRu G f s) r)) (Gr (gRu G f s)) = orF (fun r => σ.1 F (Gse G r)) (Gr G) ||| σ.1 F s := by
  show orF (fun r => σ.1 F (if r = Gr G then s else Gse G r)) (Gr G) ||| σ.1 F (if Gr G = Gr G then s else Gse G (Gr G)) = _
  rw [if_pos rfl, orF_cg (g := fun r => σ.1 F (Gse G r)) (fun r hr => by rw [if_neg (by omega)])]
theorem b2_or (a b : Bool) : b2 a ||| b2 b = b2 (a || b) := by cases a <;> cases b <;> rfl
theorem ordEq.or {x y a b : Int32} (h : ordEq x a) (k : ordEq y b) : ordEq (x ||| y) (a ||| b) := by
  obtain ⟨o, rfl, h2⟩ := h
  obtain ⟨u, rfl, k2⟩ := k
  refine ⟨o || u, b2_or o u, fun z => ?_⟩
  rw [b_or, Bool.or_eq_false_iff] at z
  rw [b_or, h2 z.1, k2 z.2]
theorem ordEq.b {x a : Int32} (h : ordEq x a) : ∃ o, x = b2 o := ⟨h.choose, h.choose_spec.1⟩
theorem J0.ru (j : J0 T G L ex K σ v) {n : Nat} (hn : n = Gr G) (hn40 : n < 40) {f s : Nat} (hf : f < Gk G) (hs : s < Gs G) (b : kB (ruP n) (ruR n) K K') (sb : sB [32, 33, 34] [36] σ σ')
    (k1 : (K'.1 58 0 5 = nI (n + 1) ∧ K'.2 58 0 6 = some (11, 0) ∧ K'.2 58 0 7 = some (11, n) ∧ K'.2 60 0 n = some (11, n)) ∧ (K'.1 11 n 0 = nI n ∧ K'.2 11 n 1 = some (16, f) ∧ K'.2 11 n 2 = some (17, s) ∧ K'.1 11 n 3 = σ.1 27 f ∧ K'.1 11 n 4 = -1 ∧ K'.1 11 n 5 = 0 ∧ K'.1 11 n 6 = 0) ∧ (K'.2 11 n 8 = some (12, n) ∧ K'.2 11 n 9 = some (13, n) ∧ K'.2 11 n 10 = some (14, n) ∧ K'.2 11 n 11 = some (15, n) ∧ K'.2 11 n 14 = none) ∧ (∀ r, r + 1 = n → K'.2 11 r 14 = some (11, n)) ∧ ((∀ r j, r + 1 = n → j ≠ 14 → K'.2 11 r j = K.2 11 r j)) ∧ K'.1 58 0 9 = K.1 58 0 9 ||| K.1 17 s 10 ∧ K'.1 58 0 10 = K.1 58 0 10 ||| K.1 17 s 11 ∧ K'.1 58 0 11 = K.1 58 0 11 ||| K.1 17 s 7 ∧ K'.1 58 0 12 = K.1 58 0 12 ||| K.1 17 s 8)
    (s1 : σ'.2 36 = nI (n + 1) ∧ (σ'.1 32 n = nI f ∧ σ'.1 33 n = nI s ∧ σ'.1 34 n = -1) ∧ ∀ i, i ≠ n → σ'.1 32 i = σ.1 32 i ∧ σ'.1 33 i = σ.1 33 i ∧ σ'.1 34 i = σ.1 34 i) :
    J0 T (gRu G f s) L (exR (exU ex 11 n) 11 n) K' σ' v := by
  have exI : ∀ a b, exR (exU ex 11 n) 11 n a b ↔ (ex a b ∨ (11 ≤ a ∧ a ≤ 15 ∧ b = n)) := by
    intro a b
    unfold exR exU
    constructor
    · rintro (((((h | h) | h) | h) | h) | h)
      · exact Or.inl h
      all_goals exact Or.inr (by omega)
    · rintro (h | ⟨h1, h2, h3⟩)
      · exact Or.inl (Or.inl (Or.inl (Or.inl (Or.inl h))))
      · have : a = 11 ∨ a = 12 ∨ a = 13 ∨ a = 14 ∨ a = 15 := by omega
        rcases this with h | h | h | h | h
        · exact Or.inl (Or.inl (Or.inl (Or.inl (Or.inr ⟨h, h3⟩))))
        · exact Or.inl (Or.inl (Or.inl (Or.inr ⟨h, h3⟩)))
        · exact Or.inl (Or.inl (Or.inr ⟨h, h3⟩))
        · exact Or.inl (Or.inr ⟨h, h3⟩)
        · exact Or.inr ⟨h, h3⟩
  generalize exR (exU ex 11 n) 11 n = ex' at exI
  subst hn
  have mono : ∀ a b, ex a b → ex' a b := fun a b h => (exI a b).mpr (Or.inl h)
  obtain ⟨t, ⟨c1, c2, c3, c4, c5⟩, an, va, mk, ⟨m, s26⟩, d, fr⟩ := j
  obtain ⟨a1, a2, a3, a4, a5, a6, a7⟩ := c1
  obtain ⟨b1, b2', b3, b4, b5⟩ := c2
  obtain ⟨w36, ⟨w32, w33, w34⟩, wo⟩ := s1
  obtain ⟨⟨z5, z6, z7, z60⟩, ⟨y0, y1, y2, y3, y4, y5, y6⟩, ⟨y8, y9, y10, y11, y14⟩, zn, zo, z9, z10, z11, z12⟩ := k1
  have oI : ∀ k i j, ¬ ruP (Gr G) k i j → K'.1 k i j = K.1 k i j := b.1
  have oR : ∀ k i j, ¬ ruR (Gr G) k i j → K'.2 k i j = K.2 k i j := b.2
  have rc : RC T (gRu G f s) σ' := by
    refine ⟨(sb.2 31 (by decide)).trans a1, a2, fun k hk => ?_, w36, (show Gr G + 1 ≤ 40 by omega), fun r hr => ?_, a7⟩
    · rw [sb.1 27 (by decide), sb.1 28 (by decide), sb.1 29 (by decide), sb.1 30 (by decide)]
      exact a3 k hk
    · show σ'.1 32 r = nI (if r = Gr G then f else Gsf G r) ∧ (if r = Gr G then f else Gsf G r) < Gk G ∧ σ'.1 33 r = nI (if r = Gr G then s else Gse G r) ∧ (if r = Gr G then s else Gse G r) < Gs G
      by_cases c : r = Gr G
      · rw [if_pos c, if_pos c, c, w32, w33]
        exact ⟨rfl, hf, rfl, hs⟩
      · obtain ⟨x1, x2, x3⟩ := wo r c
        rw [if_neg c, if_neg c, x1, x2]
        exact a6 r (by have hr' : r < Gr G + 1 := hr; omega)
  have kc : KC T (gRu G f s) ex' K' σ' := by
    refine ⟨fun k hk => ?_, fun r hr => ?_, fun e he => ?_, ?_, fun s1 hs => ?_⟩
    · obtain ⟨x1, x2, x3, x4, x5, x6, x7⟩ := b1 k hk
      show ex' 16 k ∧ K'.1 16 k 0 = nI k ∧ K'.1 16 k 1 = σ'.1 27 k ∧ K'.2 16 k 2 = ro 0 (Gsh G k) ∧ K'.1 16 k 3 = σ'.1 29 k ∧ K'.1 16 k 4 = σ'.1 30 k ∧ K'.2 59 0 k = some (16, k)
      rw [sb.1 27 (by decide), sb.1 29 (by decide), sb.1 30 (by decide), oI 16 k 0 (by unfold ruP; omega), oI 16 k 1 (by unfold ruP; omega), oI 16 k 3 (by unfold ruP; omega), oI 16 k 4 (by unfold ruP; omega), oR 16 k 2 (by unfold ruR; omega), oR 59 0 k (by unfold ruR; omega)]
      exact ⟨mono _ _ x1, x2, x3, x4, x5, x6, x7⟩
    · show (∀ k, 11 ≤ k → k ≤ 15 → ex' k r) ∧ K'.1 11 r 0 = nI r ∧ K'.2 11 r 1 = some (16, if r = Gr G then f else Gsf G r) ∧ K'.2 11 r 2 = some (17, if r = Gr G then s else Gse G r) ∧ K'.1 11 r 3 = σ'.1 27 (if r = Gr G then f else Gsf G r) ∧ K'.1 11 r 4 = σ'.1 34 r ∧ K'.1 11 r 5 = σ'.1 35 r ∧ K'.2 11 r 8 = some (12, r) ∧ K'.2 11 r 9 = some (13, r) ∧ K'.2 11 r 10 = some (14, r) ∧ K'.2 11 r 11 = some (15, r) ∧ K'.2 11 r 14 = (if r + 1 < Gr G + 1 then some (11, r + 1) else none) ∧ K'.2 60 0 r = some (11, r)
      rw [sb.1 27 (by decide), sb.1 35 (by decide)]
      by_cases c : r = Gr G
      · rw [if_pos c, if_pos c, c, w34, if_neg (by omega)]
        exact ⟨fun k h1 h2 => (exI _ _).mpr (Or.inr ⟨h1, h2, rfl⟩), y0, y1, y2, y3, y4, by rw [y5]; exact (fr.2.2.2 (Gr G) (Nat.le_refl _) hn40).symm, y8, y9, y10, y11, y14, z60⟩
      · have hr' : r < Gr G := by have hr' : r < Gr G + 1 := hr; omega
        obtain ⟨x1, x2, x3, x4, x5, x6, x7, x8, x9, x10, x11, x12, x13⟩ := b2' r hr'
        have oR' : ∀ j, j ≠ 14 → K'.2 11 r j = K.2 11 r j := fun j hj => oR 11 r j (by unfold ruR; omega)
        rw [if_neg c, if_neg c, (wo r c).2.2, oI 11 r 0 (by unfold ruP; omega), oI 11 r 3 (by unfold ruP; omega), oI 11 r 4 (by unfold ruP; omega), oI 11 r 5 (by unfold ruP; omega), oR' 1 (by decide), oR' 2 (by decide), oR' 8 (by decide), oR' 9 (by decide), oR' 10 (by decide), oR' 11 (by decide), oR 60 0 r (by unfold ruR; omega), if_pos (by omega)]
        refine ⟨fun k h1 h2 => mono _ _ (x1 k h1 h2), x2, x3, x4, x5, x6, x7, x8, x9, x10, x11, ?_, x13⟩
        by_cases e : r + 1 = Gr G
        · rw [zn r e, e]
        · rw [oR 11 r 14 (by unfold ruR; omega), x12, if_pos (by omega)]
    · rw [oI 1 e 3 (by unfold ruP; omega), oR 1 e 1 (by unfold ruR; omega), oR 1 e 2 (by unfold ruR; omega), oR 1 e 8 (by unfold ruR; omega), oR 1 e 9 (by unfold ruR; omega), oR 1 e 10 (by unfold ruR; omega), oR 1 e 11 (by unfold ruR; omega)]
      exact b3 e he
    · show K'.1 58 0 4 = σ'.2 31 ∧ K'.1 58 0 5 = σ'.2 36 ∧ K'.1 58 0 8 = σ'.2 50 ∧ K'.2 58 0 6 = (if 0 < Gr G + 1 then some (11, 0) else none) ∧ K'.2 58 0 7 = (if 0 < Gr G + 1 then some (11, Gr G + 1 - 1) else none)
      rw [w36, sb.2 31 (by decide), sb.2 50 (by decide), oI 58 0 4 (by unfold ruP; omega), oI 58 0 8 (by unfold ruP; omega), z6, z7, if_pos (by omega), if_pos (by omega)]
      exact ⟨b4.1, z5, b4.2.2.1, rfl, rfl⟩
    · rw [oI 17 s1 6 (by unfold ruP; omega), sb.1 20 (by decide)]
      exact ⟨mono _ _ (b5 s1 hs).1, (b5 s1 hs).2⟩
  have ldn : ∀ p, p < 15 → Ldc σ' p (Gr G) = false := fun p hp => by
    unfold Ldc
    rw [sb.1 37 (by decide), fr.2.2.1 (Gr G) (by omega) (fun z => by unfold VR at z; omega) p hp]
    decide
  have vr : ∀ a, VR T (gRu G f s) a → a = Gr G ∨ VR T G a := fun a ha => by
    have ha' : a < Gr G + 1 ∨ (40 ≤ a ∧ a < 40 + Tn T) := ha
    unfold VR
    omega
  have ca : JCa T (gRu G f s) ex' K' σ' := by
    refine ⟨rc, kc, fun a ha => ?_, fun a ha p hp hl => ?_, ?_⟩
    · rcases vr a ha with c | ha
      · rw [c]
        have : bkr (Gr G) = (11, Gr G) := bkr_lt hn40
        unfold KDr
        rw [this]
        refine ⟨fun p h1 h2 => ?_, fun p hp => ⟨?_, fun hl => ?_⟩⟩
        · show bt (K'.1 11 (Gr G) 6) p = false
          rw [y6, b_0]
        · show bt (K'.1 11 (Gr G) 6) p = Ldc σ' p (Gr G)
          rw [y6, b_0, ldn p hp]
        · rw [ldn p hp] at hl; cases hl
      · have ne : ¬ ((bkr a).1 = 11 ∧ (bkr a).2 = Gr G) := fun z => by
          unfold bkr at z
          unfold VR at ha
          by_cases c : a < 40
          · rw [if_pos c] at z
            have : a = Gr G := z.2
            omega
          · rw [if_neg c] at z
            exact absurd z.1 (show ¬ (1 : Nat) = 11 by decide)
        have hk := bkr_k a
        exact ((c3 a ha).cg (fun f hf => sb.1 f (by revert f; decide))).cgK (fun j hj => oI _ _ _ (by unfold ruP; omega)) (fun t j h1 h5 => oI _ _ _ (by unfold ruP; omega))
    · rcases vr a ha with c | ha
      · rw [c, ldn p hp] at hl; cases hl
      · have c4' : RDv T G σ' := c4.cg (fun f hf => sb.1 f (by revert f; decide))
        exact c4' a ha p hp hl
    · obtain ⟨f1, f2, f3, f4⟩ := c5
      have o17 : ∀ s j, K'.1 17 s j = K.1 17 s j := fun s j => oI _ _ _ (by unfold ruP; omega)
      have gal : gAl (gRu G f s) σ' = gAl G σ ||| σ.1 25 s := by
        unfold gAl
        rw [orF_new, sb.1 25 (by decide)]
      refine ⟨fun s1 hs1 => ?_, fun i hi => ?_, ?_, ?_⟩
      · rw [o17, o17, o17, o17, o17, sb.1 23 (by decide), sb.1 24 (by decide), sb.1 25 (by decide)]
        exact f1 s1 hs1
      · rw [orF_new, orF_new, z9, z10, sb.1 23 (by decide), sb.1 24 (by decide), b_or, b_or, b_or, b_or, (f2 i hi).1, (f2 i hi).2, ((f1 s hs).1 i hi).1, ((f1 s hs).1 i hi).2.1]
        exact ⟨rfl, rfl⟩
      · rw [gal, z11]; exact f3.or (f1 s hs).2.1
      · rw [gal, z12, f4, (f1 s hs).2.2.1, b2_or, b_or]
  have m' : KMt T G ex' K' σ' v := KMt_ex mono ((m.keep b (fun k i j z => by unfold ruP at z; omega) (fun k i j z => by unfold ruR at z; omega)).cg (fun f hf => sb.1 f (by revert f; decide)))
  have d' : JDf G ex' K' σ' := JDf_ex mono ((d.kp b (fun k i j z => by unfold ruP at z; omega) (fun k i j z => by unfold ruR at z; omega)).cg (fun f hf => sb.1 f (by revert f; decide)))
  refine ⟨JTr_ex mono ((t.kp b (fun k i j z => by unfold ruP at z; unfold dTI; omega) (fun k i j z => by unfold ruR at z; unfold dTR; omega)).cg (fun f hf => sb.1 f (by revert f; decide)) (sb.2 13 (by decide))), ca, JAn_ex mono ((an.kp b (fun k i j z => by unfold ruP at z; unfold dNI; omega) (fun k i j z => by unfold ruR at z; unfold dNR; omega)).cg (fun f hf => sb.1 f (by revert f; decide)) (fun f hf => sb.2 f (by revert f; decide))), (va.kp b (fun k i j z => by unfold ruP at z; omega)).cg (fun f hf => sb.1 f (by revert f; decide)) (sb.2 48 (by decide)), (mk.kp b (fun k i j z => by unfold ruP at z; omega)).cg (fun f hf => sb.2 f (by revert f; decide)), ⟨m', by rw [sb.2 26 (by decide)]; exact s26⟩, d', ?_⟩
  have fr' : JFr T G L ex σ' := fr.cg (fun f hf => sb.1 f (by revert f; decide)) (fun e _ _ => rY.of (fun f hf => sb.1 f (by revert f; decide)))
  obtain ⟨⟨d1, d2, d3, d4, d5, d6⟩, d7, d8, d9⟩ := fr'
  have E : ∀ {a b : Nat}, ex' a b → ¬ ex a b → ¬ (11 ≤ a ∧ a ≤ 15 ∧ b = Gr G) → False := fun h h1 h2 => ((exI _ _).mp h).elim h1 h2
  refine ⟨⟨fun k e h1 h2 z => E z (d1 k e h1 h2) (by omega), fun k h1 z => E z (d2 k h1) (by omega), fun k r h1 h2 h3 z => ?_, fun s h1 k h2 h3 z => E z (d4 s h1 k h2 h3) (by omega), fun j h1 h2 => ?_, fun k h1 z => E z (d6 k h1) (by omega)⟩, d7, fun a ha hv => ?_, fun r h1 h2 => ?_⟩
  · have h3' : Gr G + 1 ≤ r := h3
    exact E z (d3 k r h1 h2 (by omega)) (by omega)
  · obtain ⟨u1, u2, u3, u4⟩ := d5 j h1 h2
    exact ⟨fun z => E z u1 (by omega), fun z => E z u2 (by omega), fun z => E z u3 (by omega), fun z => E z u4 (by omega)⟩
  · refine d8 a ha (fun z => hv ?_)
    unfold VR at z
    show a < Gr G + 1 ∨ (40 ≤ a ∧ a < 40 + Tn T)
    omega
  · have h1' : Gr G + 1 ≤ r := h1
    exact d9 r (by omega) h2
end RUL
