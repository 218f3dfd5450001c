def gSe (G : qqG) : qqG := (G.1 + 1, G.2)
def seI (n a b d : Nat) : Prop := (17 ≤ a ∧ a ≤ 33 ∧ b = n + 1) ∨ (a = 17 ∧ b = n ∧ (d = 3 ∨ (9 ≤ d ∧ d ≤ 12))) ∨ (a = 52 ∧ d = 2)
def seR (n a b d : Nat) : Prop := (17 ≤ a ∧ a ≤ 33 ∧ b = n + 1) ∨ (a = 52 ∧ d = 3) ∨ (a = 53 ∧ d = n)
section SL4
variable {T : qqT} {G : qqG} {L : qqL} {A A' : kA} {ex ex' : Nat → Nat → Prop} {K K' : kS} {S S' : cS} {σ σ' : mS} {v v' n k c s b : Nat}
theorem orF_bc {f g : Nat → Int32} {i : Nat} : ∀ {n : Nat}, (∀ r, r < n → bt (f r) i = bt (g r) i) → bt (orF f n) i = bt (orF g n) i := by
  intro n
  induction n with
  | zero => intro _; rfl
  | succ n ih =>
    intro h
    show bt (orF f n ||| f n) i = bt (orF g n ||| g n) i
    rw [b_or, b_or, ih (fun r hr => h r (by omega)), h n (by omega)]
theorem orF_bf {f : Nat → Int32} {i : Nat} : ∀ {n : Nat}, (∀ r, r < n → bt (f r) i = false) → bt (orF f n) i = false := by
  intro n
  induction n with
  | zero => intro _; exact b_0 i
  | succ n ih =>
    intro h
    show bt (orF f n ||| f n) i = false
    rw [b_or, ih (fun r hr => h r (by omega)), h n (by omega)]; rfl
theorem orF_z {f : Nat → Int32} : ∀ {n : Nat}, (∀ r, r < n → f r = 0) → orF f n = 0 := by
  intro n
  induction n with
  | zero => intro _; rfl
  | succ n ih =>
    intro h
    show orF f n ||| f n = 0
    rw [ih (fun r hr => h r (by omega)), h n (by omega), or_00]
theorem acN_e {m : Nat} : acN σ s (m + 1) (m + 1) = orF (fun t => tNr σ (16 * s + 4 * m + t)) (nTt σ s m) := by
  have e : ∀ f : Nat → Int32, (∀ r, r < m → f r = 0) → orF f (m + 1) = f m := fun f h => by
    show orF f m ||| f m = f m
    rw [orF_z h, z_or]
  unfold acN
  rw [e _ (fun r hr => orF_z (fun t _ => by unfold nrC; rw [decide_eq_false (by omega)]; exact if_neg (by decide)))]
  exact orF_cg (fun t _ => by unfold nrC; rw [decide_eq_true rfl]; exact if_pos rfl)
theorem b_16 {p : Prop} [Decidable p] {i : Nat} (h : i ≠ 14) (hi : i < 32) : bt (if p then (16384 : Int32) else 0) i = false := by
  by_cases z : p
  · rw [if_pos z, b_16384 hi]; exact decide_eq_false h
  · rw [if_neg z]; exact b_0 i
theorem h7_b {q i : Nat} (h : i ≠ 14) (h' : i ≠ 15) (hi : i < 32) : bt (if σ.1 17 q = 7 then 32768 ||| (if 1 < tA σ q then (16384 : Int32) else 0) else 0) i = false := by
  by_cases z : σ.1 17 q = 7
  · rw [if_pos z, b_or, b_16 h hi, b_32768 hi, decide_eq_false h']; rfl
  · rw [if_neg z]; exact b_0 i
theorem tAl_lo {q i : Nat} (hi : i < 14) : bt (tAl σ q) i = bt (tBi σ q ||| tDp σ q) i := by
  unfold tAl
  rw [b_or, h7_b (by omega) (by omega) (by omega), Bool.or_false]
theorem tBi_hi {q i : Nat} (r : RTs σ b q) (h16 : 16 ≤ i) (hi : i < 32) : bt (tBi σ q) i = false := by
  obtain ⟨k, k1, k2, k3, k4, k5, -, -⟩ := r
  have e : ∀ m : Nat, m < 10 → σ.1 17 q = nI m → k = m := fun m hm z => (nI_eqE (a := k) (b := m) (by omega) (by omega)).mp (by rw [← k2]; exact z)
  unfold tBi
  by_cases c1 : σ.1 17 q = 1
  · obtain ⟨a, a1, a2⟩ := k3 (Or.inr (e 1 (by decide) c1))
    rw [if_pos c1, a2, b_one (by omega) hi]; exact decide_eq_false (by omega)
  · rw [if_neg c1]
    by_cases c2 : σ.1 17 q = 2
    · obtain ⟨a, a1, a2⟩ := k4 (Or.inl (e 2 (by decide) c2))
      rw [if_pos c2, a2, b_256 a1 hi]; exact decide_eq_false (by omega)
    · rw [if_neg c2]
      by_cases c3 : σ.1 17 q = 3
      · obtain ⟨⟨a, a1, a2⟩, -⟩ := k5 (e 3 (by decide) c3)
        rw [if_pos c3, a2, b_4096 a1 hi]; exact decide_eq_false (by omega)
      · rw [if_neg c3]
        by_cases c4 : σ.1 17 q = 4
        · rw [if_pos c4, b_16384 hi]; exact decide_eq_false (by omega)
        · rw [if_neg c4]; exact b_0 i
theorem sAl_hi {i : Nat} (h16 : 16 ≤ i) (hi : i < 32) (hb : b ≤ 30) (r : RSl σ s b) (hd : ∀ a, a < b → bt (σ.1 25 a) i = false) : bt (sAl σ s) i = false := by
  unfold sAl
  refine orF_bf (fun k hk => ?_)
  rw [b_or, b_16 (by omega) hi, Bool.false_or]
  refine orF_bf (fun t ht => ?_)
  have rt := (r.t hk).2.2.2 t ht
  obtain ⟨q5, q7⟩ := RTs_k rt
  unfold tAl
  rw [b_or, b_or, tBi_hi rt h16 hi, h7_b (by omega) (by omega) hi, Bool.or_false, Bool.false_or]
  unfold tDp
  by_cases z : σ.1 17 (16 * s + 4 * k + t) = 5 ∨ σ.1 17 (16 * s + 4 * k + t) = 6
  · obtain ⟨a, a1, a2⟩ := q5 z
    rw [if_pos z, show tA σ (16 * s + 4 * k + t) = a by unfold tA; rw [a2]; exact nI_clamp (by omega)]
    exact hd a a1
  · rw [if_neg z]
    by_cases y : σ.1 17 (16 * s + 4 * k + t) = 7
    · obtain ⟨-, a, a1, a2⟩ := q7 y
      rw [if_pos y, show tB σ (16 * s + 4 * k + t) = a by unfold tB; rw [a2]; exact nI_clamp (by omega)]
      exact hd a a1
    · rw [if_neg y]; exact b_0 i
theorem qIn_l2 (r : RSl σ s b) (hb : b ≤ 30) {a : Nat} (h : qIn σ s a) : a < b := by
  obtain ⟨k, t, hk, ht, h⟩ := h
  obtain ⟨q5, q7⟩ := RTs_k ((r.t hk).2.2.2 t ht)
  rcases h with ⟨h1, h2⟩ | ⟨h1, h2⟩
  · obtain ⟨y, y1, y2⟩ := q5 h1
    unfold tA at h2
    rw [y2, nI_clamp (by omega)] at h2
    omega
  · obtain ⟨-, y, y1, y2⟩ := q7 h1
    unfold tB at h2
    rw [y2, nI_clamp (by omega)] at h2
    omega
theorem J0.se (hw : Tw T) (j : J0 T G L ex K σ v) (hn : n = Gs G) (hn30 : n < 30) (s : seS σ σ' n) (b : kB (seI n) (seR n) K K') {m : Nat} (hm : nC σ 30 = m + 1)
    (f1 : K'.1 17 n 3 = nI n ∧ K'.1 17 n 9 = K.1 17 n 9 ||| ((1 : Int32) <<< (nI n &&& 31)) ∧ K'.1 17 n 10 = K.1 (18 + m) n 6 ∧ K'.1 17 n 12 = orF (fun k => K.1 (18 + k) n 8) (m + 1) ∧ K'.1 17 n 11 = if K.1 17 n 5 = 0 ∧ K.1 17 n 4 = -1 then orF (fun k => if k = m then K.1 (18 + k) n 7 else K.1 (18 + k) n 8) (m + 1) else orF (fun k => K.1 (18 + k) n 8) (m + 1))
    (f2 : K'.2 53 0 n = some (17, n) ∧ K'.1 52 0 2 = nI (n + 1) ∧ K'.2 52 0 3 = some (17, n + 1))
    (f3 : (K'.2 17 (n + 1) 0 = some (18, n + 1) ∧ K'.2 17 (n + 1) 1 = some (18, n + 1) ∧ K'.1 17 (n + 1) 2 = 1 ∧ K'.1 17 (n + 1) 3 = -1 ∧ K'.1 17 (n + 1) 4 = -1 ∧ ∀ d, 5 ≤ d → K'.1 17 (n + 1) d = 0) ∧ (K'.2 18 (n + 1) 1 = some (22, n + 1) ∧ K'.2 18 (n + 1) 2 = some (26, n + 1) ∧ K'.2 18 (n + 1) 3 = some (30, n + 1) ∧ K'.2 18 (n + 1) 9 = none) ∧ ∀ d, K'.1 18 (n + 1) d = 0)
    (exI : ∀ a b, ex' a b ↔ (ex a b ∨ ((a = 17 ∨ a = 18 ∨ a = 22 ∨ a = 26 ∨ a = 30) ∧ b = n + 1))) : J0 T (gSe G) L ex' K' σ' v := by
  subst hn
  have mono : ∀ a b, ex a b → ex' a b := fun a b h => (exI a b).mpr (Or.inl h)
  have j0 := j
  obtain ⟨t, ca, an, va, mk, ⟨km, s26⟩, ⟨⟨d1, d2, d3, d4, d5⟩, d6, d7, d8, d9, d10, d11⟩, fr⟩ := j
  obtain ⟨sb, s26', cp, ⟨s20, s23, s25, s24⟩, o20, r14, r16, r21, r22⟩ := s
  have rn := d2.n
  have bI : ∀ x y z, ¬ seI (Gs G) x y z → K'.1 x y z = K.1 x y z := b.1
  have bR : ∀ x y z, ¬ seR (Gs G) x y z → K'.2 x y z = K.2 x y z := b.2
  obtain ⟨⟨e1, e2, e3, e4, e5, e6⟩, e7⟩ := d1
  have ft := ca.2.2.2.2.1
  have cadf : JCa T G ex' K' σ' := ca.df mono b (fun k i j z => by unfold seI at z; unfold dCI; omega) (fun k i j z => by unfold seR at z; unfold dCR; omega) (fun f hf => sb.1 f (by revert f; decide)) (fun x hx => ⟨o20 x hx, cp.2.2.2.2 x hx⟩) (fun f hf => sb.2 f (by revert f; decide))
  have kmd := km.2.1
  obtain ⟨K1, hK1⟩ : ∃ K1 : kS, K1 = (fun k i j => if k = 52 ∧ j = 2 then K.1 k i j else K'.1 k i j, fun k i j => if k = 53 then K.2 k i j else K'.2 k i j) := ⟨_, rfl⟩
  have bK1 : kB (fun k i j => seI (Gs G) k i j ∧ k ≠ 52) (fun k i j => seR (Gs G) k i j ∧ k ≠ 53) K K1 := by
    rw [hK1]
    refine ⟨fun k i j z => ?_, fun k i j z => ?_⟩
    · by_cases y : k = 52 ∧ j = 2
      · exact if_pos y
      · refine (if_neg y).trans (bI _ _ _ (fun x => z ⟨x, fun w => y ?_⟩))
        unfold seI at x; omega
    · by_cases y : k = 53
      · exact if_pos y
      · exact (if_neg y).trans (bR _ _ _ (fun x => z ⟨x, y⟩))
  have bK' : kB (fun k _ j => k = 52 ∧ j = 2) (fun k _ _ => k = 53) K1 K' := by
    rw [hK1]
    exact ⟨fun k i j z => (if_neg z).symm, fun k i j z => (if_neg z).symm⟩
  have m1 : KMt T G ex' K1 σ' v := km.ag mono bK1 (fun k i j z => by have := z.1; have := z.2; unfold seI at *; omega) (fun k i j z => by have := z.1; have := z.2; unfold seR at *; omega) cp.2.2.2.1
  obtain ⟨m1, m2, m3, m4, ⟨m5, m6⟩, m7, m8⟩ := m1
  have e9 : ∀ x, K1.1 17 x 9 = K'.1 17 x 9 := fun x => (bK'.1 17 x 9 (by omega)).symm
  have q9 : ∀ x, x < Gs G → K'.1 17 x 9 = K.1 17 x 9 := fun x hx => bI _ _ _ (by unfold seI; omega)
  have e56 : ∀ t, K1.1 56 0 t = K'.1 56 0 t := fun t => (bK'.1 56 0 t (by omega)).symm
  have e57 : ∀ t, K1.1 57 0 t = K'.1 57 0 t := fun t => (bK'.1 57 0 t (by omega)).symm
  have e55 : ∀ t x, K1.1 55 t x = K'.1 55 t x := fun t x => (bK'.1 55 t x (by omega)).symm
  have e50 : K1.1 50 0 3 = K'.1 50 0 3 := (bK'.1 50 0 3 (by omega)).symm
  have ksl : KSl ex' K' σ (Gs G) 30 := by
    refine ⟨⟨mono _ _ e1, by rw [bR _ _ _ (by unfold seR; omega)]; exact e2, by rw [bR _ _ _ (by unfold seR; omega)]; exact e3, by rw [bI _ _ _ (by unfold seI; omega)]; exact e4, by rw [bI _ _ _ (by unfold seI; omega)]; exact e5, by rw [bI _ _ _ (by unfold seI; omega)]; exact e6⟩, fun k hk => ?_⟩
    obtain ⟨⟨y0, y1, y2', y3⟩, y4, y5, y6, y7, y8, y9, y10, y11⟩ := e7 k hk
    refine ⟨⟨mono _ _ y0, mono _ _ y1, mono _ _ y2', mono _ _ y3⟩, by rw [bI _ _ _ (by unfold seI; omega)]; exact y4, by rw [bI _ _ _ (by unfold seI; omega)]; exact y5, fun h0 => by rw [bI _ _ _ (by unfold seI; omega)]; exact y6 h0, by rw [bR _ _ _ (by unfold seR; omega)]; exact y7, by rw [bR _ _ _ (by unfold seR; omega)]; exact y8, by rw [bR _ _ _ (by unfold seR; omega)]; exact y9, by rw [bR _ _ _ (by unfold seR; omega)]; exact y10, fun t ht => ?_⟩
    rw [bI (22 + k) _ _ (by unfold seI; omega), bI (26 + k) _ _ (by unfold seI; omega), bI (30 + k) _ _ (by unfold seI; omega)]
    exact y11 t ht
  have nC1 : nC σ' 30 = 1 := by unfold nC; rw [r14]; rfl
  have nT1 : nTt σ' 30 0 = 0 := by
    unfold nTt
    have := r16 0 (by decide)
    rw [show 4 * 30 + 0 = 120 + 0 from rfl, this]; rfl
  refine ⟨JTr_ex mono ((t.kp b (fun k i j z => by unfold seI at z; unfold dTI; omega) (fun k i j z => by unfold seR at z; unfold dTR; omega)).cg (fun f hf => sb.1 f (by revert f; decide)) (sb.2 13 (by simp))), ?_, JAn_ex mono ((an.kp b (fun k i j z => by unfold seI at z; unfold dNI; omega) (fun k i j z => by unfold seR at z; unfold dNR; omega)).cg (fun f hf => sb.1 f (by revert f; decide)) (fun f hf => sb.2 f (by revert f; decide))), (va.kp b (fun k i j z => by unfold seI at z; omega)).cg (fun f hf => sb.1 f (by revert f; decide)) (sb.2 48 (by simp)), (mk.kp b (fun k i j z => by unfold seI at z; omega)).cg (fun f hf => sb.2 f (by revert f; decide)), ⟨?_, s26'⟩, ?_, ?_⟩
  · obtain ⟨⟨a1, a2, a3, a4, a5, a6, a7⟩, ⟨b1, b2', b3, b4, b5⟩, c3, c4, ⟨g1, g2, g3, g4⟩⟩ := cadf
    refine ⟨⟨a1, a2, a3, a4, a5, fun r hr => ?_, (show Gs G + 1 ≤ 30 by omega)⟩, ⟨b1, b2', b3, b4, fun x hx => ?_⟩, c3, c4, ⟨fun x hx => ?_, g2, g3, g4⟩⟩
    · obtain ⟨y1, y2, y3, y4⟩ := a6 r hr
      exact ⟨y1, y2, y3, (show Gse G r < Gs G + 1 by omega)⟩
    · have hx' : x < Gs G + 1 := hx
      by_cases z : x = Gs G
      · rw [z, s20, bI _ _ _ (by unfold seI; omega)]
        exact ⟨mono _ _ e1, d7⟩
      · exact b5 x (by omega)
    · have hx' : x < Gs G + 1 := hx
      by_cases z : x = Gs G
      · obtain ⟨w1, w9, w10, w12, w11⟩ := f1
        have all : ∀ i, i < 14 → bt (orF (fun k => K.1 (18 + k) (Gs G) 8) (m + 1)) i = bt (sAl σ 30) i := fun i hi => by
          unfold sAl
          rw [hm]
          refine orF_bc (fun k hk => ?_)
          rw [b_or, b_16 (by omega) (by omega), Bool.false_or]
          exact (d6 k (by omega) i hi).2.2
        have far : ∀ i, i < 14 → bt (orF (fun k => if k = m then K.1 (18 + k) (Gs G) 7 else K.1 (18 + k) (Gs G) 8) (m + 1)) i = bt (acF σ 30 (m + 1) (m + 1)) i := fun i hi => by
          refine orF_bc (fun k hk => ?_)
          obtain ⟨-, y2, y3⟩ := d6 k (by omega) i hi
          by_cases y : k = m
          · rw [if_pos y, y2]
            refine orF_bc (fun t ht => ?_)
            unfold frC
            rw [decide_eq_true (by omega), if_pos rfl]
          · rw [if_neg y, y3]
            refine orF_bc (fun t ht => ?_)
            unfold frC
            rw [decide_eq_false (by omega), if_neg (by decide)]
            exact tAl_lo hi
        rw [z, s23, s24, s25, w10, w12, w11, hm, acN_e, e5, e6]
        refine ⟨fun i hi => ⟨(d6 m (by omega) i hi).1, ?_, all i hi⟩, by rw [bI _ _ _ (by unfold seI; omega)]; exact d8, by rw [bI _ _ _ (by unfold seI; omega)]; exact d9, fun i h16 hi => sAl_hi h16 hi (by omega) d2 (fun a ha => (ft a ha).2.2.2 i h16 hi)⟩
        obtain ⟨cc, h22⟩ := d2.2.2.1
        rw [h22]
        cases cc with
        | true => rw [if_neg (show ¬ (b2 true = 0 ∧ σ.1 21 30 = -1) from fun y => absurd y.1 (by decide)), if_pos (show b2 true = 1 from rfl)]; exact all i hi
        | false =>
          rw [if_neg (show ¬ b2 false = 1 by decide)]
          rcases d2.2.1 with y | ⟨p, p4, y⟩
          · rw [y, if_pos (show b2 false = 0 ∧ (-1 : Int32) = -1 from ⟨rfl, rfl⟩), if_pos (show (-1 : Int32) < 0 by decide)]; exact far i hi
          · rw [y, if_neg (show ¬ (b2 false = 0 ∧ nI p = -1) from fun w => nI_m1 (by omega) w.2), if_neg (show ¬ nI p < 0 from nI_pos (by omega))]; exact all i hi
      · exact g1 x (by omega)
  · refine ⟨fun x hx => ?_, fun x hx => ?_, f2.2.1, (show Gs G + 1 ≤ 30 by omega), ⟨by rw [← e50]; exact m5, fun t ht => by rw [← e57]; exact m6 t ht⟩, fun t ht x hx hb => ?_, fun h hh hv x hx hb => ?_⟩
    · have hx' : x < Gs G + 1 := hx
      by_cases z : x = Gs G
      · rw [z]
        exact ⟨cp_KSl cp d2 ksl, f1.1, f2.1, cp_RSl cp d2⟩
      · obtain ⟨y1, y2, y3, y4⟩ := m1 x (by omega)
        have y3' : K'.2 53 0 x = some (17, x) := by
          rw [bR _ _ _ (by unfold seR; omega)]; exact (km.1 x (by omega)).2.2.1
        exact ⟨y1.keep y4.n.2.1 bK' (fun k j h1 h2 => by omega) (fun k j h1 h2 => by omega), by rw [bI _ _ _ (by unfold seI; omega)]; exact (km.1 x (by omega)).2.1, y3', y4⟩
    · have hx' : x < Gs G + 1 := hx
      by_cases z : x = Gs G
      · rw [z]
        have w9 := f1.2.1
        have bn : ∀ i, i < 32 → bt (K'.1 17 (Gs G) 9) i = (bt (K.1 17 (Gs G) 9) i || decide (i = Gs G)) := fun i hi => by rw [w9, b_or, b_one (by omega) hi]
        refine ⟨by rw [bn _ (by omega), decide_eq_true rfl, Bool.or_true], fun y hy hb => ?_, fun a ha => ?_⟩
        · rw [bn y hy, Bool.or_eq_true] at hb
          rcases hb with hb | hb
          · obtain ⟨a, a1, a2⟩ := (d10 y hy).mp hb
            have al := qIn_l2 d2 (by omega) a1
            obtain ⟨k1, k2⟩ := (kmd a al).2.1 y hy a2
            refine ⟨by omega, fun i hi hbi => ?_⟩
            rw [q9 y (by omega)] at hbi
            rw [bn i hi, Bool.or_eq_true]
            exact Or.inl ((d10 i hi).mpr ⟨a, a1, k2 i hi hbi⟩)
          · have e := of_decide_eq_true hb
            exact ⟨by omega, fun i hi hbi => by rw [← e]; exact hbi⟩
        · have ha' := (cp_qIn cp d2 a).mp ha
          have al := qIn_l2 d2 (by omega) ha'
          rw [bn a (by omega), Bool.or_eq_true]
          exact Or.inl ((d10 a (by omega)).mpr ⟨a, ha', (kmd a al).1⟩)
      · obtain ⟨y1, y2, y3⟩ := m2 x (by omega)
        rw [e9] at y1 y2 y3
        refine ⟨y1, fun y hy hb => ?_, y3⟩
        have := y2 y hy hb
        rw [e9] at this
        exact this
    · rw [← e56] at hb
      have := m7 t ht x hx hb
      exact ⟨(show x < Gs G + 1 by omega), this.2⟩
    · rw [← e57, ← e50] at hv
      rw [← e56] at hb
      have := (m7 _ (kTr_lt hw hh) x (by have hx' : x < Gs G + 1 := hx; omega) hb).1
      rw [← e55]
      exact m8 h hh hv x this hb
  · refine ⟨⟨⟨⟨(exI _ _).mpr (Or.inr ⟨by omega, rfl⟩), f3.1.1, ?_, ?_, ?_, ?_⟩, fun k hk => ?_⟩, ?_, f2.2.2, f3.1.2.2.2.1, fun k hk _ => r16 k hk⟩, fun k hk i hi => ?_, ?_, ?_, ?_, fun i hi => ?_, ?_, ?_, ?_⟩
    · rw [nC1]; exact f3.1.2.1
    · rw [nC1]; exact f3.1.2.2.1
    · rw [r21]; exact f3.1.2.2.2.2.1
    · rw [r22]; exact f3.1.2.2.2.2.2 5 (by decide)
    · rw [nC1] at hk
      have hk0 : k = 0 := by omega
      subst hk0
      refine ⟨⟨(exI _ _).mpr (Or.inr ⟨by omega, rfl⟩), (exI _ _).mpr (Or.inr ⟨by omega, rfl⟩), (exI _ _).mpr (Or.inr ⟨by omega, rfl⟩), (exI _ _).mpr (Or.inr ⟨by omega, rfl⟩)⟩, ?_, ?_, fun h => by omega, f3.2.1.1, f3.2.1.2.1, f3.2.1.2.2.1, ?_, fun t ht => ?_⟩
      · have := r16 0 (by decide)
        rw [show 4 * 30 + 0 = 120 + 0 from rfl, this]; exact f3.2.2 4
      · have : qHs σ' 30 0 = false := by unfold qHs; rw [nT1]; rfl
        rw [this]; exact f3.2.2 5
      · rw [nC1, if_neg (by omega)]; exact f3.2.1.2.2.2
      · rw [nT1] at ht; omega
    · refine ⟨⟨1, by omega, by omega, r14, fun k hk => ⟨0, by omega, r16 k (by omega), fun h => by omega, fun t ht => by omega⟩⟩, Or.inl r21, ⟨false, r22⟩, fun _ k hk => ?_⟩
      rw [nC1] at hk
      have hk0 : k = 0 := by omega
      subst hk0
      unfold qHs
      rw [nT1]; rfl
    · rw [nC1] at hk
      have hk0 : k = 0 := by omega
      subst hk0
      have e6' := f3.2.2 6
      have e7' := f3.2.2 7
      have e8' := f3.2.2 8
      show bt (K'.1 18 (Gs G + 1) 6) i = _ ∧ bt (K'.1 18 (Gs G + 1) 7) i = _ ∧ bt (K'.1 18 (Gs G + 1) 8) i = _
      rw [e6', e7', e8', nT1]
      exact ⟨rfl, rfl, rfl⟩
    · have wz : ∀ i, wSm σ' 30 i = 0 := by
        intro i
        induction i with
        | zero => rfl
        | succ i ih =>
          show wSm σ' 30 i + (if i / 4 < nC σ' 30 ∧ i % 4 < nTt σ' 30 (i / 4) then tWt σ' (16 * 30 + i) else 0) = 0
          rw [ih, if_neg, Int32.add_zero]
          rintro ⟨h1, h2⟩
          rw [nC1] at h1
          have h0 : i / 4 = 0 := by omega
          rw [h0, nT1] at h2
          omega
      rw [wz]; exact f3.1.2.2.2.2.2 6 (by decide)
    · have sz : sAl σ' 30 = 0 := by
        unfold sAl
        refine orF_z (fun k hk => ?_)
        rw [nC1] at hk
        have hk0 : k = 0 := by omega
        subst hk0
        rw [nT1, if_neg (by omega)]; exact or_00 0
      rw [sz]
      exact ⟨false, f3.1.2.2.2.2.2 7 (by decide), fun _ => by rw [b_0]⟩
    · have sz : sAl σ' 30 = 0 := by
        unfold sAl
        refine orF_z (fun k hk => ?_)
        rw [nC1] at hk
        have hk0 : k = 0 := by omega
        subst hk0
        rw [nT1, if_neg (by omega)]; exact or_00 0
      rw [sz, b_0]
      exact f3.1.2.2.2.2.2 8 (by decide)
    · have e := f3.1.2.2.2.2.2 9 (by decide)
      show bt (K'.1 17 (Gs G + 1) 9) i = true ↔ _
      rw [e, b_0]
      refine ⟨(fun z => by cases z), ?_⟩
      rintro ⟨a, ⟨k, t, hk, ht, -⟩, -⟩
      rw [nC1] at hk
      have hk0 : k = 0 := by omega
      subst hk0
      rw [nT1] at ht
      omega
    · exact f3.1.2.2.2.2.2 10 (by decide)
    · exact f3.1.2.2.2.2.2 11 (by decide)
    · exact f3.1.2.2.2.2.2 12 (by decide)
  · obtain ⟨⟨g1, g2, g3, g4, g5, g6⟩, g7, g8, g9⟩ := fr
    have E : ∀ {a b : Nat}, ex' a b → ¬ ex a b → ¬ ((a = 17 ∨ a = 18 ∨ a = 22 ∨ a = 26 ∨ a = 30) ∧ b = Gs G + 1) → False := fun h h1 h2 => ((exI _ _).mp h).elim h1 h2
    refine ⟨⟨fun k e h1 h2 z => E z (g1 k e h1 h2) (by omega), fun k h1 z => E z (g2 k h1) (by omega), fun k r h1 h2 h3 z => E z (g3 k r h1 h2 h3) (by omega), fun x h1 k h2 h3 z => ?_, fun y h1 h2 => ?_, fun k h1 z => E z (g6 k h1) (by omega)⟩, ?_, ?_, ?_⟩
    · have h1' : Gs G + 1 < x := h1
      exact E z (g4 x (by omega) k h2 h3) (by omega)
    · rw [nC1] at h1
      exact ⟨fun z => E z (g4 (Gs G + 1) (by omega) _ (by omega) (by omega)) (by omega), fun z => E z (g4 (Gs G + 1) (by omega) _ (by omega) (by omega)) (by omega), fun z => E z (g4 (Gs G + 1) (by omega) _ (by omega) (by omega)) (by omega), fun z => E z (g4 (Gs G + 1) (by omega) _ (by omega) (by omega)) (by omega)⟩
    · rw [sb.1 1 (by decide), sb.1 2 (by decide), sb.1 3 (by decide), sb.1 4 (by decide), sb.1 5 (by decide), sb.1 43 (by decide), sb.1 44 (by decide), sb.1 45 (by decide), sb.1 47 (by decide), sb.1 55 (by decide)]
      exact g7
    · rw [sb.1 37 (by decide)]; exact g8
    · rw [sb.1 35 (by decide)]; exact g9
end SL4
