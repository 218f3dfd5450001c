section TS2
variable {T : qqT} {G : qqG} {L : qqL} {A A' : kA} {ex ex' : Nat → Nat → Prop} {K K' : kS} {S S' : cS} {σ σ' : mS} {v v' n k c : Nat} {x1 x2 x3 : Int32}
theorem J0.ts (j : J0 T G L ex K σ v) (hn : n = Gs G) (hk : k + 1 = nC σ 30) (hc : c = nTt σ 30 k) (hc4 : c < 4) (s : tsS σ σ' k c x1 x2 x3) (rt : RTs σ' n (480 + 4 * k + c)) (p21 : σ'.1 21 30 = if x1 = 9 then x2 else σ.1 21 30) (p22 : σ'.1 22 30 = if x1 = 8 then 1 else σ.1 22 30) (b : kB (tsP n k c) F3 K K')
    (f1 : K'.1 (18 + k) n 4 = nI (c + 1) ∧ K'.1 (18 + k) n 5 = b2 (qHs σ 30 k || decide (x1 = 8))) (f3 : K'.1 (22 + k) n c = x1 ∧ K'.1 (26 + k) n c = x2 ∧ K'.1 (30 + k) n c = x3) (f4 : K'.1 17 n 4 = σ'.1 21 30 ∧ K'.1 17 n 5 = σ'.1 22 30)
    (f5 : ∀ i, i < 14 → bt (K'.1 (18 + k) n 6) i = (bt (K.1 (18 + k) n 6) i || bt (tNr σ' (480 + 4 * k + c)) i) ∧ bt (K'.1 (18 + k) n 7) i = (bt (K.1 (18 + k) n 7) i || bt (tFr σ' (480 + 4 * k + c)) i) ∧ bt (K'.1 (18 + k) n 8) i = (bt (K.1 (18 + k) n 8) i || bt (tAl σ' (480 + 4 * k + c)) i))
    (f6 : K'.1 17 n 6 = K.1 17 n 6 + tWt σ' (480 + 4 * k + c)) (f7 : ∃ y, K'.1 17 n 7 = K.1 17 n 7 ||| y ∧ ordEq y (tAl σ' (480 + 4 * k + c))) (f8 : K'.1 17 n 8 = K.1 17 n 8 ||| b2 (bt (tAl σ' (480 + 4 * k + c)) 15))
    (f9 : ∀ i, i < 32 → (bt (K'.1 17 n 9) i = true ↔ bt (K.1 17 n 9) i = true ∨ ∃ a, tIn σ' (480 + 4 * k + c) a ∧ bt (K.1 17 a 9) i = true)) : J0 T G L ex K' σ' v := by
  subst hn
  have hg30 := j.2.2.2.2.2.1.1.2.2.2.1
  obtain ⟨⟨d1, d2, d3, d4, d5⟩, d6, d7, d8, d9, d10, d11⟩ := j.2.2.2.2.2.2.1
  have rn := d2.n
  have h4 : ∀ q, q < nC σ 30 → nTt σ 30 q ≤ 4 := fun q hq => (d2.t hq).1
  have bI : ∀ x y z, ¬ tsP (Gs G) k c x y z → K'.1 x y z = K.1 x y z := b.1
  have bR : ∀ x y z, K'.2 x y z = K.2 x y z := fun x y z => b.2 x y z (fun w => w)
  have wd : kB (dfP (Gs G)) (dfP (Gs G)) K K' := b.wd (fun x y z h => by unfold tsP at h; unfold dfP; omega) (fun _ _ _ h => h.elim)
  have mono : ∀ a b, ex a b → ex a b := fun _ _ h => h
  have sb : sB [14, 15, 16, 17, 18, 19, 21, 22] [] σ σ' := s.1.wd (fun f hf => by revert f; decide) (fun f hf => hf)
  have ag := tsS_ag (n := Gs G) s hg30
  refine j.df mono wd sb ag ?_ (j.2.2.2.2.2.2.2.cg (fun f hf => s.1.1 f (by revert f; decide)) (fun e _ _ => rY.of (fun f hf => s.1.1 f (by revert f; decide))))
  have nc := tsS_nC s 30
  have nT : ∀ q, nTt σ' 30 q = if q = k then c + 1 else nTt σ 30 q := tsS_nT s hc4
  have hs9 : ∀ q, q < nC σ 30 → qHs σ' 30 q = if q = k then qHs σ 30 q || decide (x1 = 8) else qHs σ 30 q := fun q hq => tsS_qHs s hc hc4 (h4 q hq)
  refine ⟨⟨?_, ?_, ?_, ?_, ?_⟩, ?_, ?_, ?_, ?_, ?_, ?_, ?_, ?_⟩
  · -- the selector's cells
    obtain ⟨⟨e1, e2, e3, e4, e5, e6⟩, e7⟩ := d1
    refine ⟨⟨e1, by rw [bR]; exact e2, by rw [bR, nc]; exact e3, by rw [bI _ _ _ (by unfold tsP; omega), nc]; exact e4, f4.1, f4.2⟩, fun q hq => ?_⟩
    rw [nc] at hq
    obtain ⟨y1, y2, y3, y4, y5, y6, y7, y8, y9⟩ := e7 q hq
    have qq : q < 4 := by omega
    have o15 : σ'.1 15 (4 * 30 + q) = σ.1 15 (4 * 30 + q) := by rw [s.1.1 15 (by decide)]
    by_cases z : q = k
    · subst z
      refine ⟨y1, by rw [f1.1, show 4 * 30 + q = 120 + q by omega, s.2.1.1], by rw [f1.2, hs9 q hq, if_pos rfl], fun h0 => by rw [o15, bI _ _ _ (by unfold tsP; omega)]; exact y4 h0, by rw [bR]; exact y5, by rw [bR]; exact y6, by rw [bR]; exact y7, by rw [bR, nc]; exact y8, fun t ht => ?_⟩
      rw [nT, if_pos rfl] at ht
      by_cases w : t = c
      · rw [w, show 16 * 30 + 4 * q + c = 480 + 4 * q + c by omega, s.2.2.1.1, s.2.2.1.2.1, s.2.2.1.2.2]
        exact f3
      · obtain ⟨g1, g2, g3⟩ := s.2.2.2.1 (16 * 30 + 4 * q + t) (by omega)
        rw [g1, g2, g3, bI (22 + q) _ _ (by unfold tsP; omega), bI (26 + q) _ _ (by unfold tsP; omega), bI (30 + q) _ _ (by unfold tsP; omega)]
        exact y9 t (by omega)
    · refine ⟨y1, by rw [bI _ _ _ (by unfold tsP; omega), s.2.1.2 _ (by omega)]; exact y2, by rw [bI _ _ _ (by unfold tsP; omega), hs9 q hq, if_neg z]; exact y3, fun h0 => by rw [o15, bI _ _ _ (by unfold tsP; omega)]; exact y4 h0, by rw [bR]; exact y5, by rw [bR]; exact y6, by rw [bR]; exact y7, by rw [bR, nc]; exact y8, fun t ht => ?_⟩
      rw [nT, if_neg z] at ht
      have := h4 q hq
      obtain ⟨g1, g2, g3⟩ := s.2.2.2.1 (16 * 30 + 4 * q + t) (by omega)
      rw [g1, g2, g3, bI (22 + q) _ _ (by unfold tsP; omega), bI (26 + q) _ _ (by unfold tsP; omega), bI (30 + q) _ _ (by unfold tsP; omega)]
      exact y9 t ht
  · -- the reference's rows are in order
    have d2' := d2
    obtain ⟨⟨m, m1, m2, m3, m4⟩, r2, r3, r4⟩ := d2
    have hm : nC σ 30 = m := by unfold nC; rw [m3]; exact nI_clamp (by omega)
    refine ⟨⟨m, m1, m2, by rw [s.1.1 14 (by decide)]; exact m3, fun q hq => ?_⟩, ?_, ?_, fun h0 q hq => ?_⟩
    · obtain ⟨c', c1, c2, c3, c4⟩ := m4 q hq
      have o15 : σ'.1 15 (4 * 30 + q) = σ.1 15 (4 * 30 + q) := by rw [s.1.1 15 (by decide)]
      have c'e : nTt σ 30 q = c' := by unfold nTt; rw [c2]; exact nI_clamp (by omega)
      have old : ∀ t, t < c' → 16 * 30 + 4 * q + t ≠ 480 + 4 * k + c → RTs σ' (Gs G) (16 * 30 + 4 * q + t) := fun t ht hne => by
        obtain ⟨k0, k1, k2, k3, k4, k5, k6, k7⟩ := c4 t ht
        obtain ⟨g1, g2, g3⟩ := s.2.2.2.1 (16 * 30 + 4 * q + t) hne
        refine ⟨k0, k1, by rw [g1]; exact k2, by rw [g2]; exact k3, by rw [g2]; exact k4, by rw [g2, g3]; exact k5, fun z => ?_, fun z => ?_⟩
        · obtain ⟨y, y1, y2, y3, y4⟩ := k6 z
          obtain ⟨u1, u2⟩ := s.2.2.2.2 y (by omega)
          exact ⟨y, y1, by rw [g2]; exact y2, by rw [u2]; exact y3, by rw [u1]; exact y4⟩
        · obtain ⟨z1, y, y1, y2, y3, y4⟩ := k7 z
          obtain ⟨u1, u2⟩ := s.2.2.2.2 y (by omega)
          exact ⟨by rw [g2]; exact z1, y, y1, by rw [g3]; exact y2, by rw [u2]; exact y3, by rw [u1]; exact y4⟩
      by_cases z : q = k
      · subst z
        rw [← hc] at c'e
        refine ⟨c + 1, by omega, by rw [show 4 * 30 + q = 120 + q by omega]; exact s.2.1.1, by rw [o15]; exact c3, fun t ht => ?_⟩
        by_cases w : t = c
        · rw [w, show 16 * 30 + 4 * q + c = 480 + 4 * q + c by omega]; exact rt
        · exact old t (by omega) (by omega)
      · exact ⟨c', c1, by rw [s.2.1.2 _ (by omega)]; exact c2, by rw [o15]; exact c3, fun t ht => old t ht (by omega)⟩
    · rw [p21]
      by_cases z : x1 = 9
      · rw [if_pos z]
        obtain ⟨k0, k1, k2, k3, k4, -⟩ := rt
        rw [s.2.2.1.1, z] at k2
        have : k0 = 9 := ((nI_eqE (a := 9) (by decide) (by omega)).mp k2).symm
        obtain ⟨a, a1, a2⟩ := k4 (Or.inr this)
        rw [s.2.2.1.2.1] at a2
        exact Or.inr ⟨a, a1, a2⟩
      · rw [if_neg z]; exact r2
    · rw [p22]
      by_cases z : x1 = 8
      · rw [if_pos z]; exact ⟨true, rfl⟩
      · rw [if_neg z]; exact r3
    · rw [nc] at hq
      rw [hs9 q hq]
      rw [p22] at h0
      by_cases z : x1 = 8
      · rw [if_pos z] at h0; exact absurd h0 (by decide)
      · rw [if_neg z] at h0
        rw [r4 h0 q hq, decide_eq_false z, Bool.or_false, ite_self]
  · rw [bR]; exact d3
  · rw [bI _ _ _ (by unfold tsP; omega)]; exact d4
  · intro q hq hnq
    rw [nc] at hnq
    rw [s.2.1.2 _ (by omega)]; exact d5 q hq hnq
  · intro q hq i hi
    rw [nc] at hq
    obtain ⟨g1, g2, g3⟩ := d6 q hq i hi
    rw [tsS_or (F := tNr) s (fun i hi => (tsS_o s hi).1) hc hc4 (h4 q hq), tsS_or (F := tFr) s (fun i hi => (tsS_o s hi).2.1) hc hc4 (h4 q hq), tsS_or (F := tAl) s (fun i hi => (tsS_o s hi).2.2.1) hc hc4 (h4 q hq)]
    by_cases z : q = k
    · subst z
      rw [if_pos rfl, if_pos rfl, if_pos rfl, b_or, b_or, b_or, (f5 i hi).1, (f5 i hi).2.1, (f5 i hi).2.2, g1, g2, g3]
      exact ⟨rfl, rfl, rfl⟩
    · rw [if_neg z, if_neg z, if_neg z, bI _ _ _ (by unfold tsP; omega), bI _ _ _ (by unfold tsP; omega), bI _ _ _ (by unfold tsP; omega)]
      exact ⟨g1, g2, g3⟩
  · rw [f6, d7, tsS_wSm s hk hc hc4 16, if_pos (by omega)]
  · rw [tsS_sAl s hk hc hc4 h4]
    obtain ⟨y, y1, y2⟩ := f7
    rw [y1]; exact d8.or y2
  · rw [tsS_sAl s hk hc hc4 h4, f8, d9, b2_or, b_or]
  · intro i hi
    rw [f9 i hi, d10 i hi]
    have gn : ∀ a, a < Gs G → K'.1 17 a 9 = K.1 17 a 9 := fun a ha => bI _ _ _ (by unfold tsP; omega)
    have lt1 : ∀ a, qIn σ 30 a → a < Gs G := fun a ha => by
      obtain ⟨q, t, hq, ht, hx⟩ := ha
      obtain ⟨k0, k1, k2, -, -, -, k6, k7⟩ := (d2.t hq).2.2.2 t ht
      rcases hx with ⟨hx, rfl⟩ | ⟨hx, rfl⟩
      · have : k0 = 5 ∨ k0 = 6 := by
          rcases hx with hx | hx
          · rw [hx] at k2; exact Or.inl ((nI_eqE (a := 5) (by decide) (by omega)).mp k2).symm
          · rw [hx] at k2; exact Or.inr ((nI_eqE (a := 6) (by decide) (by omega)).mp k2).symm
        obtain ⟨y, y1, y2, -⟩ := k6 this
        have : tA σ (16 * 30 + 4 * q + t) = y := by unfold tA; rw [y2]; exact nI_clamp (by omega)
        rw [this]; exact y1
      · have : k0 = 7 := by rw [hx] at k2; exact ((nI_eqE (a := 7) (by decide) (by omega)).mp k2).symm
        obtain ⟨-, y, y1, y2, -⟩ := k7 this
        have : tB σ (16 * 30 + 4 * q + t) = y := by unfold tB; rw [y2]; exact nI_clamp (by omega)
        rw [this]; exact y1
    have lt2 : ∀ a, tIn σ' (480 + 4 * k + c) a → a < Gs G := fun a hx => by
      obtain ⟨k0, k1, k2, -, -, -, k6, k7⟩ := rt
      rcases hx with ⟨hx, rfl⟩ | ⟨hx, rfl⟩
      · have : k0 = 5 ∨ k0 = 6 := by
          rcases hx with hx | hx
          · rw [hx] at k2; exact Or.inl ((nI_eqE (a := 5) (by decide) (by omega)).mp k2).symm
          · rw [hx] at k2; exact Or.inr ((nI_eqE (a := 6) (by decide) (by omega)).mp k2).symm
        obtain ⟨y, y1, y2, -⟩ := k6 this
        have : tA σ' (480 + 4 * k + c) = y := by unfold tA; rw [y2]; exact nI_clamp (by omega)
        rw [this]; exact y1
      · have : k0 = 7 := by rw [hx] at k2; exact ((nI_eqE (a := 7) (by decide) (by omega)).mp k2).symm
        obtain ⟨-, y, y1, y2, -⟩ := k7 this
        have : tB σ' (480 + 4 * k + c) = y := by unfold tB; rw [y2]; exact nI_clamp (by omega)
        rw [this]; exact y1
    constructor
    · rintro (⟨a, h1, h2⟩ | ⟨a, h1, h2⟩)
      · exact ⟨a, (tsS_qIn s hk hc hc4 h4 a).mpr (Or.inl h1), by rw [gn a (lt1 a h1)]; exact h2⟩
      · exact ⟨a, (tsS_qIn s hk hc hc4 h4 a).mpr (Or.inr h1), by rw [gn a (lt2 a h1)]; exact h2⟩
    · rintro ⟨a, h1, h2⟩
      rcases (tsS_qIn s hk hc hc4 h4 a).mp h1 with h | h
      · rw [gn a (lt1 a h)] at h2; exact Or.inl ⟨a, h, h2⟩
      · rw [gn a (lt2 a h)] at h2; exact Or.inr ⟨a, h, h2⟩
  · rw [bI _ _ _ (by unfold tsP; omega)]; exact d11.1
  · rw [bI _ _ _ (by unfold tsP; omega)]; exact d11.2.1
  · rw [bI _ _ _ (by unfold tsP; omega)]; exact d11.2.2
end TS2
