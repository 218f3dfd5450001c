def cpS (σ τ : mS) (n : Nat) : Prop := (τ.1 14 n = σ.1 14 30 ∧ τ.1 21 n = σ.1 21 30 ∧ τ.1 22 n = σ.1 22 30) ∧ (∀ k, k < 4 → τ.1 15 (4 * n + k) = σ.1 15 (120 + k) ∧ τ.1 16 (4 * n + k) = σ.1 16 (120 + k)) ∧ (∀ q, q < 16 → τ.1 17 (16 * n + q) = σ.1 17 (480 + q) ∧ τ.1 18 (16 * n + q) = σ.1 18 (480 + q) ∧ τ.1 19 (16 * n + q) = σ.1 19 (480 + q)) ∧ sAg n σ τ ∧ ∀ s, s < n → τ.1 23 s = σ.1 23 s ∧ τ.1 24 s = σ.1 24 s ∧ τ.1 25 s = σ.1 25 s
section SL3
variable {σ σ' τ : mS} {ex : Nat → Nat → Prop} {K : kS} {n b i a j k q : Nat}
theorem cp_nC (c : cpS σ τ n) : nC τ n = nC σ 30 := by unfold nC; rw [c.1.1]
theorem cp_nT (c : cpS σ τ n) (hk : k < 4) : nTt τ n k = nTt σ 30 k := by unfold nTt; rw [(c.2.1 k hk).2]
theorem cp_cO (c : cpS σ τ n) (hk : k < 4) : cO τ n k = cO σ 30 k := by unfold cO; rw [(c.2.1 k hk).1]
theorem cp_t (hn : n ≤ 30) (c : cpS σ τ n) (hq : q < 16) (r : RTs σ n (480 + q)) : tNr τ (16 * n + q) = tNr σ (480 + q) ∧ tFr τ (16 * n + q) = tFr σ (480 + q) ∧ tAl τ (16 * n + q) = tAl σ (480 + q) ∧ tBi τ (16 * n + q) ||| tDp τ (16 * n + q) = tBi σ (480 + q) ||| tDp σ (480 + q) := by
  obtain ⟨-, -, c3, c4, c5⟩ := c
  obtain ⟨e1, e2, e3⟩ := c3 q hq
  obtain ⟨q5, q7⟩ := RTs_k r
  have a1 : tA τ (16 * n + q) = tA σ (480 + q) := by unfold tA; rw [e2]
  have a2 : tB τ (16 * n + q) = tB σ (480 + q) := by unfold tB; rw [e3]
  have a3 : tBi τ (16 * n + q) = tBi σ (480 + q) := by unfold tBi; rw [e1, e2]
  have lt : σ.1 17 (480 + q) = 5 ∨ σ.1 17 (480 + q) = 6 → tA σ (480 + q) < n := fun z => by
    obtain ⟨a, h1, h2⟩ := q5 z
    unfold tA
    rw [h2, nI_clamp (by omega)]; exact h1
  have a4 : tDp τ (16 * n + q) = tDp σ (480 + q) := by
    unfold tDp
    rw [e1, a1, a2]
    by_cases z : σ.1 17 (480 + q) = 5 ∨ σ.1 17 (480 + q) = 6
    · rw [if_pos z, if_pos z, (c5 _ (lt z)).2.2]
    · rw [if_neg z, if_neg z]
      by_cases y : σ.1 17 (480 + q) = 7
      · obtain ⟨-, a, h1, h2⟩ := q7 y
        have e : tB σ (480 + q) = a := by unfold tB; rw [h2]; exact nI_clamp (by omega)
        rw [if_pos y, if_pos y, e, (c5 _ h1).2.2]
      · rw [if_neg y, if_neg y]
  have a5 : tNs τ (16 * n + q) = tNs σ (480 + q) := by
    unfold tNs
    rw [e1, a1]
    by_cases z : σ.1 17 (480 + q) = 5 ∨ σ.1 17 (480 + q) = 6
    · rw [sAg_nC c4 (lt z)]
    · rw [decide_eq_false z, Bool.false_and, Bool.false_and]
  have ns : tNs σ (480 + q) = true → σ.1 17 (480 + q) = 5 ∨ σ.1 17 (480 + q) = 6 := fun z => by
    unfold tNs at z
    rw [Bool.and_eq_true] at z
    exact of_decide_eq_true z.1
  refine ⟨?_, ?_, ?_, ?_⟩
  · unfold tNr
    rw [a3, a5, a1]
    by_cases z : tNs σ (480 + q) = true
    · rw [if_pos z, if_pos z, (c5 _ (lt (ns z))).1]
    · rw [if_neg z, if_neg z]
  · unfold tFr
    rw [a4, a5, a1]
    by_cases z : tNs σ (480 + q) = true
    · rw [if_pos z, if_pos z, (c5 _ (lt (ns z))).2.1]
    · rw [if_neg z, if_neg z]
  · unfold tAl
    rw [a3, a4, a1, e1]
  · rw [a3, a4]
theorem cp_RTs (c : cpS σ τ n) (hq : q < 16) (r : RTs σ n (480 + q)) : RTs τ n (16 * n + q) := by
  obtain ⟨-, -, c3, c4, -⟩ := c
  obtain ⟨e1, e2, e3⟩ := c3 q hq
  obtain ⟨k, k1, k2, k3, k4, k5, k6, k7⟩ := r
  refine ⟨k, k1, by rw [e1]; exact k2, by rw [e2]; exact k3, by rw [e2]; exact k4, by rw [e2, e3]; exact k5, fun z => ?_, fun z => ?_⟩
  · obtain ⟨y, y1, y2, y3, y4⟩ := k6 z
    exact ⟨y, y1, by rw [e2]; exact y2, by rw [(c4.1 y y1).2.2]; exact y3, by rw [(c4.1 y y1).2.1]; exact y4⟩
  · obtain ⟨z1, y, y1, y2, y3, y4⟩ := k7 z
    exact ⟨by rw [e2]; exact z1, y, y1, by rw [e3]; exact y2, by rw [(c4.1 y y1).2.2]; exact y3, by rw [(c4.1 y y1).2.1]; exact y4⟩
theorem cp_qHs (c : cpS σ τ n) (hk : k < 4) (ht : nTt σ 30 k ≤ 4) : qHs τ n k = qHs σ 30 k := by
  unfold qHs
  rw [cp_nT c hk]
  refine qAny_cg (fun t h => ?_)
  rw [show 16 * n + 4 * k + t = 16 * n + (4 * k + t) by omega, (c.2.2.1 (4 * k + t) (by omega)).1, show 480 + (4 * k + t) = 16 * 30 + 4 * k + t by omega]
theorem cp_RSl (c : cpS σ τ n) (r : RSl σ 30 n) : RSl τ n n := by
  have hn := r.n
  have r0 := r
  obtain ⟨⟨m, m1, m2, m3, m4⟩, r2, r3, r4⟩ := r
  obtain ⟨e1, e2, e3⟩ := c.1
  refine ⟨⟨m, m1, m2, by rw [e1]; exact m3, fun k hk => ?_⟩, by rw [e2]; exact r2, by rw [e3]; exact r3, ?_⟩
  · obtain ⟨w, c1, c2, c3, c4⟩ := m4 k hk
    obtain ⟨f1, f2⟩ := c.2.1 k (by omega)
    refine ⟨w, c1, by rw [f2]; exact c2, by rw [f1]; exact c3, fun t ht => ?_⟩
    have := c4 t ht
    rw [show 16 * 30 + 4 * k + t = 480 + (4 * k + t) by omega] at this
    rw [show 16 * n + 4 * k + t = 16 * n + (4 * k + t) by omega]
    exact cp_RTs c (by omega) this
  · rw [e3, cp_nC c]
    intro z k hk
    rw [cp_qHs c (by omega) (r0.t hk).1]
    exact r4 z k hk
theorem cp_KSl (c : cpS σ τ n) (r : RSl σ 30 n) (sl : KSl ex K σ n 30) : KSl ex K τ n n := by
  have hn := r.n
  obtain ⟨e1, e2, e3⟩ := c.1
  obtain ⟨s1, s2⟩ := sl
  refine ⟨by rw [cp_nC c, e2, e3]; exact s1, fun k hk => ?_⟩
  rw [cp_nC c] at hk
  obtain ⟨x1, x2, x3, x4, x5, x6, x7, x8, x9⟩ := s2 k hk
  obtain ⟨f1, f2⟩ := c.2.1 k (by omega)
  have ht := (r.t hk).1
  refine ⟨x1, by rw [f2]; exact x2, by rw [cp_qHs c (by omega) ht]; exact x3, by rw [f1]; exact x4, x5, x6, x7, by rw [cp_nC c]; exact x8, fun t htt => ?_⟩
  rw [cp_nT c (by omega)] at htt
  have := x9 t htt
  obtain ⟨g1, g2, g3⟩ := c.2.2.1 (4 * k + t) (by omega)
  rw [show 16 * 30 + 4 * k + t = 480 + (4 * k + t) by omega] at this
  rw [show 16 * n + 4 * k + t = 16 * n + (4 * k + t) by omega, g1, g2, g3]
  exact this
theorem cp_qIn (c : cpS σ τ n) (r : RSl σ 30 n) (a : Nat) : qIn τ n a ↔ qIn σ 30 a := by
  have hn := r.n
  have key : ∀ k t, k < nC σ 30 → t < nTt σ 30 k → τ.1 17 (16 * n + 4 * k + t) = σ.1 17 (16 * 30 + 4 * k + t) ∧ tA τ (16 * n + 4 * k + t) = tA σ (16 * 30 + 4 * k + t) ∧ tB τ (16 * n + 4 * k + t) = tB σ (16 * 30 + 4 * k + t) := fun k t hk ht => by
    have h4 := (r.t hk).1
    obtain ⟨g1, g2, g3⟩ := c.2.2.1 (4 * k + t) (by omega)
    unfold tA tB
    rw [show 16 * n + 4 * k + t = 16 * n + (4 * k + t) by omega, show 16 * 30 + 4 * k + t = 480 + (4 * k + t) by omega, g1, g2, g3]
    exact ⟨rfl, rfl, rfl⟩
  unfold qIn
  constructor
  · rintro ⟨k, t, hk, ht, hq⟩
    rw [cp_nC c] at hk
    rw [cp_nT c (by omega)] at ht
    obtain ⟨g1, g2, g3⟩ := key k t hk ht
    rw [g1, g2, g3] at hq
    exact ⟨k, t, hk, ht, hq⟩
  · rintro ⟨k, t, hk, ht, hq⟩
    obtain ⟨g1, g2, g3⟩ := key k t hk ht
    refine ⟨k, t, by rw [cp_nC c]; exact hk, by rw [cp_nT c (by omega)]; exact ht, ?_⟩
    rw [g1, g2, g3]
    exact hq
theorem cp_ac (hn30 : n ≤ 30) (c : cpS σ τ n) (r : RSl σ 30 n) : acN τ n (nC σ 30) (nC σ 30) = acN σ 30 (nC σ 30) (nC σ 30) ∧ acF τ n (nC σ 30) (nC σ 30) = acF σ 30 (nC σ 30) (nC σ 30) ∧ sAl τ n = sAl σ 30 := by
  have hn := r.n
  have key : ∀ k t, k < nC σ 30 → t < nTt σ 30 k → tNr τ (16 * n + 4 * k + t) = tNr σ (16 * 30 + 4 * k + t) ∧ tFr τ (16 * n + 4 * k + t) = tFr σ (16 * 30 + 4 * k + t) ∧ tAl τ (16 * n + 4 * k + t) = tAl σ (16 * 30 + 4 * k + t) ∧ tBi τ (16 * n + 4 * k + t) ||| tDp τ (16 * n + 4 * k + t) = tBi σ (16 * 30 + 4 * k + t) ||| tDp σ (16 * 30 + 4 * k + t) := fun k t hk ht => by
    have h4 := r.t hk
    have rt := h4.2.2.2 t ht
    rw [show 16 * n + 4 * k + t = 16 * n + (4 * k + t) by omega, show 16 * 30 + 4 * k + t = 480 + (4 * k + t) by omega] at *
    exact cp_t hn30 c (by omega) rt
  refine ⟨?_, ?_, ?_⟩
  · refine orF_cg (fun k hk => ?_)
    show orF _ (nTt τ n k) = orF _ (nTt σ 30 k)
    rw [cp_nT c (by omega)]
    refine orF_cg (fun t ht => ?_)
    unfold nrC
    rw [(key k t hk ht).1]
  · refine orF_cg (fun k hk => ?_)
    show orF _ (nTt τ n k) = orF _ (nTt σ 30 k)
    rw [cp_nT c (by omega)]
    refine orF_cg (fun t ht => ?_)
    unfold frC
    rw [(key k t hk ht).2.1, (key k t hk ht).2.2.2]
  · unfold sAl
    rw [cp_nC c]
    refine orF_cg (fun k hk => ?_)
    show (if 0 < k ∧ 1 < cO τ n k then (16384 : Int32) else 0) ||| orF _ (nTt τ n k) = (if 0 < k ∧ 1 < cO σ 30 k then 16384 else 0) ||| orF _ (nTt σ 30 k)
    rw [cp_nT c (by omega), cp_cO c (by omega)]
    congr 1
    exact orF_cg (fun t ht => (key k t hk ht).2.2.1)
def seS (σ σ' : mS) (n : Nat) : Prop := sB [14, 15, 16, 17, 18, 19, 20, 21, 22, 23, 24, 25] [26] σ σ' ∧ σ'.2 26 = nI (n + 1) ∧ cpS σ σ' n ∧ (σ'.1 20 n = wSm σ 30 16 ∧ σ'.1 23 n = acN σ 30 (nC σ 30) (nC σ 30) ∧ σ'.1 25 n = sAl σ 30 ∧ σ'.1 24 n = if σ.1 22 30 = 1 then sAl σ 30 else if σ.1 21 30 < 0 then acF σ 30 (nC σ 30) (nC σ 30) else sAl σ 30) ∧ (∀ s, s < n → σ'.1 20 s = σ.1 20 s) ∧ (σ'.1 14 30 = 1 ∧ (∀ j, j < 4 → σ'.1 16 (120 + j) = 0) ∧ σ'.1 21 30 = -1 ∧ σ'.1 22 30 = 0)
theorem r_select (hn : n < 30) (r : RSl σ 30 n) (hc : ∀ a, a < n → σ.1 14 a = nI (nC σ a) ∧ nC σ a ≤ 4) (h26 : σ.2 26 = nI n) : ∃ σ', f_select_15 0 σ = some (nI n, σ') ∧ seS (sf σ 81 0) σ' n := by
  obtain ⟨s0, hs0⟩ : ∃ s0, s0 = sf σ 81 0 := ⟨_, rfl⟩
  have z1 : s0.1 = σ.1 := by rw [hs0]; rfl
  have z26 : s0.2 26 = nI n := by rw [hs0, sf_o (by decide)]; exact h26
  have r0 : RSl s0 30 n := by rw [hs0]; exact r
  have hc0 : ∀ a, a < n → s0.1 14 a = nI (nC s0 a) ∧ nC s0 a ≤ 4 := by rw [hs0]; exact hc
  obtain ⟨s8, hs8⟩ : ∃ s8, s8 = up (up (up (up s0 14 n (s0.1 14 30)) 21 n (s0.1 21 30)) 22 n (s0.1 22 30)) 20 n 0 := ⟨_, rfl⟩
  have sb8 : sB [14, 20, 21, 22] [] s0 s8 := by rw [hs8]; exact ((((sB.rf _).up (by simp)).up (by simp)).up (by simp)).up (by simp)
  have e14 : ∀ i, s8.1 14 i = if i = n then s0.1 14 30 else s0.1 14 i := fun i => by rw [hs8, up_o (by decide), up_o (by decide), up_o (by decide), up_s]
  have e21 : ∀ i, s8.1 21 i = if i = n then s0.1 21 30 else s0.1 21 i := fun i => by rw [hs8, up_o (by decide), up_o (by decide), up_s, up_o (by decide)]
  have e22 : ∀ i, s8.1 22 i = if i = n then s0.1 22 30 else s0.1 22 i := fun i => by rw [hs8, up_o (by decide), up_s, up_o (by decide), up_o (by decide)]
  have e20 : ∀ i, s8.1 20 i = if i = n then 0 else s0.1 20 i := fun i => by rw [hs8, up_s, up_o (by decide), up_o (by decide), up_o (by decide)]
  obtain ⟨t0, f1, sb0, g1, g2⟩ := r_se76 hn 4 4000 0 s8 (by omega) (by omega)
  have u14 : t0.1 14 = s8.1 14 := sb0.1 14 (by decide)
  have nCt : ∀ s, s ≠ n → nC t0 s = nC s0 s := fun s hs => by unfold nC; rw [u14, e14, if_neg hs]
  have nTt0 : ∀ k, k < 4 → nTt t0 30 k = nTt s0 30 k := fun k hk => by
    unfold nTt
    rw [(g2 (4 * 30 + k) (by omega)).2, sb8.1 16 (by decide)]
  have cOt : ∀ k, k < 4 → cO t0 30 k = cO s0 30 k := fun k hk => by
    unfold cO
    rw [(g2 (4 * 30 + k) (by omega)).1, sb8.1 15 (by decide)]
  have tT : ∀ f, f ∈ [17, 18, 19, 23, 24, 25] → t0.1 f = s0.1 f := fun f hf => (sb0.1 f (by revert f; decide)).trans (sb8.1 f (by revert f; decide))
  have ag0 : sAg n s0 t0 := by
    refine ⟨fun s hs => ?_, fun i hi => ?_, fun i _ => ?_, fun f hf => (sb0.1 f (by revert f; decide)).trans (sb8.1 f (by revert f; decide))⟩
    · rw [u14, sb0.1 21 (by decide), sb0.1 22 (by decide), e14, e21, e22, if_neg (by omega), if_neg (by omega), if_neg (by omega)]
      exact ⟨rfl, rfl, rfl⟩
    · obtain ⟨y1, y2⟩ := g2 i (by omega)
      rw [y1, y2, sb8.1 15 (by decide), sb8.1 16 (by decide)]
      exact ⟨rfl, rfl⟩
    · rw [tT 17 (by decide), tT 18 (by decide), tT 19 (by decide)]
      exact ⟨rfl, rfl, rfl⟩
  have rt0 : RSl t0 30 n := by
    have hr := r0.n
    obtain ⟨⟨m, m1, m2, m3, m4⟩, r2, r3, r4⟩ := id r0
    have h14 : t0.1 14 30 = s0.1 14 30 := by rw [u14, e14, if_neg (by omega)]
    have h21 : ∀ a, a ≠ n → t0.1 21 a = s0.1 21 a := fun a ha => by rw [sb0.1 21 (by decide), e21, if_neg ha]
    have h22 : ∀ a, a ≠ n → t0.1 22 a = s0.1 22 a := fun a ha => by rw [sb0.1 22 (by decide), e22, if_neg ha]
    have nCm : nC s0 30 = m := by unfold nC; rw [m3]; exact nI_clamp (by omega)
    refine ⟨⟨m, m1, m2, by rw [h14]; exact m3, fun k hk => ?_⟩, by rw [h21 30 (by omega)]; exact r2, by rw [h22 30 (by omega)]; exact r3, ?_⟩
    · obtain ⟨w, c1, c2, c3, c4⟩ := m4 k hk
      obtain ⟨y1, y2⟩ := g2 (4 * 30 + k) (by omega)
      refine ⟨w, c1, by rw [y2, sb8.1 16 (by decide)]; exact c2, by rw [y1, sb8.1 15 (by decide)]; exact c3, fun t ht => ?_⟩
      obtain ⟨k, k1, k2, k3, k4, k5, k6, k7⟩ := c4 t ht
      refine ⟨k, k1, by rw [tT 17 (by decide)]; exact k2, by rw [tT 18 (by decide)]; exact k3, by rw [tT 18 (by decide)]; exact k4, by rw [tT 18 (by decide), tT 19 (by decide)]; exact k5, fun z => ?_, fun z => ?_⟩
      · obtain ⟨y, y1, y2, y3, y4⟩ := k6 z
        exact ⟨y, y1, by rw [tT 18 (by decide)]; exact y2, by rw [h22 y (by omega)]; exact y3, by rw [h21 y (by omega)]; exact y4⟩
      · obtain ⟨z1, y, y1, y2, y3, y4⟩ := k7 z
        exact ⟨by rw [tT 18 (by decide)]; exact z1, y, y1, by rw [tT 19 (by decide)]; exact y2, by rw [h22 y (by omega)]; exact y3, by rw [h21 y (by omega)]; exact y4⟩
    · rw [h22 30 (by omega), nCt 30 (by omega)]
      intro z k hk
      have := r4 z k hk
      unfold qHs at this ⊢
      rw [nTt0 k (by omega), tT 17 (by decide)]
      exact this
  have hr := r0.n
  have wS : ∀ i, i ≤ 16 → wSm t0 30 i = wSm s0 30 i := by
    intro i
    induction i with
    | zero => intro _; rfl
    | succ i ih =>
      intro hi
      have i4 : i / 4 < 4 := by omega
      show wSm t0 30 i + (if i / 4 < nC t0 30 ∧ i % 4 < nTt t0 30 (i / 4) then tWt t0 (16 * 30 + i) else 0) = wSm s0 30 i + (if i / 4 < nC s0 30 ∧ i % 4 < nTt s0 30 (i / 4) then tWt s0 (16 * 30 + i) else 0)
      rw [ih (by omega), nCt 30 (by omega), nTt0 _ i4]
      by_cases z : i / 4 < nC s0 30 ∧ i % 4 < nTt s0 30 (i / 4)
      · rw [if_pos z, if_pos z]
        congr 1
        have rt := (r0.t z.1).2.2.2 _ z.2
        rw [show 16 * 30 + 4 * (i / 4) + i % 4 = 16 * 30 + i by omega] at rt
        obtain ⟨w5, w7⟩ := RTs_k rt
        have v20 : ∀ a, a ≠ n → t0.1 20 a = s0.1 20 a := fun a ha => by rw [sb0.1 20 (by decide), e20, if_neg ha]
        unfold tWt
        rw [show tA t0 (16 * 30 + i) = tA s0 (16 * 30 + i) by unfold tA; rw [tT 18 (by decide)], show tB t0 (16 * 30 + i) = tB s0 (16 * 30 + i) by unfold tB; rw [tT 19 (by decide)], tT 17 (by decide)]
        by_cases z1 : s0.1 17 (16 * 30 + i) = 0 ∨ s0.1 17 (16 * 30 + i) = 9
        · rw [if_pos z1, if_pos z1]
        · rw [if_neg z1, if_neg z1]
          by_cases z2 : s0.1 17 (16 * 30 + i) = 5 ∨ s0.1 17 (16 * 30 + i) = 6
          · obtain ⟨a, h1, h2⟩ := w5 z2
            have : tA s0 (16 * 30 + i) = a := by unfold tA; rw [h2]; exact nI_clamp (by omega)
            rw [if_pos z2, if_pos z2, this, v20 a (by omega)]
          · rw [if_neg z2, if_neg z2]
            by_cases z3 : s0.1 17 (16 * 30 + i) = 7
            · obtain ⟨-, a, h1, h2⟩ := w7 z3
              have : tB s0 (16 * 30 + i) = a := by unfold tB; rw [h2]; exact nI_clamp (by omega)
              rw [if_pos z3, if_pos z3, this, v20 a (by omega)]
            · rw [if_neg z3, if_neg z3]
      · rw [if_neg z, if_neg z]
  have c16 : ∀ k, k < 4 → t0.1 16 (4 * n + k) = t0.1 16 (120 + k) := fun k hk => by rw [(g1 k (by omega) hk).2, (g2 (120 + k) (by omega)).2]
  obtain ⟨t1, ⟨q1, q2, q3, q4, q5⟩, f2⟩ := r_se127 hn rt0 (by rw [u14, e14, e14, if_pos rfl, if_neg (by omega)]) c16 16 4000 0 t0 (by omega) (by omega) ⟨sB.rf _, fun q hq => by omega, fun _ _ => ⟨rfl, rfl, rfl⟩, by rw [sb0.1 20 (by decide), e20, if_pos rfl]; rfl, fun _ _ => rfl⟩
  have p26 : t1.2 26 + 1 = nI (n + 1) := by rw [q1.2 26 (by simp), sb0.2 26 (by simp), sb8.2 26 (by simp), z26, nI_1]
  rw [p26] at f2
  have cp1 : cpS s0 (sf t1 26 (nI (n + 1))) n := by
    refine ⟨⟨?_, ?_, ?_⟩, fun k hk => ?_, fun q hq => ?_, ⟨fun s hs => ?_, fun i hi => ?_, fun i hi => ?_, fun f hf => ?_⟩, fun s hs => ?_⟩
    · show t1.1 14 n = _
      rw [q1.1 14 (by decide), u14, e14, if_pos rfl]
    · show t1.1 21 n = _
      rw [q1.1 21 (by decide), sb0.1 21 (by decide), e21, if_pos rfl]
    · show t1.1 22 n = _
      rw [q1.1 22 (by decide), sb0.1 22 (by decide), e22, if_pos rfl]
    · show t1.1 15 (4 * n + k) = _ ∧ t1.1 16 (4 * n + k) = _
      obtain ⟨y1, y2⟩ := g1 k (by omega) hk
      rw [q1.1 15 (by decide), q1.1 16 (by decide), y1, y2, sb8.1 15 (by decide), sb8.1 16 (by decide)]
      exact ⟨rfl, rfl⟩
    · show t1.1 17 (16 * n + q) = _ ∧ t1.1 18 (16 * n + q) = _ ∧ t1.1 19 (16 * n + q) = _
      obtain ⟨y1, y2, y3⟩ := q2 q hq
      rw [y1, y2, y3, tT 17 (by decide), tT 18 (by decide), tT 19 (by decide)]
      exact ⟨rfl, rfl, rfl⟩
    · show t1.1 14 s = _ ∧ t1.1 21 s = _ ∧ t1.1 22 s = _
      rw [q1.1 14 (by decide), q1.1 21 (by decide), q1.1 22 (by decide)]
      exact ag0.1 s hs
    · show t1.1 15 i = _ ∧ t1.1 16 i = _
      rw [q1.1 15 (by decide), q1.1 16 (by decide)]
      exact ag0.2.1 i hi
    · show t1.1 17 i = _ ∧ t1.1 18 i = _ ∧ t1.1 19 i = _
      obtain ⟨y1, y2, y3⟩ := q3 i (by omega)
      rw [y1, y2, y3]
      exact ag0.2.2.1 i hi
    · show t1.1 f = _
      rw [q1.1 f (by revert f; decide)]
      exact ag0.2.2.2 f hf
    · show t1.1 23 s = _ ∧ t1.1 24 s = _ ∧ t1.1 25 s = _
      rw [q1.1 23 (by decide), q1.1 24 (by decide), q1.1 25 (by decide), tT 23 (by decide), tT 24 (by decide), tT 25 (by decide)]
      exact ⟨rfl, rfl, rfl⟩
  have rs1 := cp_RSl cp1 r0
  obtain ⟨t2, ht2⟩ : ∃ t2, t2 = sf t1 26 (nI (n + 1)) := ⟨_, rfl⟩
  rw [← ht2] at f2 cp1 rs1
  have st := r_study (by omega) (by omega) rs1 (fun a ha => by
    have e := (cp1.2.2.2.1.1 a ha).1
    rw [sAg_nC cp1.2.2.2.1 ha, e]; exact hc0 a ha)
  obtain ⟨k1, k2, k3⟩ := cp_ac (by omega) cp1 r0
  rw [cp_nC cp1, k1, k2, k3] at st
  obtain ⟨t3, ht3⟩ : ∃ t3, t3 = stE t2 n (acN s0 30 (nC s0 30) (nC s0 30)) (acF s0 30 (nC s0 30) (nC s0 30)) (sAl s0 30) := ⟨_, rfl⟩
  rw [← ht3] at st
  have o3 : ∀ f, f ≠ 23 → f ≠ 24 → f ≠ 25 → t3.1 f = t2.1 f := fun f h1 h2 h3 => by rw [ht3]; unfold stE; rw [up_o h2, up_o h3, up_o h1]
  have n3 : ∀ f i, i ≠ n → t3.1 f i = t2.1 f i := fun f i hi => by
    rw [ht3]; unfold stE
    have u : ∀ (τ : mS) (g : Nat) (x : Int32), (up τ g n x).1 f i = τ.1 f i := fun τ g x => by
      by_cases z : f = g
      · rw [z, up_sn hi]
      · rw [up_o z]
    rw [u, u, u]
  obtain ⟨t4, f4, sb4, d1, d2, d3, d4, d5⟩ := r_draft t3
  have run : f_select_15 0 σ = some (nI n, t4) := by
    unfold f_select_15
    rw [r_holds0, qqx, ← hs0, if_pos rfl]
    dsimp only
    rw [show (30 : Int32) = nI 30 from rfl, rd_14 (by decide), qqx, z26, wr_14 (by omega), qqx, rd_21 (by decide), qqx, wr_21 (by omega), qqx, rd_22 (by decide), qqx, wr_22 (by omega), qqx, wr_20 (by omega), qqx, up_o (show 21 ≠ 14 by decide), up_o (show 22 ≠ 21 by decide), up_o (show 22 ≠ 14 by decide), ← hs8]
    have f1' : f_select_76 4000 (nI n) 0 s8 = f_select_127 4000 (nI n) 0 t0 := f1
    have f2' : f_select_127 4000 (nI n) 0 t0 = (f_study (nI n) t2).bind (fun v1 => (f_draft v1).bind (fun v2 => some (nI n, v2))) := f2
    rw [f1', f2', st, qqx, f4, qqx]
  have below : ∀ f, f ∈ [14, 21, 22] → ∀ s, s < n → t4.1 f s = t2.1 f s := fun f hf s hs => by
    have e : t4.1 f s = t3.1 f s := by
      simp only [List.mem_cons, List.not_mem_nil, or_false] at hf
      rcases hf with rfl | rfl | rfl
      · exact d1.2 s (by omega)
      · exact (d5 s (by omega)).1
      · exact (d5 s (by omega)).2
    rw [e]
    exact n3 f s (by omega)
  have atn : ∀ f, f ∈ [14, 21, 22] → t4.1 f n = t2.1 f n := fun f hf => by
    have e : t4.1 f n = t3.1 f n := by
      simp only [List.mem_cons, List.not_mem_nil, or_false] at hf
      rcases hf with rfl | rfl | rfl
      · exact d1.2 n (by omega)
      · exact (d5 n (by omega)).1
      · exact (d5 n (by omega)).2
    rw [e, o3 f (by rintro rfl; revert hf; decide) (by rintro rfl; revert hf; decide) (by rintro rfl; revert hf; decide)]
  obtain ⟨p1, p2, p3, p4, p5⟩ := cp1
  have e15 : t4.1 15 = t2.1 15 := (sb4.1 15 (by decide)).trans (o3 15 (by decide) (by decide) (by decide))
  have e16 : ∀ i, i < 120 → t4.1 16 i = t2.1 16 i := fun i hi => (d3 i hi).trans (by rw [o3 16 (by decide) (by decide) (by decide)])
  have eT : ∀ f, f ∈ [17, 18, 19, 20, 0, 1, 2, 3, 4, 5] → t4.1 f = t2.1 f := fun f hf => (sb4.1 f (by revert f; decide)).trans (o3 f (by rintro rfl; revert hf; decide) (by rintro rfl; revert hf; decide) (by rintro rfl; revert hf; decide))
  have e20' : t2.1 20 = t1.1 20 := by rw [ht2]; rfl
  refine ⟨t4, run, ?_⟩
  rw [← hs0]
  refine ⟨?_, ?_, ⟨⟨?_, ?_, ?_⟩, fun k hk => ?_, fun q hq => ?_, ⟨fun s hs => ?_, fun i hi => ?_, fun i hi => ?_, fun f hf => ?_⟩, fun s hs => ?_⟩, ⟨?_, ?_, ?_, ?_⟩, fun s hs => ?_, d1.1, d2, d4.1, d4.2⟩
  · have w1 : sB [14, 15, 16, 17, 18, 19, 20, 21, 22, 23, 24, 25] [26] s0 t1 := ((sb8.wd (fun f hf => by revert f; decide) (fun f hf => by cases hf)).tr (sb0.wd (fun f hf => by revert f; decide) (fun f hf => by cases hf))).tr (q1.wd (fun f hf => by revert f; decide) (fun f hf => by cases hf))
    have w3 : sB [14, 15, 16, 17, 18, 19, 20, 21, 22, 23, 24, 25] [26] s0 t3 := by
      rw [ht3, ht2]; unfold stE
      exact (((w1.sf (by simp)).up (by simp)).up (by simp)).up (by simp)
    exact w3.tr (sb4.wd (fun f hf => by revert f; decide) (fun f hf => by cases hf))
  · rw [sb4.2 26 (by simp), ht3]
    show t2.2 26 = _
    rw [ht2, sf_s]
  · rw [atn 14 (by decide)]; exact p1.1
  · rw [atn 21 (by decide)]; exact p1.2.1
  · rw [atn 22 (by decide)]; exact p1.2.2
  · rw [e15, e16 _ (by omega)]; exact p2 k hk
  · rw [eT 17 (by decide), eT 18 (by decide), eT 19 (by decide)]; exact p3 q hq
  · rw [below 14 (by decide) s hs, below 21 (by decide) s hs, below 22 (by decide) s hs]; exact p4.1 s hs
  · rw [e15, e16 _ (by omega)]; exact p4.2.1 i hi
  · rw [eT 17 (by decide), eT 18 (by decide), eT 19 (by decide)]; exact p4.2.2.1 i hi
  · rw [eT f (by revert f; decide)]; exact p4.2.2.2 f hf
  · rw [sb4.1 23 (by decide), sb4.1 24 (by decide), sb4.1 25 (by decide), n3 23 s (by omega), n3 24 s (by omega), n3 25 s (by omega)]; exact p5 s hs
  · rw [eT 20 (by decide), e20', q4]; exact wS 16 (by omega)
  · rw [sb4.1 23 (by decide), ht3]; unfold stE
    rw [up_o (by decide), up_o (by decide), up_ss]
  · rw [sb4.1 25 (by decide), ht3]; unfold stE
    rw [up_o (by decide), up_ss]
  · rw [sb4.1 24 (by decide), ht3]; unfold stE
    rw [up_ss, p1.2.1, p1.2.2]
  · rw [eT 20 (by decide), e20', q5 s (by omega), sb0.1 20 (by decide), e20, if_neg (by omega)]
end SL3
