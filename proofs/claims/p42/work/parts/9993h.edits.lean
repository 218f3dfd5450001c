section QH
variable {mm : Nat × Nat × Nat}
variable {T T' : qqT} {G G' : qqG} {σ σ' σ1 : mS} {hl dr dr' hl' : Bool} {e k n x b : Nat}
theorem sAg.fq (a : sAg n σ σ') (hn : n ≤ 30) (r : ∀ s, s < n → RSl σ s s) (h : ∀ s, s < n → σ'.1 23 s = σ.1 23 s ∧ σ'.1 24 s = σ.1 24 s ∧ σ'.1 25 s = σ.1 25 s) {s : Nat} (hs : s < n) (q : Fq σ s) : Fq σ' s := by
  have hn4 := (r s hs).n
  have key : ∀ k t, k < nC σ s → t < nTt σ s k → tBi σ' (16 * s + 4 * k + t) = tBi σ (16 * s + 4 * k + t) ∧ tDp σ' (16 * s + 4 * k + t) = tDp σ (16 * s + 4 * k + t) ∧ tNs σ' (16 * s + 4 * k + t) = tNs σ (16 * s + 4 * k + t) ∧ (tNs σ (16 * s + 4 * k + t) = true → tA σ (16 * s + 4 * k + t) < n) := fun k t hk ht => by
    have h4 := (r s hs).t hk
    have rt := h4.2.2.2 t ht
    have hi : 16 * s + 4 * k + t < 16 * n := by omega
    obtain ⟨e1, e2, e3⟩ := a.2.2.1 _ hi
    have ea := sAg_tA a hi
    have eb := sAg_tB a hi
    refine ⟨by unfold tBi; rw [e1, e2], ?_, ?_, fun z => ?_⟩
    · unfold tDp
      rw [e1, ea, eb]
      by_cases c : σ.1 17 (16 * s + 4 * k + t) = 5 ∨ σ.1 17 (16 * s + 4 * k + t) = 6
      · have i5 := rt.in56 (by omega) c
        rw [if_pos c, if_pos c, (h _ (by omega)).2.2]
      · rw [if_neg c, if_neg c]
        by_cases d : σ.1 17 (16 * s + 4 * k + t) = 7
        · have i7 := rt.in7 (by omega) d
          rw [if_pos d, if_pos d, (h _ (by omega)).2.2]
        · rw [if_neg d, if_neg d]
    · unfold tNs
      rw [e1, ea]
      by_cases c : σ.1 17 (16 * s + 4 * k + t) = 5 ∨ σ.1 17 (16 * s + 4 * k + t) = 6
      · have i5 := rt.in56 (by omega) c
        rw [sAg_nC a (show tA σ (16 * s + 4 * k + t) < n by omega)]
      · rw [decide_eq_false c, Bool.false_and, Bool.false_and]
    · unfold tNs at z
      rw [Bool.and_eq_true] at z
      have := rt.in56 (by omega) (of_decide_eq_true z.1)
      omega
  have nr : ∀ k t, k < nC σ s → t < nTt σ s k → tNr σ' (16 * s + 4 * k + t) = tNr σ (16 * s + 4 * k + t) := fun k t hk ht => by
    obtain ⟨k1, k2, k3, k4⟩ := key k t hk ht
    have h4 := (r s hs).t hk
    unfold tNr
    rw [k1, k3]
    by_cases z : tNs σ (16 * s + 4 * k + t) = true
    · rw [if_pos z, if_pos z, sAg_tA a (show 16 * s + 4 * k + t < 16 * n by omega), (h _ (k4 z)).1]
    · rw [if_neg z, if_neg z]
  have fr : ∀ k t, k < nC σ s → t < nTt σ s k → tFr σ' (16 * s + 4 * k + t) = tFr σ (16 * s + 4 * k + t) := fun k t hk ht => by
    obtain ⟨k1, k2, k3, k4⟩ := key k t hk ht
    have h4 := (r s hs).t hk
    unfold tFr
    rw [k2, k3]
    by_cases z : tNs σ (16 * s + 4 * k + t) = true
    · rw [if_pos z, if_pos z, sAg_tA a (show 16 * s + 4 * k + t < 16 * n by omega), (h _ (k4 z)).2.1]
    · rw [if_neg z, if_neg z]
  have al : ∀ k t, k < nC σ s → t < nTt σ s k → tAl σ' (16 * s + 4 * k + t) = tAl σ (16 * s + 4 * k + t) := fun k t hk ht => by
    obtain ⟨k1, k2, k3, k4⟩ := key k t hk ht
    have h4 := (r s hs).t hk
    have hi : 16 * s + 4 * k + t < 16 * n := by omega
    unfold tAl
    rw [k1, k2, (a.2.2.1 _ hi).1, sAg_tA a hi]
  have cc := sAg_nC a hs
  have sa : sAl σ' s = sAl σ s := by
    unfold sAl
    rw [cc]
    refine orF_cg (fun k hk => ?_)
    show (if 0 < k ∧ 1 < cO σ' s k then (16384 : Int32) else 0) ||| orF _ (nTt σ' s k) = (if 0 < k ∧ 1 < cO σ s k then 16384 else 0) ||| orF _ (nTt σ s k)
    rw [sAg_nT a hs (by omega), sAg_cO a hs (by omega)]
    congr 1
    exact orF_cg (fun t ht => al k t hk ht)
  have an : acN σ' s (nC σ s) (nC σ s) = acN σ s (nC σ s) (nC σ s) := by
    refine orF_cg (fun k hk => ?_)
    show orF _ (nTt σ' s k) = orF _ (nTt σ s k)
    rw [sAg_nT a hs (by omega)]
    refine orF_cg (fun t ht => ?_)
    unfold nrC
    rw [nr k t hk ht]
  have af : acF σ' s (nC σ s) (nC σ s) = acF σ s (nC σ s) (nC σ s) := by
    refine orF_cg (fun k hk => ?_)
    show orF _ (nTt σ' s k) = orF _ (nTt σ s k)
    rw [sAg_nT a hs (by omega)]
    refine orF_cg (fun t ht => ?_)
    unfold frC
    rw [fr k t hk ht, (key k t hk ht).1, (key k t hk ht).2.1]
  obtain ⟨h23, h24, h25⟩ := h s hs
  obtain ⟨-, h21, h22⟩ := a.1 s hs
  unfold Fq at q ⊢
  rw [h23, h24, h25, h21, h22, cc, sa, an, af]
  exact q
theorem lEq_bits (h30 : σ'.1 30 = σ.1 30) (hb : ∀ r, r < Gr G → bt (qMs T σ' (Gsh G (Gsf G r)) (Gse G r)) e = bt (qMs T σ (Gsh G (Gsf G r)) (Gse G r)) e) : lEq T T G (hS T G σ) (hS T G σ') e := by
  refine ⟨fun r hr => ?_, fun r hr _ => rfl, rfl⟩
  unfold apB
  rw [hS_74, hS_74, hb r hr]
  have : Lst T G (hS T G σ') r = Lst T G (hS T G σ) r := by unfold Lst; rw [hS_o, hS_o, h30]
  rw [this]
theorem keep_T (hw : Tw T) (h2 : ∀ y, y < Tn T → rEq σ σ' y ∧ σ'.1 46 y = σ.1 46 y) (he : e < Tn T) (hf : fEq G σ σ' e) (hb : ∀ r, r < Gr G → bt (qMs T σ' (Gsh G (Gsf G r)) (Gse G r)) e = bt (qMs T σ (Gsh G (Gsf G r)) (Gse G r)) e) : keepE T T G σ σ' e := ⟨hf, lEq_bits (hf.1.2 30 (by decide)) hb, rfl, hsz_rows hw h2 he⟩
theorem fEq.of (h : ∀ f, f ∈ [20, 27, 29, 30, 34, 35, 37, 38, 39, 40, 41, 42] → σ'.1 f = σ.1 f) (h50 : σ'.2 50 = σ.2 50) : fEq G σ σ' e := ⟨⟨fun a _ => by rw [h 20 (by decide)], fun f hf => h f (by revert f; decide)⟩, fun a _ p _ f hf => by rw [h f (by revert f; decide)], h50⟩
theorem Ldc_cg (h : σ'.1 37 = σ.1 37) (p a : Nat) : Ldc σ' p a = Ldc σ p a := by unfold Ldc; rw [h]
theorem Q_sc0 {k' : Nat} (hw : Tw T) (h40 : Gr G ≤ 40) (q : Q k mm hl dr T G σ) (s : scE σ σ') (hkk : k ≤ k' := by omega) : Q k' mm hl dr T G σ' := by
  have h30 := hw.n30
  have hf : ∀ f, f < 43 → σ'.1 f = σ.1 f := fun f hf => s.1 f (by unfold scL; simp; omega) (by omega) (by omega) (by omega) (by omega)
  have hg : ∀ f, f ∈ [48, 49, 50, 51, 52, 53] → σ'.2 f = σ.2 f := fun f hf => s.2.2.2.2 f (by revert f; decide)
  have h2 : ∀ y, y < Tn T → rEq σ σ' y ∧ σ'.1 46 y = σ.1 46 y := fun y hy => ⟨⟨fun p hp => s.2.1 _ (by omega), fun v hv => s.2.2.1 _ (by omega)⟩, s.2.2.2.1 y (by omega)⟩
  have e37 := hf 37 (by decide)
  refine Q_edit hw hw h40 q rfl (fun f hx => hf f ((by decide : ∀ f ∈ [14, 15, 16, 17, 18, 19, 20, 21, 22, 23, 24, 25], f < 43) f hx)) h2 (fun e he p hp => Or.inl (by rw [s.1 55 (by decide) (by decide) (by decide) (by decide) (by decide)])) (fun f hx => hg f (by revert f; decide)) (fun a ha => ?_) (fun z => ⟨z, fun a ha => ?_⟩) (fun e he hd h48 h49 => ⟨hd, by rw [hg 48 (by decide)] at h48; exact h48, by rw [hg 49 (by decide)] at h49; exact h49, keep_T hw h2 he (fEq.of (fun f hx => hf f ((by decide : ∀ f ∈ [20, 27, 29, 30, 34, 35, 37, 38, 39, 40, 41, 42], f < 43) f hx)) (hg 50 (by decide))) (fun r hr => ?_)⟩) (Or.inr (fun x _ h => h))
  · rw [Ldc_cg e37, Ldc_cg e37]; exact q.2.2.2.1.1 a ha
  · rw [Ldc_cg e37]; exact (q.2.2.2.2.2 z).1 a ha
  · rw [qMs_cg (σ := σ) (σ' := σ') (fun f hx => hf f ((by decide : ∀ f ∈ [0, 1, 2, 3, 4, 5, 14, 15, 16, 17, 18, 19, 21], f < 43) f hx))]
theorem Q_sc (J : J1 T G σ) (q : Q k mm hl dr T G σ) (s : scE σ σ') : Q (k + 1) mm hl dr T G σ' := Q_sc0 J.1.1 J.1.2.2.r40 q s
theorem RC.se (h : RC T G σ) {r : Nat} (hr : r < Gr G) : Gse G r < Gs G := (h.e hr).2
theorem RMk.at {P : Nat → Bool} (m : RMk T P σ σ') {e : Nat} (he : e < Tn T) (h30 : Tn T ≤ 30) (hd : TD T e = true) (h49 : bt (σ'.2 49) e = false) : bt (σ.2 49) e = false ∧ P e = false := by
  obtain ⟨v, rfl, hv⟩ := m
  have := hv e (by omega)
  rw [sf_s] at h49
  rw [h49] at this
  have := Bool.or_eq_false_iff.mp this.symm
  refine ⟨this.1, ?_⟩
  have t2 := this.2
  unfold dm at t2
  rw [decide_eq_true he, hd, Bool.true_and, Bool.true_and] at t2
  exact t2
theorem bit9 (hw : Tw T) (J : J1 T G σ) (q : Q k mm hl dr T G σ) (hb : b < 14) (hx : x < Tn T) (c : bCh σ σ' x b) (he : e < Tn T) (hD : TD T e = true) (hm : TMf T (bt (orF (fun r => σ.1 23 (Gse G r)) (Gr G)) b) (bt (orF (fun r => σ.1 24 (Gse G r)) (Gr G)) b) x e = false) : ∀ r, r < Gr G → bt (qMs T σ' (Gsh G (Gsf G r)) (Gse G r)) e = bt (qMs T σ (Gsh G (Gsf G r)) (Gse G r)) e := fun r hr =>
  bit_b hw J.2.1.2.2.2 J.2.1.1 q.1.1 c hx (J.1.2.2.se hr) he hD (fun z => (orF_bt _ _ _).mpr ⟨r, hr, z⟩) (fun z => (orF_bt _ _ _).mpr ⟨r, hr, z⟩) hm
theorem Q_feat (J : J1 T G σ) (J' : J1 T G σ') (q : Q k mm hl dr T G σ) (hb : b < 14) (hx : x < Tn T) (c : bCh σ σ1 x b) (s : sB [1, 3, 4] [81] σ σ1) (m : RMk T (TMf T (bt (orF (fun r => σ.1 23 (Gse G r)) (Gr G)) b) (bt (orF (fun r => σ.1 24 (Gse G r)) (Gr G)) b) x) σ1 σ') : Q (k + 1) mm hl dr T G σ' := by
  have h30 := J.1.1.n30
  have s2 : sB [1, 3, 4] [49, 81] σ σ' := (s.wd (by simp) (by simp)).tr (m.sB.wd (by simp) (by simp))
  have h2 : ∀ y, y < Tn T → rEq σ σ' y ∧ σ'.1 46 y = σ.1 46 y := fun y hy => ⟨⟨fun p _ => by rw [s2.1 43 (by decide)], fun v _ => by rw [s2.1 44 (by decide), s2.1 45 (by decide)]; exact ⟨rfl, rfl⟩⟩, by rw [s2.1 46 (by decide)]⟩
  have e37 := s2.1 37 (by decide)
  refine Q_edit J.1.1 J'.1.1 J.1.2.2.r40 q rfl (fun f hf => s2.1 f (by revert f; decide)) h2 (fun e he p hp => Or.inl (by rw [s2.1 55 (by decide)])) (fun f hf => s2.2 f (by revert f; decide)) (fun a ha => ?_) (fun z => ⟨z, fun a ha => ?_⟩) (fun e he hd h48 h49 => ?_) (Or.inr (fun x _ h => h))
  · rw [Ldc_cg e37, Ldc_cg e37]; exact q.2.2.2.1.1 a ha
  · rw [Ldc_cg e37]; exact (q.2.2.2.2.2 z).1 a ha
  · obtain ⟨m1, m2⟩ := m.at he h30 hd h49
    rw [s.2 49 (by decide)] at m1
    rw [s2.2 48 (by decide)] at h48
    refine ⟨hd, h48, m1, keep_T J.1.1 h2 he (fEq.of (fun f hf => s2.1 f (by revert f; decide)) (s2.2 50 (by decide))) (fun r hr => ?_)⟩
    rw [qMs_cg (σ := σ1) (σ' := σ') (fun f hf => m.sB.1 f (by simp))]
    exact bit9 J.1.1 J q hb hx c he hd m2 r hr
end QH
