section QC
variable {T T' : qqT} {σ σ' : mS} {h : Option Nat} {s n N b i e x k m : Nat} {M M' : Nat → Int32} {ord : Bool} {U : Nat → Prop}
def pFd : List Nat := [0, 1, 2, 3, 4, 5, 14, 15, 16, 17, 18, 19, 20, 21, 22, 23, 24, 25]
def pairU (T T' : qqT) (σ σ' : mS) (ord : Bool) (U : Nat → Prop) : Prop := Tn T' = Tn T ∧ (∀ f, f ∈ pFd → σ'.1 f = σ.1 f) ∧ (∀ e, U e → e < Tn T ∧ (TH T' e = TH T e ∧ (TR T' e = 0 ↔ TR T e = 0)) ∧ (∀ t, TH T e = some t → U t) ∧ (∀ c f, c < 2 → f < Tn T → Trl T' c e f = Trl T c e f ∧ (Trl T c e f = true → U f)) ∧ (ord = true → Tix T' e = Tix T e ∧ ∀ c f, c < 4 → f < Tn T → Trl T' c e f = Trl T c e f ∧ (Trl T c e f = true → U f)))
theorem pairU.mb (p : pairU T T' σ σ' ord U) (he : U e) : Tmb T' h e = Tmb T h e := by
  obtain ⟨-, ⟨h1, h2⟩, -⟩ := p.2.2 e he
  cases h with
  | none => unfold Tmb; exact decide_eq_decide.mpr h2
  | some q => show decide (TH T' e = some q) = decide (TH T e = some q); rw [h1]
theorem pairU.rt (c : pairU T T' σ σ' ord U) (r : RTs σ n i) : RTs σ' n i := by
  unfold RTs at r ⊢
  rw [c.2.1 17 (by decide), c.2.1 18 (by decide), c.2.1 19 (by decide), c.2.1 21 (by decide), c.2.1 22 (by decide)]
  exact r
theorem pairU.tt (c : pairU T T' σ σ' ord U) (s k : Nat) : nTt σ' s k = nTt σ s k := by unfold nTt; rw [c.2.1 16 (by decide)]
theorem pairU.cc (c : pairU T T' σ σ' ord U) (s : Nat) : nC σ' s = nC σ s := by unfold nC; rw [c.2.1 14 (by decide)]
theorem pairU.hs (c : pairU T T' σ σ' ord U) (s k : Nat) : qHs σ' s k = qHs σ s k := by unfold qHs; rw [c.tt, c.2.1 17 (by decide)]
theorem pairU.rs (c : pairU T T' σ σ' ord U) (r : RSl σ s n) : RSl σ' s n := by
  obtain ⟨⟨m, r1, r2, r3, r4⟩, r5, r6, r7⟩ := r
  refine ⟨⟨m, r1, r2, by rw [c.2.1 14 (by decide)]; exact r3, fun k hk => ?_⟩, by rw [c.2.1 21 (by decide)]; exact r5, by rw [c.2.1 22 (by decide)]; exact r6, fun z k hk => ?_⟩
  · obtain ⟨q, q1, q2, q3, q4⟩ := r4 k hk
    exact ⟨q, q1, by rw [c.2.1 16 (by decide)]; exact q2, by rw [c.2.1 15 (by decide)]; exact q3, fun t ht => c.rt (q4 t ht)⟩
  · rw [c.hs]
    rw [c.2.1 22 (by decide)] at z
    rw [c.cc] at hk
    exact r7 z k hk
theorem qTs_p (p : pairU T T' σ σ' ord U) (he : U e) (ho : σ.1 17 i = 4 → ord = true) (h56 : σ.1 17 i = 5 ∨ σ.1 17 i = 6 → bt (M' (tA σ i)) e = bt (M (tA σ i)) e) (h7 : ¬ σ.1 17 i = 7) : qTs T' σ' M' i e = qTs T σ M i e := by
  have a' : tA σ' i = tA σ i := by unfold tA; rw [p.2.1 18 (by decide)]
  unfold qTs
  rw [a', p.2.1 17 (by decide), p.2.1 18 (by decide), p.2.1 19 (by decide), p.2.1 0 (by decide), p.2.1 1 (by decide), p.2.1 2 (by decide), p.2.1 3 (by decide), p.2.1 4 (by decide), if_neg h7, if_neg h7]
  by_cases k0 : σ.1 17 i = 0
  · rw [if_pos k0, if_pos k0]
  rw [if_neg k0, if_neg k0]
  by_cases k1 : σ.1 17 i = 1
  · rw [if_pos k1, if_pos k1]
  rw [if_neg k1, if_neg k1]
  by_cases k2 : σ.1 17 i = 2
  · rw [if_pos k2, if_pos k2]
  rw [if_neg k2, if_neg k2]
  by_cases k3 : σ.1 17 i = 3
  · rw [if_pos k3, if_pos k3]
  rw [if_neg k3, if_neg k3]
  by_cases k4 : σ.1 17 i = 4
  · rw [if_pos k4, if_pos k4, ((p.2.2 e he).2.2.2.2 (ho k4)).1]
  rw [if_neg k4, if_neg k4]
  by_cases k5 : σ.1 17 i = 5
  · rw [if_pos k5, if_pos k5, h56 (Or.inl k5)]
  rw [if_neg k5, if_neg k5]
  by_cases k6 : σ.1 17 i = 6
  · rw [if_pos k6, if_pos k6, h56 (Or.inr k6)]
  rw [if_neg k6, if_neg k6]
theorem qCp_p (p : pairU T T' σ σ' ord U) (he : U e) (hT : ∀ t, t < nTt σ s k → qTs T' σ' M' (16 * s + 4 * k + t) e = qTs T σ M (16 * s + 4 * k + t) e) : qCp T' σ' M' h s k e = qCp T σ M h s k e := by
  unfold qCp
  rw [show qBs9 T' σ' h s k e = qBs9 T σ h s k e by unfold qBs9; rw [p.hs, p.mb he], p.tt, qAny_cg (g := fun t => !qTs T σ M (16 * s + 4 * k + t) e) (fun t ht => by rw [hT t ht])]
theorem pairU.rl (p : pairU T T' σ σ' ord U) (he : U e) {c f : Nat} (hc : c < 4) (ho : 1 < c → ord = true) (hf : f < Tn T) : Trl T' c e f = Trl T c e f ∧ (Trl T c e f = true → U f) := by
  by_cases c2 : 1 < c
  · exact ((p.2.2 e he).2.2.2.2 (ho c2)).2 c f hc hf
  · exact (p.2.2 e he).2.2.2.1 c f (by omega) hf
theorem qRw_p (p : pairU T T' σ σ' ord U) (ho : ∀ j, 0 < j → j ≤ m → cO σ s j < 4 ∧ (1 < cO σ s j → ord = true)) (hC : ∀ j, j ≤ m → ∀ f, U f → qCp T' σ' M' h s j f = qCp T σ M h s j f) : ∀ k, k ≤ m → ∀ e, U e → qRw T' σ' M' h s k e = qRw T σ M h s k e := by
  intro k
  induction k with
  | zero => intro hk e he; exact hC 0 hk e he
  | succ k ih =>
    intro hk e he
    show (qCp T' σ' M' h s (k + 1) e && qAny (fun f => qRw T' σ' M' h s k f && Trl T' (cO σ' s (k + 1)) e f) (Tn T')) = (qCp T σ M h s (k + 1) e && qAny (fun f => qRw T σ M h s k f && Trl T (cO σ s (k + 1)) e f) (Tn T))
    rw [hC (k + 1) hk e he, show cO σ' s (k + 1) = cO σ s (k + 1) by unfold cO; rw [p.2.1 15 (by decide)], p.1]
    refine congrArg _ (qAny_cg (fun f hf => ?_))
    obtain ⟨o1, o2⟩ := ho (k + 1) (by omega) hk
    obtain ⟨r1, r2⟩ := p.rl he o1 o2 hf
    rw [r1]
    cases hr : Trl T (cO σ s (k + 1)) e f with
    | false => rw [Bool.and_false, Bool.and_false]
    | true => rw [ih (by omega) f (r2 hr)]
theorem b_1415 : bt 32768 15 = true ∧ bt 16384 14 = true := by decide
theorem sAl_1415 (r : RSl σ s n) (h15 : bt (sAl σ s) 15 = false) (h14 : bt (sAl σ s) 14 = true → ord = true) : (∀ k, 0 < k → k < nC σ s → 1 < cO σ s k → ord = true) ∧ ∀ k, k < nC σ s → ∀ t, t < nTt σ s k → (¬ σ.1 17 (16 * s + 4 * k + t) = 7) ∧ (σ.1 17 (16 * s + 4 * k + t) = 4 → ord = true) ∧ bt (tDp σ (16 * s + 4 * k + t)) 15 = false ∧ (bt (tDp σ (16 * s + 4 * k + t)) 14 = true → ord = true) := by
  refine ⟨fun k k0 hk hc => h14 ?_, fun k hk t ht => ?_⟩
  · refine (orF_bt _ 14 _).mpr ⟨k, hk, ?_⟩
    rw [if_pos ⟨k0, hc⟩, b_or, b_1415.2, Bool.true_or]
  · have up : ∀ j, bt (tAl σ (16 * s + 4 * k + t)) j = true → bt (sAl σ s) j = true := fun j hj => by
      refine (orF_bt _ j _).mpr ⟨k, hk, ?_⟩
      rw [b_or, (orF_bt _ j _).mpr ⟨t, ht, hj⟩, Bool.or_true]
    refine ⟨fun z => ?_, fun z => h14 (up 14 ?_), ?_, fun z => h14 (up 14 ?_)⟩
    · have := up 15 (by unfold tAl; rw [if_pos z, b_or, b_or, b_or, b_1415.1, Bool.true_or, Bool.or_true])
      rw [this] at h15; cases h15
    · unfold tAl tBi
      rw [if_neg (by rw [z]; decide), if_neg (by rw [z]; decide), if_neg (by rw [z]; decide), if_pos z, b_or, b_or, b_1415.2, Bool.true_or, Bool.true_or]
    · cases hd : bt (tDp σ (16 * s + 4 * k + t)) 15 with
      | false => rfl
      | true =>
        rw [up 15 (by unfold tAl; rw [b_or, b_or, hd, Bool.or_true, Bool.true_or])] at h15; cases h15
    · unfold tAl; rw [b_or, b_or, z, Bool.or_true, Bool.true_or]
theorem qMs_p (p : pairU T T' σ σ' ord U) (hn : Tn T ≤ 30) (hN : N ≤ 30) (hs : ∀ s, s < N → RSl σ s s) (hq : ∀ s, s < N → σ.1 25 s = sAl σ s) : ∀ s, s < N → bt (σ.1 25 s) 15 = false → (bt (σ.1 25 s) 14 = true → ord = true) → ∀ e, U e → bt (qMs T' σ' h s) e = bt (qMs T σ h s) e := by
  intro s
  induction s using Nat.strongRecOn with
  | ind s ih =>
    intro hsN h15 h14 e he
    rw [hq s hsN] at h15 h14
    obtain ⟨o1, o2⟩ := sAl_1415 (hs s hsN) h15 h14
    have hen := (p.2.2 e he).1
    have nn := (hs s hsN).n
    rw [qMs_eq (by omega) (p.rs (hs s hsN)), qMs_eq (by omega) (hs s hsN), qqM_b hn hen, qqM_b (by rw [p.1]; exact hn) (by rw [p.1]; exact hen)]
    have hC : ∀ j, j ≤ nC σ s - 1 → ∀ f, U f → qCp T' σ' (qMs T' σ' h) h s j f = qCp T σ (qMs T σ h) h s j f := fun j hj f hf => qCp_p p hf (fun t ht => by
      obtain ⟨t1, t2, t3, t4⟩ := o2 j (by omega) t ht
      have rt := ((hs s hsN).t (show j < nC σ s by omega)).2.2.2 t ht
      refine qTs_p p hf t2 (fun z => ?_) t1
      have i5 := rt.in56 (by omega) z
      rw [dp56 z] at t3 t4
      exact ih _ i5.1 (by omega) t3 t4 f hf)
    have rw_ := qRw_p (M := qMs T σ h) (M' := qMs T' σ' h) (h := h) (s := s) (m := nC σ s - 1) p (fun j j0 hj => ⟨(((hs s hsN).t (show j < nC σ s by omega)).2.2.1 j0).1, o1 j j0 (by omega)⟩) hC (nC σ s - 1) (Nat.le_refl _)
    unfold qSv
    rw [p.2.1 21 (by decide), p.2.1 5 (by decide), p.cc, rw_ e he, (p.2.2 e he).2.1.1]
    cases ht : TH T e with
    | none => rw [qPt_n, qPt_n]
    | some t => rw [qPt_s, qPt_s, rw_ t ((p.2.2 e he).2.2.1 t ht)]
end QC
