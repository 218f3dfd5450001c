section QA
variable {T : qqT} {σ σ' : mS} {h : Option Nat} {s n N b i e x k m : Nat} {M M' : Nat → Int32}
def bCh (σ σ' : mS) (x b : Nat) : Prop := b < 14 ∧ (∀ f, f ∈ [0, 2, 5, 14, 15, 16, 17, 18, 19, 20, 21, 22, 23, 24, 25] → σ'.1 f = σ.1 f) ∧ (∀ e, e ≠ x → σ'.1 1 e = σ.1 1 e ∧ σ'.1 3 e = σ.1 3 e ∧ σ'.1 4 e = σ.1 4 e) ∧ (∀ i, i < 8 → i ≠ b → bt (σ'.1 1 x) i = bt (σ.1 1 x) i) ∧ (b ≠ 12 → σ'.1 3 x = σ.1 3 x) ∧ (b ≠ 13 → σ'.1 4 x = σ.1 4 x)
def Fq (σ : mS) (s : Nat) : Prop := σ.1 23 s = acN σ s (nC σ s) (nC σ s) ∧ σ.1 25 s = sAl σ s ∧ σ.1 24 s = (if σ.1 22 s = 1 then sAl σ s else if σ.1 21 s < 0 then acF σ s (nC σ s) (nC σ s) else sAl σ s) ∧ (σ.1 22 s = 1 → σ.1 21 s < 0)
theorem b_40960 : ∀ b, b < 14 → bt ((4096 : Int32) <<< (nI 0 &&& 31)) b = decide (b = 12) ∧ bt ((4096 : Int32) <<< (nI 1 &&& 31)) b = decide (b = 13) := by decide
theorem qTs_b (r : RTs σ n i) (hn : n ≤ 30) (c : bCh σ σ' x b) (h0 : e = x → bt (tBi σ i) b = false) (h56 : σ.1 17 i = 5 ∨ σ.1 17 i = 6 → bt (M' (tA σ i)) e = bt (M (tA σ i)) e) (h7 : σ.1 17 i = 7 → ∀ y, y < Tn T → bt (M' (tB σ i)) y = bt (M (tB σ i)) y) : qTs T σ' M' i e = qTs T σ M i e := by
  obtain ⟨b14, c1, c2, c3, c4, c5⟩ := c
  have a' : tA σ' i = tA σ i := by unfold tA; rw [c1 18 (by decide)]
  have b' : tB σ' i = tB σ i := by unfold tB; rw [c1 19 (by decide)]
  obtain ⟨k, hk, h17, s1, s2, s3, -⟩ := r
  unfold qTs
  rw [a', b', c1 17 (by decide), c1 18 (by decide), c1 19 (by decide), c1 0 (by decide), c1 2 (by decide)]
  by_cases k0 : σ.1 17 i = 0
  · rw [if_pos k0, if_pos k0]
  rw [if_neg k0, if_neg k0]
  by_cases k1 : σ.1 17 i = 1
  · rw [if_pos k1, if_pos k1]
    by_cases hx : e = x
    · subst hx
      have h0 := h0 rfl
      unfold tBi at h0
      rw [if_pos k1] at h0
      have hk1 : k = 1 := (nI_eqE (b := 1) (by omega) (by decide)).mp (h17.symm.trans k1)
      obtain ⟨a, ha, h18⟩ := s1 (Or.inr hk1)
      have ta : tA σ i = a := by unfold tA; rw [h18]; exact nI_clamp (by omega)
      rw [ta]
      refine c3 a ha (fun z => ?_)
      rw [h18, b_one (by omega) (by omega), decide_eq_true z.symm] at h0
      cases h0
    · rw [(c2 e hx).1]
  rw [if_neg k1, if_neg k1]
  by_cases k2 : σ.1 17 i = 2
  · rw [if_pos k2, if_pos k2]
  rw [if_neg k2, if_neg k2]
  by_cases k3 : σ.1 17 i = 3
  · rw [if_pos k3, if_pos k3]
    by_cases hx : e = x
    · subst hx
      have h0 := h0 rfl
      unfold tBi at h0
      rw [if_neg k1, if_neg k2, if_pos k3] at h0
      have hk3 : k = 3 := (nI_eqE (b := 3) (by omega) (by decide)).mp (h17.symm.trans k3)
      obtain ⟨⟨a, ha, h18⟩, -⟩ := s3 hk3
      rw [h18] at h0
      have hb := b_40960 b b14
      by_cases ha0 : a = 0
      · subst ha0
        rw [hb.1] at h0
        rw [c4 (of_decide_eq_false h0), h18, if_pos (show nI 0 = 0 from rfl), if_pos (show nI 0 = 0 from rfl)]
      · have : a = 1 := by omega
        subst this
        rw [hb.2] at h0
        rw [c5 (of_decide_eq_false h0), h18, if_neg (show ¬ nI 1 = 0 by decide), if_neg (show ¬ nI 1 = 0 by decide)]
    · rw [(c2 e hx).2.1, (c2 e hx).2.2]
  rw [if_neg k3, if_neg k3]
  by_cases k4 : σ.1 17 i = 4
  · rw [if_pos k4, if_pos k4]
  rw [if_neg k4, if_neg k4]
  by_cases k5 : σ.1 17 i = 5
  · rw [if_pos k5, if_pos k5, h56 (Or.inl k5)]
  rw [if_neg k5, if_neg k5]
  by_cases k6 : σ.1 17 i = 6
  · rw [if_pos k6, if_pos k6, h56 (Or.inr k6)]
  rw [if_neg k6, if_neg k6]
  by_cases k7 : σ.1 17 i = 7
  · rw [if_pos k7, if_pos k7]
    exact qAny_cg (fun y hy => by rw [h7 k7 y hy])
  rw [if_neg k7, if_neg k7]
theorem bCh.tt (c : bCh σ σ' x b) (s k : Nat) : nTt σ' s k = nTt σ s k := by unfold nTt; rw [c.2.1 16 (by decide)]
theorem bCh.cc (c : bCh σ σ' x b) (s : Nat) : nC σ' s = nC σ s := by unfold nC; rw [c.2.1 14 (by decide)]
theorem bCh.rt (c : bCh σ σ' x b) (r : RTs σ n i) : RTs σ' n i := by
  unfold RTs at r ⊢
  rw [c.2.1 17 (by decide), c.2.1 18 (by decide), c.2.1 19 (by decide), c.2.1 21 (by decide), c.2.1 22 (by decide)]
  exact r
theorem bCh.hs (c : bCh σ σ' x b) (s k : Nat) : qHs σ' s k = qHs σ s k := by unfold qHs; rw [c.tt, c.2.1 17 (by decide)]
theorem bCh.rs (c : bCh σ σ' x b) (r : RSl σ s n) : RSl σ' s n := by
  obtain ⟨⟨m, r1, r2, r3, r4⟩, r5, r6, r7⟩ := r
  refine ⟨⟨m, r1, r2, by rw [c.2.1 14 (by decide)]; exact r3, fun k hk => ?_⟩, by rw [c.2.1 21 (by decide)]; exact r5, by rw [c.2.1 22 (by decide)]; exact r6, fun z k hk => ?_⟩
  · obtain ⟨q, q1, q2, q3, q4⟩ := r4 k hk
    exact ⟨q, q1, by rw [c.2.1 16 (by decide)]; exact q2, by rw [c.2.1 15 (by decide)]; exact q3, fun t ht => c.rt (q4 t ht)⟩
  · rw [c.hs]
    rw [c.2.1 22 (by decide)] at z
    rw [c.cc] at hk
    exact r7 z k hk
theorem qCp_b (c : bCh σ σ' x b) (hT : qBs9 T σ h s k e = true → ∀ t, t < nTt σ s k → qTs T σ' M' (16 * s + 4 * k + t) e = qTs T σ M (16 * s + 4 * k + t) e) : qCp T σ' M' h s k e = qCp T σ M h s k e := by
  unfold qCp
  rw [show qBs9 T σ' h s k e = qBs9 T σ h s k e by unfold qBs9; rw [c.hs]]
  cases hb : qBs9 T σ h s k e with
  | false => rw [Bool.false_and, Bool.false_and]
  | true =>
    rw [c.tt, qAny_cg (g := fun t => !qTs T σ M (16 * s + 4 * k + t) e) (fun t ht => by rw [hT hb t ht])]
theorem qRw_b (c : bCh σ σ' x b) : ∀ k e, e < Tn T → (∀ j, j < k → ∀ f, f < Tn T → qCp T σ' M' h s j f = qCp T σ M h s j f) → qCp T σ' M' h s k e = qCp T σ M h s k e → qRw T σ' M' h s k e = qRw T σ M h s k e := by
  intro k
  induction k with
  | zero => intro e he _ h0; exact h0
  | succ k ih =>
    intro e he hj hk
    show (qCp T σ' M' h s (k + 1) e && qAny (fun f => qRw T σ' M' h s k f && Trl T (cO σ' s (k + 1)) e f) (Tn T)) = (qCp T σ M h s (k + 1) e && qAny (fun f => qRw T σ M h s k f && Trl T (cO σ s (k + 1)) e f) (Tn T))
    rw [hk, show cO σ' s (k + 1) = cO σ s (k + 1) by unfold cO; rw [c.2.1 15 (by decide)]]
    refine congrArg _ (qAny_cg (fun f hf => ?_))
    rw [ih f hf (fun j hj' => hj j (by omega)) (hj k (by omega) f hf)]
theorem orF_no {f : Nat → Int32} {n i : Nat} (h : bt (orF f n) i = false) : ∀ k, k < n → bt (f k) i = false := fun k hk => by
  cases hb : bt (f k) i with
  | false => rfl
  | true => rw [(orF_bt f i n).mpr ⟨k, hk, hb⟩] at h; cases h
theorem or_no {x y : Int32} {i : Nat} (h : bt (x ||| y) i = false) : bt x i = false ∧ bt y i = false := by rw [b_or, Bool.or_eq_false_iff] at h; exact h
theorem sAl_no (h : bt (sAl σ s) b = false) : ∀ k, k < nC σ s → ∀ t, t < nTt σ s k → bt (tBi σ (16 * s + 4 * k + t)) b = false ∧ bt (tDp σ (16 * s + 4 * k + t)) b = false := fun k hk t ht => by
  have h1 := (or_no (orF_no (show bt (orF _ _) b = false from h) k hk)).2
  exact or_no (or_no (show bt ((_ ||| _) ||| _) b = false from orF_no h1 t ht)).1
theorem RTs.in56 (r : RTs σ n i) (hn : n ≤ 30) (h : σ.1 17 i = 5 ∨ σ.1 17 i = 6) : tA σ i < n ∧ σ.1 22 (tA σ i) = 0 ∧ σ.1 21 (tA σ i) < 0 := by
  obtain ⟨k, hk, h17, -, -, -, s5, -⟩ := r
  have : k = 5 ∨ k = 6 := h.imp (fun z => (nI_eqE (b := 5) (by omega) (by decide)).mp (h17.symm.trans z)) (fun z => (nI_eqE (b := 6) (by omega) (by decide)).mp (h17.symm.trans z))
  obtain ⟨a, ha, h18, h22, h21⟩ := s5 this
  have ta : tA σ i = a := by unfold tA; rw [h18]; exact nI_clamp (by omega)
  rw [ta]; exact ⟨ha, h22, h21⟩
theorem RTs.in7 (r : RTs σ n i) (hn : n ≤ 30) (h : σ.1 17 i = 7) : tB σ i < n ∧ σ.1 22 (tB σ i) = 0 ∧ σ.1 21 (tB σ i) < 0 := by
  obtain ⟨k, hk, h17, -, -, -, -, s7⟩ := r
  obtain ⟨-, a, ha, h18, h22, h21⟩ := s7 ((nI_eqE (b := 7) (by omega) (by decide)).mp (h17.symm.trans h))
  have ta : tB σ i = a := by unfold tB; rw [h18]; exact nI_clamp (by omega)
  rw [ta]; exact ⟨ha, h22, h21⟩
theorem dp56 (h : σ.1 17 i = 5 ∨ σ.1 17 i = 6) : tDp σ i = σ.1 25 (tA σ i) := by unfold tDp; rw [if_pos h]
theorem dp7 (h : σ.1 17 i = 7) : tDp σ i = σ.1 25 (tB σ i) := by unfold tDp; rw [if_neg (by rw [h]; decide), if_pos h]
theorem qMs_b1 (hN : N ≤ 30) (hs : ∀ s, s < N → RSl σ s s) (c : bCh σ σ' x b) (hsN : s < N) (he : e < Tn T) (hw : Tw T) (hv : qSv T σ' (qMs T σ' h) h s e = qSv T σ (qMs T σ h) h s e) : bt (qMs T σ' h s) e = bt (qMs T σ h s) e := by
  have h30 := hw.n30
  rw [qMs_eq (by omega) (c.rs (hs s hsN)), qMs_eq (by omega) (hs s hsN), qqM_b h30 he, qqM_b h30 he, hv]
theorem qSv_all (hw : Tw T) (c : bCh σ σ' x b) (r : RSl σ s n) (he : e < Tn T) (hC : ∀ k, k < nC σ s → ∀ f, f < Tn T → qCp T σ' M' h s k f = qCp T σ M h s k f) : qSv T σ' M' h s e = qSv T σ M h s e := by
  have hn := r.n
  unfold qSv
  rw [c.2.1 21 (by decide), c.2.1 5 (by decide), c.cc]
  have key : ∀ f, f < Tn T → qRw T σ' M' h s (nC σ s - 1) f = qRw T σ M h s (nC σ s - 1) f := fun f hf => qRw_b c _ f hf (fun j hj f hf => hC j (by omega) f hf) (hC _ (by omega) f hf)
  rw [key e he]
  cases ht : TH T e with
  | none => rw [qPt_n, qPt_n]
  | some t => rw [qPt_s, qPt_s, key t (TH_lt hw ht).1]
theorem qMs_A (hw : Tw T) (hN : N ≤ 30) (hs : ∀ s, s < N → RSl σ s s) (hq : ∀ s, s < N → Fq σ s) (c : bCh σ σ' x b) : ∀ s, s < N → bt (σ.1 25 s) b = false → ∀ e, e < Tn T → bt (qMs T σ' h s) e = bt (qMs T σ h s) e := by
  intro s
  induction s using Nat.strongRecOn with
  | ind s ih =>
    intro hsN h25 e he
    rw [(hq s hsN).2.1] at h25
    refine qMs_b1 hN hs c hsN he hw (qSv_all hw c (hs s hsN) he (fun k hk f hf => qCp_b c (fun _ t ht => ?_)))
    obtain ⟨n1, n2⟩ := sAl_no h25 k hk t ht
    have rt := ((hs s hsN).t hk).2.2.2 t ht
    refine qTs_b rt (by omega) c (fun _ => n1) (fun z => ?_) (fun z y hy => ?_)
    · have i5 := rt.in56 (by omega) z
      exact ih _ i5.1 (by omega) (by rw [dp56 z] at n2; exact n2) f hf
    · have i7 := rt.in7 (by omega) z
      exact ih _ i7.1 (by omega) (by rw [dp7 z] at n2; exact n2) y hy
theorem acF_no (h : bt (acF σ s m m) b = false) : ∀ k, k < m → ∀ t, t < nTt σ s k → bt (frC σ (decide (k + 1 = m)) (16 * s + 4 * k + t)) b = false := fun k hk t ht => orF_no (orF_no (show bt (orF _ _) b = false from h) k hk) t ht
theorem acN_no (h : bt (acN σ s m m) b = false) : ∀ k, k < m → ∀ t, t < nTt σ s k → bt (nrC σ (decide (k + 1 = m)) (16 * s + 4 * k + t)) b = false := fun k hk t ht => orF_no (orF_no (show bt (orF _ _) b = false from h) k hk) t ht
theorem qSv_last (c : bCh σ σ' x b) (r : RSl σ s n) (he : e < Tn T) (h21 : σ.1 21 s < 0) (hC : ∀ k, k + 1 < nC σ s → ∀ f, f < Tn T → qCp T σ' M' h s k f = qCp T σ M h s k f) (hl : qCp T σ' M' h s (nC σ s - 1) e = qCp T σ M h s (nC σ s - 1) e) : qSv T σ' M' h s e = qSv T σ M h s e := by
  unfold qSv
  rw [c.2.1 21 (by decide), c.cc, if_pos h21, if_pos h21]
  exact qRw_b c _ e he (fun j hj f hf => hC j (by omega) f hf) hl
theorem frC_0 (h : bt (frC σ false i) b = false) : bt (tBi σ i) b = false ∧ bt (tDp σ i) b = false := or_no (show bt (tBi σ i ||| tDp σ i) b = false from h)
theorem qMs_B (hw : Tw T) (hN : N ≤ 30) (hs : ∀ s, s < N → RSl σ s s) (hq : ∀ s, s < N → Fq σ s) (c : bCh σ σ' x b) (nx : Bool) : ∀ s, s < N → bt (σ.1 24 s) b = false → (nx = true → bt (σ.1 23 s) b = false) → ∀ e, e < Tn T → (nx = false → e ≠ x) → bt (qMs T σ' h s) e = bt (qMs T σ h s) e := by
  intro s
  induction s using Nat.strongRecOn with
  | ind s ih =>
    intro hsN h24 h23 e he hx
    obtain ⟨q1, q2, q3, q4⟩ := hq s hsN
    have viaA : bt (sAl σ s) b = false → bt (qMs T σ' h s) e = bt (qMs T σ h s) e := fun z => qMs_A hw hN hs hq c s hsN (by rw [q2]; exact z) e he
    by_cases c22 : σ.1 22 s = 1
    · rw [q3, if_pos c22] at h24; exact viaA h24
    by_cases c21 : σ.1 21 s < 0
    · rw [q3, if_neg c22, if_pos c21] at h24
      have hn := (hs s hsN).n
      refine qMs_b1 hN hs c hsN he hw (qSv_last c (hs s hsN) he c21 (fun k hk f hf => qCp_b c (fun _ t ht => ?_)) (qCp_b c (fun _ t ht => ?_)))
      · have n0 := acF_no h24 k (by omega) t ht
        rw [decide_eq_false (show ¬ k + 1 = nC σ s by omega)] at n0
        obtain ⟨n1, n2⟩ := frC_0 n0
        have rt := ((hs s hsN).t (show k < nC σ s by omega)).2.2.2 t ht
        refine qTs_b rt (by omega) c (fun _ => n1) (fun z => ?_) (fun z y hy => ?_)
        · have i5 := rt.in56 (by omega) z
          exact qMs_A hw hN hs hq c _ (by omega) (by rw [dp56 z] at n2; exact n2) f hf
        · have i7 := rt.in7 (by omega) z
          exact qMs_A hw hN hs hq c _ (by omega) (by rw [dp7 z] at n2; exact n2) y hy
      · have n0 := acF_no h24 (nC σ s - 1) (by omega) t ht
        rw [decide_eq_true (show nC σ s - 1 + 1 = nC σ s by omega)] at n0
        have n0 : bt (tFr σ (16 * s + 4 * (nC σ s - 1) + t)) b = false := n0
        have m0 : nx = true → bt (tNr σ (16 * s + 4 * (nC σ s - 1) + t)) b = false := fun z => by
          have := h23 z
          rw [q1] at this
          have := acN_no this (nC σ s - 1) (by omega) t ht
          rw [decide_eq_true (show nC σ s - 1 + 1 = nC σ s by omega)] at this
          exact this
        have rt := ((hs s hsN).t (show nC σ s - 1 < nC σ s by omega)).2.2.2 t ht
        refine qTs_b rt (by omega) c (fun z => ?_) (fun z => ?_) (fun z y hy => ?_)
        · cases nx with
          | false => exact absurd z (hx rfl)
          | true => exact (or_no (show bt (tBi σ _ ||| _) b = false from m0 rfl)).1
        · have i5 := rt.in56 (by omega) z
          unfold tFr at n0
          by_cases cn : tNs σ (16 * s + 4 * (nC σ s - 1) + t) = true
          · rw [if_pos cn] at n0
            refine ih _ i5.1 (by omega) n0 (fun w => ?_) e he hx
            have := (or_no (show bt (_ ||| _) b = false from m0 w)).2
            rw [if_pos cn] at this
            exact this
          · rw [if_neg cn, dp56 z] at n0
            exact qMs_A hw hN hs hq c _ (by omega) n0 e he
        · have i7 := rt.in7 (by omega) z
          have : tNs σ (16 * s + 4 * (nC σ s - 1) + t) = false := by
            unfold tNs
            rw [z]; rfl
          unfold tFr at n0
          rw [this, if_neg (by decide), dp7 z] at n0
          exact qMs_A hw hN hs hq c _ (by omega) n0 y hy
    · rw [q3, if_neg c22, if_neg c21] at h24; exact viaA h24
end QA
