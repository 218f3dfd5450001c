section QI
variable {mm : Nat × Nat × Nat}
variable {T T' : qqT} {G G' : qqG} {σ σ' σ1 : mS} {hl dr dr' hl' : Bool} {e k n x b N s : Nat} {h : Option Nat}
theorem mAll (hw : Tw T) (rt : RT T σ') (e : f_markAll σ1 = some σ') : σ' = sf σ1 49 (qqM (TD T) (Tn T)) := by
  have e1 : ∃ w, f_docMask σ1 = some w ∧ σ' = sf σ1 49 w := by
    unfold f_markAll at e
    cases hd : f_docMask σ1 with
    | none => rw [hd] at e; cases e
    | some w => rw [hd, qqx] at e; cases e; exact ⟨w, rfl, rfl⟩
  obtain ⟨w, h1, h2⟩ := e1
  have rt1 : RT T σ1 := by
    refine rt.sB (L1 := []) (L2 := [49]) ⟨fun f _ => ?_, fun f hf => ?_⟩ (by decide) (by decide)
    · rw [h2]; rfl
    · rw [h2, sf_o (by simpa using hf)]
  rw [r_docMask hw rt1] at h1
  cases h1
  exact h2
theorem mAll_m (hw : Tw T) : ∀ e, e < Tn T → TD T e = true → bt ((sf σ1 49 (qqM (TD T) (Tn T))).2 49) e = true := fun e he hd => by
  have := hw.n30
  rw [sf_s, qqM_bt _ _ (by omega) e (by omega), decide_eq_true he, hd]; rfl
theorem Q_cl (J : J1 T G σ) (J' : J1 T' G' σ') (q : Q k mm hl dr T G σ) (p : P_cl T G σ T' G' σ') : Q (k + 1) mm hl dr T' G' σ' := by
  obtain ⟨rfl, rfl, e, c, nv, he, hc, hb, hm⟩ := p
  have sb : sB [1] [81] σ (up (sf σ 81 0) 1 e nv) := ⟨fun f hf => by rw [up_o (by simpa using hf)]; rfl, fun f hf => by rw [up_2, sf_o (by simpa using hf)]⟩
  obtain ⟨σ2, e2, m⟩ := r_markTest J.1.1 (J.1.2.1.sB sb (by decide) (by decide)) (J.1.2.2.ru.sB sb (by decide) (by decide)) he (b := c) (by omega)
  rw [hm] at e2
  cases e2
  rw [sb.1 23 (by decide), sb.1 24 (by decide)] at m
  refine Q_feat J J' q (b := c) (by omega) he ⟨by omega, fun f hf => sb.1 f (by revert f; decide), fun y hy => ⟨by rw [up_sn hy]; rfl, by rw [sb.1 3 (by decide)], by rw [sb.1 4 (by decide)]⟩, fun i hi hne => ?_, fun _ => by rw [sb.1 3 (by decide)], fun _ => by rw [sb.1 4 (by decide)]⟩ (sb.wd (by simp) (by simp)) m
  rw [up_ss]; exact hb i (by omega) hne
theorem qMs_pt (hw : Tw T) (hN : N ≤ 30) (hs : ∀ s, s < N → RSl σ s s) (hf : ∀ f, f ∈ [0, 1, 2, 3, 4, 14, 15, 16, 17, 18, 19, 21, 22] → σ'.1 f = σ.1 f) (h5 : ∀ y, y ≠ x → σ'.1 5 y = σ.1 5 y) : ∀ s, s < N → ∀ e, e < Tn T → (σ.1 21 s < 0 ∨ e ≠ x) → bt (qMs T σ' h s) e = bt (qMs T σ h s) e := by
  have h30 := hw.n30
  have rs : ∀ s, s < N → RSl σ' s s := fun s hs' => by
    have r := hs s hs'
    have hh : ∀ k, qHs σ' s k = qHs σ s k := fun k => by unfold qHs nTt; rw [hf 16 (by decide), hf 17 (by decide)]
    have hc : nC σ' s = nC σ s := by unfold nC; rw [hf 14 (by decide)]
    have ht : ∀ i, RTs σ s i → RTs σ' s i := fun i r => by
      unfold RTs at r ⊢
      rw [hf 17 (by decide), hf 18 (by decide), hf 19 (by decide), hf 21 (by decide), hf 22 (by decide)]
      exact r
    obtain ⟨⟨m, r1, r2, r3, r4⟩, r5, r6, r7⟩ := r
    refine ⟨⟨m, r1, r2, by rw [hf 14 (by decide)]; exact r3, fun k hk => ?_⟩, by rw [hf 21 (by decide)]; exact r5, by rw [hf 22 (by decide)]; exact r6, fun z k hk => ?_⟩
    · obtain ⟨q, q1, q2, q3, q4⟩ := r4 k hk
      exact ⟨q, q1, by rw [hf 16 (by decide)]; exact q2, by rw [hf 15 (by decide)]; exact q3, fun t t2 => ht _ (q4 t t2)⟩
    · rw [hh]
      rw [hf 22 (by decide)] at z
      rw [hc] at hk
      exact r7 z k hk
  intro s
  induction s using Nat.strongRecOn with
  | ind s ih =>
    intro hsN e he hor
    have nn := (hs s hsN).n
    rw [qMs_eq (by omega) (rs s hsN), qMs_eq (by omega) (hs s hsN), qqM_b h30 he, qqM_b h30 he]
    have tt : ∀ k, nTt σ' s k = nTt σ s k := fun k => by unfold nTt; rw [hf 16 (by decide)]
    have hC : ∀ k, k < nC σ s → ∀ f, f < Tn T → qCp T σ' (qMs T σ' h) h s k f = qCp T σ (qMs T σ h) h s k f := fun k hk f hfn => by
      unfold qCp
      rw [show qBs9 T σ' h s k f = qBs9 T σ h s k f by unfold qBs9 qHs nTt; rw [hf 16 (by decide), hf 17 (by decide)], tt, qAny_cg (g := fun t => !qTs T σ (qMs T σ h) (16 * s + 4 * k + t) f) (fun t ht => ?_)]
      have rt := ((hs s hsN).t hk).2.2.2 t ht
      congr 1
      have a' : tA σ' (16 * s + 4 * k + t) = tA σ (16 * s + 4 * k + t) := by unfold tA; rw [hf 18 (by decide)]
      have b' : tB σ' (16 * s + 4 * k + t) = tB σ (16 * s + 4 * k + t) := by unfold tB; rw [hf 19 (by decide)]
      generalize 16 * s + 4 * k + t = i at rt a' b'
      unfold qTs
      rw [a', b', hf 17 (by decide), hf 18 (by decide), hf 19 (by decide), hf 0 (by decide), hf 1 (by decide), hf 2 (by decide), hf 3 (by decide), hf 4 (by decide)]
      by_cases k5 : σ.1 17 i = 5
      · have i5 := rt.in56 (by omega) (Or.inl k5)
        rw [ih _ i5.1 (by omega) f hfn (Or.inl i5.2.2)]
        rw [if_pos k5, if_pos k5]
      by_cases k6 : σ.1 17 i = 6
      · have i5 := rt.in56 (by omega) (Or.inr k6)
        rw [ih _ i5.1 (by omega) f hfn (Or.inl i5.2.2), if_neg k5, if_neg k5, if_pos k6, if_pos k6]
      by_cases k7 : σ.1 17 i = 7
      · have i7 := rt.in7 (by omega) k7
        have e7 : qAny (fun x => bt (qMs T σ' h (tB σ i)) x && Trl T (tA σ i) x f) (Tn T) = qAny (fun x => bt (qMs T σ h (tB σ i)) x && Trl T (tA σ i) x f) (Tn T) := qAny_cg (fun y hy => by rw [ih _ i7.1 (by omega) y hy (Or.inl i7.2.2)])
        rw [if_neg k5, if_neg k5, if_neg k6, if_neg k6, e7]
      · rw [if_neg k5, if_neg k5, if_neg k6, if_neg k6, if_neg k7, if_neg k7]
    have hR : ∀ k, k < nC σ s → ∀ f, f < Tn T → qRw T σ' (qMs T σ' h) h s k f = qRw T σ (qMs T σ h) h s k f := by
      intro k
      induction k with
      | zero => intro hk f hfn; exact hC 0 hk f hfn
      | succ k ihk =>
        intro hk f hfn
        show (qCp T σ' (qMs T σ' h) h s (k + 1) f && qAny (fun g => qRw T σ' (qMs T σ' h) h s k g && Trl T (cO σ' s (k + 1)) f g) (Tn T)) = (qCp T σ (qMs T σ h) h s (k + 1) f && qAny (fun g => qRw T σ (qMs T σ h) h s k g && Trl T (cO σ s (k + 1)) f g) (Tn T))
        rw [hC (k + 1) hk f hfn, show cO σ' s (k + 1) = cO σ s (k + 1) by unfold cO; rw [hf 15 (by decide)], qAny_cg (g := fun g => qRw T σ (qMs T σ h) h s k g && Trl T (cO σ s (k + 1)) f g) (fun g hg => by rw [ihk (by omega) g hg])]
    unfold qSv
    rw [hf 21 (by decide), show nC σ' s = nC σ s by unfold nC; rw [hf 14 (by decide)]]
    by_cases c21 : σ.1 21 s < 0
    · rw [if_pos c21, if_pos c21]; exact hR _ (by omega) e he
    · rw [if_neg c21, if_neg c21, h5 e (hor.resolve_left c21)]
      cases ht : TH T e with
      | none => rw [qPt_n, qPt_n]
      | some t => rw [qPt_s, qPt_s, hR _ (by omega) t (TH_lt hw ht).1]
end QI
