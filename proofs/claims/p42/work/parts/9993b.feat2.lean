section QB
variable {T : qqT} {σ σ' : mS} {h : Option Nat} {s n N b i e x k m : Nat} {M M' : Nat → Int32}
theorem qBs9_n (hz : qHs σ s k = false) : qBs9 T σ h s k e = Tmb T h e := by unfold qBs9; rw [hz, if_neg (by decide)]
theorem qBs9_in (he : e < Tn T) (hb : qBs9 T σ h s k e = true) : inT T h e := by
  unfold qBs9 at hb
  by_cases c : qHs σ s k = true
  · rw [if_pos c] at hb; exact ⟨he, Or.inr (of_decide_eq_true hb)⟩
  · rw [if_neg c] at hb; exact ⟨he, Or.inl hb⟩
theorem qMs_D0 (hw : Tw T) (hN : N ≤ 30) (hs : ∀ s, s < N → RSl σ s s) (c : bCh σ σ' x b) (hx : Tmb T h x = false) : ∀ s, s < N → σ.1 22 s = 0 → σ.1 21 s < 0 → ∀ e, e < Tn T → bt (qMs T σ' h s) e = bt (qMs T σ h s) e := by
  intro s
  induction s using Nat.strongRecOn with
  | ind s ih =>
    intro hsN h22 h21 e he
    refine qMs_b1 hN hs c hsN he hw (qSv_all hw c (hs s hsN) he (fun k hk f hf => qCp_b c (fun hb t ht => ?_)))
    have hz := (hs s hsN).2.2.2 h22 k hk
    rw [qBs9_n hz] at hb
    have fx : f ≠ x := fun z => by rw [z, hx] at hb; cases hb
    have rt := ((hs s hsN).t hk).2.2.2 t ht
    refine qTs_b rt (by omega) c (fun z => absurd z fx) (fun z => ?_) (fun z y hy => ?_)
    · have i5 := rt.in56 (by omega) z
      exact ih _ i5.1 (by omega) i5.2.1 i5.2.2 f hf
    · have i7 := rt.in7 (by omega) z
      exact ih _ i7.1 (by omega) i7.2.1 i7.2.2 y hy
theorem qCp_D0 (hw : Tw T) (hN : N ≤ 30) (hs : ∀ s, s < N → RSl σ s s) (c : bCh σ σ' x b) (hx : Tmb T h x = false) (hsN : s < N) (hk : k < nC σ s) {f : Nat} (hf : f < Tn T) (hfx : qBs9 T σ h s k f = true → f ≠ x) : qCp T σ' (qMs T σ' h) h s k f = qCp T σ (qMs T σ h) h s k f := by
  refine qCp_b c (fun hb t ht => ?_)
  have rt := ((hs s hsN).t hk).2.2.2 t ht
  refine qTs_b rt (by omega) c (fun z => absurd z (hfx hb)) (fun z => ?_) (fun z y hy => ?_)
  · have i5 := rt.in56 (by omega) z
    exact qMs_D0 hw hN hs c hx _ (by omega) i5.2.1 i5.2.2 f hf
  · have i7 := rt.in7 (by omega) z
    exact qMs_D0 hw hN hs c hx _ (by omega) i7.2.1 i7.2.2 y hy
theorem Tmb_same (hw : Tw T) {x e : Nat} (hx : x < Tn T) (he : e < Tn T) (h1 : Tmb T h x = true) (h2 : Tmb T h e = true) : TH T e = TH T x ∧ TD T e = TD T x := by
  cases h with
  | none =>
    have r1 := Tmb_R.mp h1
    have r2 := Tmb_R.mp h2
    have e1 : TH T e = TH T x := by unfold TH; rw [r1, r2]
    refine ⟨e1, ?_⟩
    rw [TD_R hw he, TD_R hw hx, r1, r2]
  | some q =>
    have r1 := Tmb_TH.mp h1
    have r2 := Tmb_TH.mp h2
    refine ⟨r2.trans r1.symm, ?_⟩
    rw [TD_eq hw he, TD_eq hw hx, r1, r2]
theorem TD_h (hw : Tw T) {e q : Nat} (he : e < Tn T) (hq : TH T e = some q) : TD T e = TD T q := by rw [TD_eq hw he, hq]
theorem Tar_1 {T : qqT} {x e : Nat} (h : TH T e = TH T x) : Tar T x e = true := by unfold Tar; rw [decide_eq_true h, Bool.true_or]
theorem Tar_2 {T : qqT} {x e : Nat} (h : TH T x = some e) : Tar T x e = true := by unfold Tar; rw [decide_eq_true h, Bool.true_or, Bool.or_true]
theorem Tar_3 {T : qqT} {x e q : Nat} (h : TH T e = some q) (h2 : TH T q = TH T x) : Tar T x e = true := by
  unfold Tar
  rw [h]
  show (_ || (_ || decide (TH T q = TH T x))) = true
  rw [decide_eq_true h2, Bool.or_true, Bool.or_true]
theorem qMs_D (hw : Tw T) (hN : N ≤ 30) (hs : ∀ s, s < N → RSl σ s s) (hq : ∀ s, s < N → Fq σ s) (c : bCh σ σ' x b) (hx : x < Tn T) (hsN : s < N) (he : e < Tn T) (ne : ¬ (Tar T x e = true ∧ TD T e = TD T x)) : bt (qMs T σ' h s) e = bt (qMs T σ h s) e := by
  have hn := (hs s hsN).n
  obtain ⟨-, -, -, q4⟩ := hq s hsN
  refine qMs_b1 hN hs c hsN he hw ?_
  by_cases mx : Tmb T h x = true
  · -- the changed one lies in the tree
    unfold qSv
    rw [c.2.1 21 (by decide), c.2.1 5 (by decide), c.cc]
    have off : ∀ f, f < Tn T → ¬ inT T h f → qRw T σ' (qMs T σ' h) h s (nC σ s - 1) f = qRw T σ (qMs T σ h) h s (nC σ s - 1) f := fun f hf hi => by
      cases h1 : qRw T σ' (qMs T σ' h) h s (nC σ s - 1) f with
      | true => exact absurd (qRw_in hf h1) hi
      | false =>
        cases h2 : qRw T σ (qMs T σ h) h s (nC σ s - 1) f with
        | true => exact absurd (qRw_in hf h2) hi
        | false => rfl
    by_cases h21 : σ.1 21 s < 0
    · rw [if_pos h21, if_pos h21]
      refine off e he (fun hi => ne ?_)
      rcases hi.2 with m | m
      · obtain ⟨a, d⟩ := Tmb_same hw hx he mx m
        exact ⟨Tar_1 a, d⟩
      · rw [m] at mx
        have := Tmb_TH.mp mx
        exact ⟨Tar_2 this, (TD_h hw hx this).symm⟩
    · rw [if_neg h21, if_neg h21]
      have h22 : σ.1 22 s = 0 := by
        obtain ⟨z, hz⟩ := (hs s hsN).2.2.1
        cases z with
        | true => exact absurd (q4 hz) h21
        | false => exact hz
      cases ht : TH T e with
      | none => rw [qPt_n, qPt_n]
      | some t =>
        have htn := (TH_lt hw ht).1
        rw [qPt_s, qPt_s]
        have offM : ¬ Tmb T h t = true → qRw T σ' (qMs T σ' h) h s (nC σ s - 1) t = qRw T σ (qMs T σ h) h s (nC σ s - 1) t := fun nm => by
          have z0 := (hs s hsN).2.2.2 h22 (nC σ s - 1) (by omega)
          have z1 : qCp T σ (qMs T σ h) h s (nC σ s - 1) t = false := by
            unfold qCp; rw [qBs9_n z0, Bool.eq_false_iff.mpr nm, Bool.false_and]
          have z2 : qCp T σ' (qMs T σ' h) h s (nC σ s - 1) t = false := by
            unfold qCp; rw [qBs9_n (by rw [c.hs]; exact z0), Bool.eq_false_iff.mpr nm, Bool.false_and]
          cases h1 : qRw T σ' (qMs T σ' h) h s (nC σ s - 1) t with
          | true => rw [qRw_cp h1] at z2; cases z2
          | false =>
            cases h2 : qRw T σ (qMs T σ h) h s (nC σ s - 1) t with
            | true => rw [qRw_cp h2] at z1; cases z1
            | false => rfl
        rw [offM (fun m => ne ?_)]
        obtain ⟨a, d⟩ := Tmb_same hw hx htn mx m
        exact ⟨Tar_3 ht a, (TD_h hw he ht).trans d⟩
  · have mx' := Bool.eq_false_iff.mpr mx
    by_cases h22 : σ.1 22 s = 0
    · exact qSv_all hw c (hs s hsN) he (fun k hk f hf => qCp_D0 hw hN hs c mx' hsN hk hf (fun hb z => by
        rw [qBs9_n ((hs s hsN).2.2.2 h22 k hk), z, mx'] at hb; cases hb))
    · have h21 : σ.1 21 s < 0 := by
        obtain ⟨z, hz⟩ := (hs s hsN).2.2.1
        cases z with
        | true => exact q4 hz
        | false => exact absurd hz h22
      by_cases hh : h = some x
      · -- the changed one is the tree's host
        have off : ∀ f, f < Tn T → ¬ inT T h f → qRw T σ' (qMs T σ' h) h s (nC σ s - 1) f = qRw T σ (qMs T σ h) h s (nC σ s - 1) f := fun f hf hi => by
          cases h1 : qRw T σ' (qMs T σ' h) h s (nC σ s - 1) f with
          | true => exact absurd (qRw_in hf h1) hi
          | false =>
            cases h2 : qRw T σ (qMs T σ h) h s (nC σ s - 1) f with
            | true => exact absurd (qRw_in hf h2) hi
            | false => rfl
        unfold qSv
        rw [c.2.1 21 (by decide), c.cc, if_pos h21, if_pos h21]
        refine off e he (fun hi => ne ?_)
        rw [hh] at hi
        rcases hi.2 with m | m
        · have := Tmb_TH.mp m
          exact ⟨Tar_3 this rfl, TD_h hw he this⟩
        · cases m
          exact ⟨Tar_1 rfl, rfl⟩
      · exact qSv_all hw c (hs s hsN) he (fun k hk f hf => qCp_D0 hw hN hs c mx' hsN hk hf (fun hb z => by
          have := (qBs9_in hf hb).2
          rw [z, mx'] at this
          rcases this with w | w
          · cases w
          · exact hh w))
theorem bit_b (hw : Tw T) (hN : N ≤ 30) (hs : ∀ s, s < N → RSl σ s s) (hq : ∀ s, s < N → Fq σ s) (c : bCh σ σ' x b) (hx : x < Tn T) (hsN : s < N) (he : e < Tn T) (hD : TD T e = true) {near far : Bool} (hn : bt (σ.1 23 s) b = true → near = true) (hf : bt (σ.1 24 s) b = true → far = true) (hm : TMf T near far x e = false) : bt (qMs T σ' h s) e = bt (qMs T σ h s) e := by
  unfold TMf at hm
  rw [Bool.or_eq_false_iff] at hm
  cases h24 : bt (σ.1 24 s) b with
  | false =>
    by_cases ex : e = x
    · refine qMs_B hw hN hs hq c true s hsN h24 (fun _ => ?_) e he (fun z => by cases z)
      cases h23 : bt (σ.1 23 s) b with
      | false => rfl
      | true =>
        rw [hn h23, decide_eq_true ex] at hm
        exact absurd hm.1 (by decide)
    · exact qMs_B hw hN hs hq c false s hsN h24 (fun z => by cases z) e he (fun _ => ex)
  | true =>
    refine qMs_D hw hN hs hq c hx hsN he (fun z => ?_)
    rw [hf h24, z.1, ← z.2, hD] at hm
    exact absurd hm.2 (by decide)
end QB
