def xtP (k i j : Nat) : Prop := (k = 0 ∧ (j = 5 ∨ j = 7 ∨ j = 14)) ∨ (k = 1 ∧ j = 12) ∨ (k = 50 ∧ (j = 2 ∨ j = 3)) ∨ (k = 6 ∧ (j = 1 ∨ j = 4)) ∨ k = 10 ∨ (k = 49 ∧ i = 0 ∧ j = 10)
def xtR (k _i j : Nat) : Prop := k = 0 ∧ 8 ≤ j ∧ j ≤ 17
def xtL : List Nat := [4, 6, 7, 8, 9, 10, 11, 12, 55]
section TR1
variable {T T' : qqT} {G : qqG} {L : qqL} {A A' : kA} {ex ex' : Nat → Nat → Prop} {K K' : kS} {S S' : cS} {σ σ' : mS} {v v' : Nat}
theorem TB_up (hw : Tw T) : ∀ e, e < Tn T → ∀ q, Tup T e = some q → TB T q e = true := by
  have TBt : ∀ {x e : Nat}, TB T x e = true → ∀ w, w < Tn T → TB T e w = true → TB T x w = true := fun hx w hwn hb => TB_tr hw hx w hwn hb
  have key : ∀ m e, e < Tn T → (TC T e).1 < m → (∀ q, Tup T e = some q → TB T q e = true) ∧ ∀ h, TH T e = some h → TB T h e = true := by
    intro m
    induction m with
    | zero => intro e _ h; omega
    | succ m ih =>
      intro e he hm
      have up1 : ∀ q, Tup T e = some q → TB T q e = true := by
        intro q hq
        cases hs : Tsp T e with
        | none =>
          exfalso
          rcases Tup_cases hw hq with h | ⟨-, h⟩
          · rw [Tsp_p hw h] at hs
            by_cases c : Ts T q = true
            · rw [if_pos c] at hs
              cases hsl : Tslot T q (Ta T e) with
              | none => rw [hsl] at hs; cases hs
              | some s => rw [hsl] at hs; cases hs
            · rw [if_neg c] at hs; cases hs
          · rw [Tsp_h h] at hs; cases hs
        | some s =>
          obtain ⟨-, hsn, hc⟩ := Tsp_cases hw hs
          have hms := Tsp_m hw hs
          rcases hc with h | h | ⟨p, h1, h2, h3, -⟩
          · have : Tup T e = some s := Tup_h hw h
            rw [this] at hq; cases hq
            exact (TB_sp hw he hs).1
          · have : Tup T e = some s := Tup_p h
            rw [this] at hq; cases hq
            exact (TB_sp hw he hs).1
          · have : Tup T e = some p := Tup_p h1
            rw [this] at hq; cases hq
            exact (TB_sp hw he hs).2 q ((ih s hsn (by omega)).2 q h3)
      refine ⟨up1, fun h hh => ?_⟩
      cases hp : Tp T e with
      | none =>
        rw [TH_n hw he hp] at hh
        exact up1 h (Tup_h hw hh)
      | some p =>
        rw [TH_p hw hp] at hh
        have hpn := (hw.p hp).2.1
        have hb := up1 p (Tup_p hp)
        have hm2 := (TB_n hw e he hb).2
        exact TBt ((ih p hpn (by omega)).2 h hh) e he hb
  intro e he
  exact (key ((TC T e).1 + 1) e he (by omega)).1
theorem TD_up (hw : Tw T) {e q : Nat} (hq : Tup T e = some q) : TD T e = TD T q := by
  obtain ⟨he, hqn⟩ := hw.up hq
  have hb := TB_up hw e he q hq
  exact TB_D hw e he hb
theorem TD_n (hw : Tw T) {e : Nat} (he : e < Tn T) (hq : Tup T e = none) : TD T e = decide (e = 0) := by
  have hp : Tp T e = none := by
    cases h : Tp T e with
    | none => rfl
    | some p => rw [Tup_p h] at hq; cases hq
  have hh : Th T e = none := by
    unfold Tup at hq
    rw [hp] at hq; exact hq
  rw [TD_eq hw he, TH_n hw he hp, hh, TR_n hw he hp]
theorem idx_app {A0 R : List Nat} {x : Nat} (hn : (A0 ++ x :: R).Nodup) : (A0 ++ x :: R).idxOf x = A0.length := by
  have hl : A0.length < (A0 ++ x :: R).length := by rw [List.length_append]; show _ < _ + (R.length + 1); omega
  have hg : (A0 ++ x :: R)[A0.length] = x := by
    rw [List.getElem_append_right (Nat.le_refl _)]; simp
  have := List.Nodup.idxOf_getElem hn A0.length hl
  rw [hg] at this
  exact this
theorem KR.lay (hw' : Tw T') (r : KR T K) (hn : Tn T' = Tn T) (l : KL T' K') (o : ∀ e, TD T' e = false → K'.2 0 e 17 = K.2 0 e 17) : KR T' K' := by
  obtain ⟨ρ, hρ⟩ := r
  have hnd := Tord_nodup hw'
  have hlen := Tord_len hw'
  refine ⟨fun e => if TD T' e = true then 30 - (Tord T').idxOf e else 100 + ρ e, fun e he => ?_⟩
  cases hd : TD T' e with
  | false =>
    rw [o e hd]
    rcases hρ e (by omega) with h | ⟨f, h, hf, hr⟩
    · exact Or.inl h
    · refine Or.inr ⟨f, h, by omega, ?_⟩
      show (if TD T' f = true then 30 - (Tord T').idxOf f else 100 + ρ f) < (if TD T' e = true then 30 - (Tord T').idxOf e else 100 + ρ e)
      rw [hd, if_neg (show ¬ false = true by decide)]
      by_cases c : TD T' f = true
      · rw [if_pos c]; omega
      · rw [if_neg c]; omega
  | true =>
    obtain ⟨A0, R, ho⟩ := List.append_of_mem (Tord_mem hw' e he hd)
    have c := chS_ro (l.at hw' ho)
    cases R with
    | nil => exact Or.inl c
    | cons f R =>
      have hf := Tord_is hw' (show f ∈ Tord T' by rw [ho]; simp)
      refine Or.inr ⟨f, c, hf.1, ?_⟩
      show (if TD T' f = true then 30 - (Tord T').idxOf f else 100 + ρ f) < (if TD T' e = true then 30 - (Tord T').idxOf e else 100 + ρ e)
      rw [if_pos hf.2, if_pos hd]
      have e1 : (Tord T').idxOf e = A0.length := by rw [ho]; exact idx_app (by rw [← ho]; exact hnd)
      have e2 : (Tord T').idxOf f = (A0 ++ [e]).length := by
        have ho' : Tord T' = (A0 ++ [e]) ++ f :: R := by rw [ho]; simp
        rw [ho']; exact idx_app (by rw [← ho']; exact hnd)
      rw [ho] at hlen
      rw [e1, e2]
      rw [List.length_append] at hlen ⊢
      have : (e :: f :: R).length = R.length + 2 := rfl
      have : [e].length = 1 := rfl
      omega
theorem J0.tr (hw : Tw T) (hw' : Tw T') (j : J0 T G L ex K σ v) (hn : Tn T' = Tn T) (hsh : ∀ e, Ts T e = true → Ts T' e = true) (b : kB xtP xtR K K') (q : KQ T' ex K') (ke : KE T' K' σ') (hv : v + 1 < 2 ^ 31) (h3 : K'.1 50 0 3 = nI (v + 1)) (lsk : ∀ e, e < Tn T → LSk T' K K' e) (sb : sB xtL [48, 49] σ σ') (rt : RT T' σ') (fr2 : ∀ e, Tn T ≤ e → e < 30 → Ts T' e = false ∧ σ'.1 4 e = -1)
    (h48 : ∀ e, e < 32 → bt (σ'.2 48) e = (bt (σ.2 48) e && (decide (e < Tn T) && TD T' e))) (h55 : ∀ e p, e < 30 → p < 5 → σ'.1 55 (5 * e + p) = if (decide (e < Tn T) && TD T' e) = true then σ.1 55 (5 * e + p) else -1)
    (mk : mkD T' σ' ∧ ∀ e, e < Tn T → TD T' e = true → bt (K'.1 49 0 10) e = bt (σ'.2 49) e) : J0 T' G L ex K' σ' (v + 1) := by
  have h30 := hw.n30
  obtain ⟨t, ⟨c1, c2, c3, c4, c5⟩, an, va, mk0, ⟨m, s26⟩, d, fr⟩ := j
  have oI : ∀ k i j, ¬ xtP k i j → K'.1 k i j = K.1 k i j := b.1
  have oR : ∀ k i j, ¬ xtR k i j → K'.2 k i j = K.2 k i j := b.2
  have o1 : ∀ f, f ∉ xtL → σ'.1 f = σ.1 f := sb.1
  have o2 : ∀ f, f ∉ [48, 49] → σ'.2 f = σ.2 f := sb.2
  have vr : ∀ a, VR T' G a → VR T G a := fun a ha => by unfold VR at ha ⊢; rw [hn] at ha; exact ha
  have rnw : RNw σ' := by
    obtain ⟨nw, w1, w2, w3, w4⟩ := an.2.2.1
    refine ⟨nw, w1, (o2 54 (by decide)).trans w2, fun e he => by rw [o1 59 (by decide)]; exact w3 e he, fun i hi => ?_⟩
    have := h55 (i / 5) (i % 5) (by omega) (by omega)
    rw [show 5 * (i / 5) + i % 5 = i by omega] at this
    rw [o1 56 (by decide), this]
    by_cases c : (decide (i / 5 < Tn T) && TD T' (i / 5)) = true
    · rw [if_pos c]; exact w4 i hi
    · rw [if_neg c]; exact Or.inl rfl
  refine ⟨⟨q, fun e he => ?_, ke, rt⟩, ⟨?_, ?_, fun a ha => ?_, fun a ha => c4.cg (fun f hf => o1 f (by revert f; decide)) a (vr a ha), ?_⟩, ⟨an.1.cg (fun f hf => o1 f (by revert f; decide)), (an.2.1.keep b (fun i j => ⟨by unfold xtP; omega, by unfold xtP; omega, by unfold xtP; omega⟩)).cg (fun f hf => o1 f (by revert f; decide)), rnw, by rw [o2 54 (by decide), oI _ _ _ (by unfold xtP; omega)]; exact an.2.2.2.1, ?_, an.2.2.2.2.2.kp b (fun k i j z => by unfold xtP at z; unfold dNI; omega) (fun k i j z => by unfold xtR at z; unfold dNR; omega)⟩, ⟨fun e he => ?_, fun e he hb p hp => ?_, fun e he hnd => ?_, fun e he hd => ?_⟩, ⟨mk.1, fun e he hd => mk.2 e (by omega) hd, ?_, ?_, ?_⟩, ⟨m.up b (fun k i j z => by unfold xtP at z; omega) (fun k i j z => by unfold xtR at z; omega) hv h3 (by omega) (by omega) (fun f hf => o1 f (by revert f; decide)), by rw [o2 26 (by decide)]; exact s26⟩, (d.kp b (fun k i j z => by unfold xtP at z; omega) (fun k i j z => by unfold xtR at z; omega)).cg (fun f hf => o1 f (by revert f; decide)), ?_⟩
  · rw [oR _ _ _ (by unfold xtR; omega), oR _ _ _ (by unfold xtR; omega), oR _ _ _ (by unfold xtR; omega)]
    exact t.2.1 e (by omega)
  · obtain ⟨a1, a2, a3, a4, a5, a6, a7⟩ := c1
    rw [← hn] at a3
    refine ⟨(o2 31 (by decide)).trans a1, a2, fun k hk => ?_, (o2 36 (by decide)).trans a4, a5, fun r hr => ?_, a7⟩
    · obtain ⟨y1, y2, y3⟩ := a3 k hk
      rw [o1 28 (by decide), o1 27 (by decide), o1 29 (by decide), o1 30 (by decide)]
      exact ⟨y1, fun h hh => ⟨(y2 h hh).1, hsh h (y2 h hh).2⟩, y3⟩
    · rw [o1 32 (by decide), o1 33 (by decide)]; exact a6 r hr
  · have kc := (c2.kp b (fun k i j z => by unfold xtP at z; unfold dCI; omega) (fun k i j z => by unfold xtR at z; unfold dCR; omega)).cg (σ' := σ') (fun f hf => o1 f (by revert f; decide)) (fun f hf => o2 f (by revert f; decide))
    obtain ⟨k1, k2, k3, k4, k5⟩ := kc
    exact ⟨k1, k2, fun e he => k3 e (by omega), k4, k5⟩
  · exact ((c3 a (vr a ha)).kp b (fun k i j z => by unfold xtP at z; unfold dCI; omega)).cg (fun f hf => o1 f (by revert f; decide))
  · exact (c5.kp b (fun k i j z => by unfold xtP at z; unfold dCI; omega)).cg (fun f hf => o1 f (by revert f; decide))
  · obtain ⟨l1, l2, l3⟩ := an.2.2.2.2.1
    refine ⟨(o2 70 (by decide)).trans l1, l2, fun k hk => ?_⟩
    rw [o1 65 (by decide), o1 66 (by decide), o1 67 (by decide), o1 68 (by decide), hn]
    exact l3 k hk
  · have he' : e < Tn T := by omega
    obtain ⟨r1, r2, r3, r4, r5, r6⟩ := va.1 e he'
    obtain ⟨s1, s2⟩ := lsk e he'
    have k7 : ∀ p, K'.1 7 e p = K.1 7 e p := fun p => oI _ _ _ (by unfold xtP; omega)
    have hb := h48 e (by omega)
    rw [decide_eq_true he', Bool.true_and] at hb
    have h55' : ∀ p, p < 5 → σ'.1 55 (5 * e + p) = if TD T' e = true then σ.1 55 (5 * e + p) else -1 := fun p hp => by
      have := h55 e p (by omega) hp
      rw [decide_eq_true he', Bool.true_and] at this
      exact this
    have r1 := vEqv_w.mp r1
    refine ⟨vEqv_w.mpr ⟨⟨fun p hp => ?_, fun v hv => ?_⟩, ?_⟩, fun p hp => ?_, fun p hp => ?_, fun hbe => ?_, fun p hp => ?_, ?_⟩
    · rw [k7, o1 43 (by decide)]; exact r1.1.1 p hp
    · rw [k7, o1 44 (by decide), o1 45 (by decide)]; exact r1.1.2 v hv
    · rw [oI 6 e 2 (by unfold xtP; omega), o1 43 (by decide), o1 46 (by decide)]; exact r1.2
    · unfold tEq
      rw [h55' p hp, oI 9 e p (by unfold xtP; omega), oI 8 e p (by unfold xtP; omega), o1 56 (by decide), o1 57 (by decide), o1 58 (by decide), o1 43 (by decide)]
      cases hd : TD T' e with
      | true =>
        rw [if_pos rfl, (s1 hd).2.2 p]; exact r2 p hp
      | false =>
        rw [if_neg (by decide)]
        exact Or.inl ⟨rfl, (s2 hd).2.2 p hp⟩
    · rw [oI 6 e 3 (by unfold xtP; omega), o1 47 (by decide)]; exact r3 p hp
    · rw [hb, Bool.and_eq_true] at hbe
      obtain ⟨p1, p2⟩ := r4 hbe.1
      refine ⟨fun k hk => ?_, ?_⟩
      · unfold qPy at hk
        rw [o1 43 (by decide)] at hk
        rw [oI 6 e 8 (by unfold xtP; omega), o1 59 (by decide)]
        exact p1 k hk
      · rw [o1 43 (by decide), o1 46 (by decide)]; exact p2
    · rw [o1 43 (by decide)]; exact r5 p hp
    · rw [hb]
      cases hd : TD T' e with
      | true => rw [(s1 hd).1, r6, Bool.and_true]
      | false => rw [(s2 hd).1, Bool.and_false]; rfl
  · have he' : e < Tn T := by omega
    have := h55 e p (by omega) hp
    rw [this]
    rw [h48 e (by omega)] at hb
    by_cases c : (decide (e < Tn T) && TD T' e) = true
    · rw [if_pos c]
      rw [c, Bool.and_true] at hb
      exact va.2.1 e he' hb p hp
    · rw [if_neg c]
  · rw [h48 e he]
    by_cases c : e < Tn T
    · have : TD T' e = false := by
        cases hd : TD T' e with
        | false => rfl
        | true => exact absurd ⟨by omega, hd⟩ hnd
      rw [this, Bool.and_false, Bool.and_false]
    · rw [decide_eq_false c, Bool.false_and, Bool.and_false]
  · exact ((lsk e (by omega)).2 hd).2.1
  · rw [oI _ _ _ (by unfold xtP; omega), o2 51 (by decide)]; exact mk0.2.2.1
  · rw [oI _ _ _ (by unfold xtP; omega), o2 52 (by decide)]; exact mk0.2.2.2.1
  · rw [oI _ _ _ (by unfold xtP; omega), o2 53 (by decide)]; exact mk0.2.2.2.2
  · obtain ⟨⟨d1, d2, d3, d4, d5, d6⟩, d7, d8, d9⟩ := fr
    refine ⟨⟨fun k e h1 h2 => d1 k e h1 (by omega), d2, d3, d4, by rw [nC_cg (o1 14 (by decide))]; exact d5, d6⟩, fun e he he30 => ?_, fun a ha hv => ?_, fun r h1 h2 => by rw [o1 35 (by decide)]; exact d9 r h1 h2⟩
    · rw [hn] at he
      obtain ⟨f1, f2, f3, f4, f5, f6, f7, f8, f9⟩ := d7 e he he30
      obtain ⟨g1, g2⟩ := fr2 e he he30
      rw [o1 1 (by decide), o1 2 (by decide), o1 3 (by decide), o1 5 (by decide), o1 43 (by decide), o1 44 (by decide), o1 45 (by decide), o1 47 (by decide)]
      refine ⟨g1, f2, f3, f4, g2, f6, f7, f8, fun p hp => ⟨(f9 p hp).1, ?_⟩⟩
      rw [h55 e p he30 hp, decide_eq_false (by omega), Bool.false_and, if_neg (by decide)]
    · rw [o1 37 (by decide)]
      refine d8 a ha (fun z => hv ?_)
      unfold VR at z ⊢
      rw [hn]; exact z
end TR1
