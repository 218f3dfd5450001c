def vEqw (K : kS) (σ : mS) (e : Nat) : Prop := (∀ p, p < 12 → K.1 7 e p = σ.1 43 (12 * e + p)) ∧ ∀ v, v < 3 → okP (σ.1 44 (3 * e + v), σ.1 45 (3 * e + v)) ∧ K.1 7 e (12 + v) = cod (σ.1 44 (3 * e + v), σ.1 45 (3 * e + v))
theorem vEqv_w {K : kS} {σ : mS} {e : Nat} : vEqv K σ false e ↔ vEqw K σ e ∧ (0 < σ.1 43 (12 * e + 6) → K.1 6 e 2 = σ.1 46 e) := by
  unfold vEqv vEqw rPr
  rw [show sar false = 0 from rfl, show skd false = 6 from rfl, ix0, ix0, Nat.mul_zero, Nat.zero_add]
  exact ⟨fun ⟨a, b, c⟩ => ⟨⟨a, b⟩, c⟩, fun ⟨⟨a, b⟩, c⟩ => ⟨a, b, c⟩⟩
def eRl (K : kS) (σ : mS) (e : Nat) : Prop := vEqv K σ false e ∧ (∀ p, p < 5 → tEq K σ e p) ∧ iEq K σ e ∧ (bt (σ.2 48) e = true → pEq K σ e ∧ (¬ 0 < σ.1 43 (12 * e + 6) → σ.1 46 e = -1)) ∧ (∀ p, p < 12 → bV (σ.1 43 (12 * e + p))) ∧ K.1 6 e 1 = b2 (bt (σ.2 48) e)
section FST
variable {T : qqT} {G : qqG} {A : kA} {ex : Nat → Nat → Prop} {K K' : kS} {S : cS} {σ σ' : mS}
theorem RC.cg (h : RC T G σ) (h1 : ∀ f, f ∈ [27, 28, 29, 30, 32, 33] → σ'.1 f = σ.1 f) (h2 : ∀ f, f ∈ [31, 36] → σ'.2 f = σ.2 f) : RC T G σ' := by
  unfold RC at h ⊢
  rw [h1 27 (by decide), h1 28 (by decide), h1 29 (by decide), h1 30 (by decide), h1 32 (by decide), h1 33 (by decide), h2 31 (by decide), h2 36 (by decide)]
  exact h
theorem KDr.cg {a : Nat} (h : KDr K σ a) (h1 : ∀ f, f ∈ [37, 38, 39, 40, 41, 42] → σ'.1 f = σ.1 f) : KDr K σ' a := by
  unfold KDr Ldc Lim at h ⊢
  rw [h1 37 (by decide), h1 38 (by decide), h1 39 (by decide), h1 40 (by decide), h1 41 (by decide), h1 42 (by decide)]
  exact h
theorem KC.cg (h : KC T G ex K σ) (h1 : ∀ f, f ∈ [20, 27, 29, 30, 34, 35] → σ'.1 f = σ.1 f) (h2 : ∀ f, f ∈ [31, 36, 50] → σ'.2 f = σ.2 f) : KC T G ex K σ' := by
  unfold KC at h ⊢
  rw [h1 20 (by decide), h1 27 (by decide), h1 29 (by decide), h1 30 (by decide), h1 34 (by decide), h1 35 (by decide), h2 31 (by decide), h2 36 (by decide), h2 50 (by decide)]
  exact h
theorem KPr.cg (h : KPr T G K σ) (h1 : ∀ f, f ∈ [30, 74] → σ'.1 f = σ.1 f) : KPr T G K σ' := by
  unfold KPr Lst at h ⊢
  rw [h1 30 (by decide), h1 74 (by decide)]
  exact h
theorem KW.cg (h : KW T G ex K σ) (h1 : ∀ f, f ∈ [20, 27, 28, 29, 30, 32, 33, 34, 35, 37, 38, 39, 40, 41, 42, 74] → σ'.1 f = σ.1 f) (h2 : ∀ f, f ∈ [31, 36, 50] → σ'.2 f = σ.2 f) : KW T G ex K σ' := ⟨h.1.cg (fun f hf => h1 f (by revert f; decide)) (fun f hf => h2 f (by revert f; decide)), h.2.1, h.2.2.1, h.2.2.2.1, h.2.2.2.2.1.cg (fun f hf => h1 f (by revert f; decide)) h2, h.2.2.2.2.2.1.cg (fun f hf => h1 f (by revert f; decide)), fun a ha => (h.2.2.2.2.2.2 a ha).cg (fun f hf => h1 f (by revert f; decide))⟩
theorem KX.cg (h : KX T G A ex K σ) (h1 : ∀ f, f ∈ [20, 27, 28, 29, 30, 32, 33, 34, 35, 37, 38, 39, 40, 41, 42, 74] → σ'.1 f = σ.1 f) (h2 : ∀ f, f ∈ [31, 36, 50] → σ'.2 f = σ.2 f) : KX T G A ex K σ' := ⟨h.1.cg h1 h2, h.2.1, h.2.2.1, h.2.2.2.cg (fun f hf => h1 f (by revert f; decide))⟩
theorem TB_ne (hw : Tw T) {x e : Nat} (he : e < Tn T) (h : TB T x e = true) : x < Tn T ∧ x ≠ e := by
  have := TB_n hw e he h
  exact ⟨this.1, fun z => by rw [z] at this; omega⟩
def RZI (e k i j : Nat) : Prop := ZI k i j ∨ (k = 6 ∧ i = e ∧ j = 2)
theorem c_renewSize (hw : Tw T) (x : KX T G A ex K σ) (h : KA A ex K S) {e : Nat} (he : e < Tn T) (hD : TD T e = true) (ve : vEqw K σ e) (ha : kAnc T K σ false e) : ∃ S' K', f_X11_renewSize (A 49 0) (some (A 0 e)) S = some (b2 (decide (qSize T G σ 0 e ≠ K.1 6 e 2)), S') ∧ KA A ex K' S' ∧ kB (RZI e) ZR K K' ∧ K'.1 6 e 2 = qSize T G σ 0 e := by
  have h30 := hw.n30
  have t := x.1.2.1
  have p9 := x.1.2.2.1
  have x6 : ex 6 e := t.E he (by decide)
  have o9 : ∀ f, f ≠ 46 → (up σ 46 e (K.1 6 e 2)).1 f = σ.1 f := fun f hf => up_o hf
  have x' : KX T G A ex K (up σ 46 e (K.1 6 e 2)) := x.cg (fun f hf => o9 f (by revert f; decide)) (fun _ _ => rfl)
  have ve' : vEqv K (up σ 46 e (K.1 6 e 2)) false e := by
    refine vEqv_w.mpr ⟨?_, fun _ => (up_ss _ _ _ _).symm⟩
    unfold vEqw
    rw [o9 43 (by decide), o9 44 (by decide), o9 45 (by decide)]
    exact ve
  have ha' : kAnc T K (up σ 46 e (K.1 6 e 2)) false e := by
    intro y hy
    have h1 := ha y hy
    have h2 := TB_ne hw he hy
    unfold vEqv rPr at h1 ⊢
    rw [o9 43 (by decide), o9 44 (by decide), o9 45 (by decide), up_sn (by rw [show sar false = 0 from rfl]; omega)]
    exact h1
  obtain ⟨S1, K1, e1, h1, b1⟩ := c_sizeFor (G := G) hw x' h false he hD ve' ha'
  have hq : qSize T G (up σ 46 e (K.1 6 e 2)) (sar false) e = qSize T G σ 0 e := qSize_cg (fun f hf => o9 f (by revert f; decide)) rfl 0 e
  rw [hq] at e1
  have x1 := x.va b1.zq
  obtain ⟨S2, e2, h2⟩ := h1.PI (k := 6) (i := e) (t := 9) (j := 2) x6 rfl (by decide) (qSize T G σ 0 e)
  have e1' : f_X11_sizeFor (A 49 0) (some (A 0 e)) 0 S = some (qSize T G σ 0 e, S1) := e1
  refine ⟨S2, _, ?_, h2, (b1.wd (fun k i j z => Or.inl z) (fun _ _ _ z => z)).I (Or.inr ⟨rfl, rfl, rfl⟩), kwI_s _ _ _ _ _⟩
  unfold f_X11_renewSize
  rw [t.g19 h he, qqx, h.I 6 9 x6 rfl, qqx, qqx, p9.r11 h, qqx, e1', qqx, e2, qqx]
  have t2 : KT T ex (kwI K1 6 e 2 (qSize T G σ 0 e)) := x1.1.2.1.va ((kB.rf K1).I (show qOI 6 e 2 by unfold qOI; omega))
  rw [t2.g19 h2 he, qqx, h2.I 6 9 x6 rfl, qqx, kwI_s]
  by_cases c : qSize T G σ 0 e = K.1 6 e 2
  · rw [if_pos c, decide_eq_false (fun z => z c)]; rfl
  · rw [if_neg c, decide_eq_true c]; rfl
theorem qDf_tl {had : Bool} (ve : vEqw K σ 0 ∨ True) {e q : Nat} (hv : vEqw K σ e) (hq : q < 15) {I : qI} (hval : ∀ p, p < 12 → σ'.1 43 (12 * e + p) = qVl σ I p) (hvar : ∀ v, v < 3 → (σ'.1 44 (3 * e + v), σ'.1 45 (3 * e + v)) = qVr σ I v) (hok : ∀ v, v < 3 → okP (qVr σ I v)) : decide (K.1 7 e q ≠ qTl σ I q) = qDf σ σ' e q := by
  unfold qTl qDf
  by_cases c : q < 12
  · rw [if_pos c, if_pos c, hv.1 q c, hval q c]
    exact decide_eq_decide.mpr ⟨fun z w => z w.symm, fun z w => z w.symm⟩
  · rw [if_neg c, if_neg c]
    obtain ⟨h1, h2⟩ := hv.2 (q - 12) (by omega)
    rw [show 12 + (q - 12) = q by omega] at h2
    rw [h2]
    have h3 := hvar (q - 12) (by omega)
    have h4 := hok (q - 12) (by omega)
    rw [← h3] at h4 ⊢
    refine decide_eq_decide.mpr ⟨fun z => ?_, fun z w => ?_⟩
    · by_cases d : σ'.1 44 (3 * e + (q - 12)) = σ.1 44 (3 * e + (q - 12))
      · refine Or.inr (fun w => z ?_)
        rw [d, w]
      · exact Or.inl d
    · have := cod_inj h1 h4 w
      have w1 : σ.1 44 (3 * e + (q - 12)) = σ'.1 44 (3 * e + (q - 12)) := congrArg Prod.fst this
      have w2 : σ.1 45 (3 * e + (q - 12)) = σ'.1 45 (3 * e + (q - 12)) := congrArg Prod.snd this
      rcases z with z | z
      · exact z w1.symm
      · exact z w2.symm
def rsV (T : qqT) (G : qqG) (σ σ' : mS) (had : Bool) (e : Nat) : Prop := (∀ p, p < 12 → σ'.1 43 (12 * e + p) = qVl σ (rI T G σ 0 e false) p) ∧ (∀ v, v < 3 → (σ'.1 44 (3 * e + v), σ'.1 45 (3 * e + v)) = qVr σ (rI T G σ 0 e false) v) ∧
  (∀ p, p < 5 → σ'.1 47 (5 * e + p) = b2 (qIm σ (rI T G σ 0 e false) p)) ∧ σ'.1 46 e = (if 0 < σ'.1 43 (12 * e + 6) then qSize T G σ' 0 e else -1) ∧ (∀ p, p < 5 → trR σ σ' σ' had e p) ∧
  σ'.1 59 e = (if (!had || qDf σ σ' e 11) = true then (if 0 ≤ σ'.1 43 (12 * e + 11) ∧ σ'.1 43 (12 * e + 11) ≤ 3 then σ.2 54 else -1) else σ.1 59 e)
theorem rsO.v {L : qqL} {had : Bool} {e : Nat} (o : rsO T G L σ σ' had e) : rsV T G σ σ' had e := ⟨o.2.2.1, o.2.2.2.1, o.2.2.2.2.1, o.2.2.2.2.2.1, o.2.2.2.2.2.2.1, o.2.2.2.2.2.2.2.1⟩
theorem rsV.cg {σ1 : mS} {had : Bool} {e : Nat} (o : rsV T G σ σ1 had e) (h : σ'.1 = σ1.1) (h50 : σ'.2 50 = σ1.2 50) : rsV T G σ σ' had e := by
  obtain ⟨o3, o4, o5, o6, o7, o8⟩ := o
  have hd : ∀ p, qDf σ σ' e p = qDf σ σ1 e p := fun p => by unfold qDf; rw [h]
  refine ⟨by rw [h]; exact o3, by rw [h]; exact o4, by rw [h]; exact o5, ?_, fun p hp => ?_, by rw [hd, h]; exact o8⟩
  · rw [qSize_cg (fun f _ => by rw [h]) h50 0 e, h]; exact o6
  · have := o7 p hp
    have hb : qBg σ σ' had e p = qBg σ σ1 had e p := by unfold qBg; rw [h]
    unfold trR at this ⊢
    rw [hd, hb, h]
    exact this
theorem eRl_new {e : Nat} (he : e < 30) {had : Bool} (hhad : bt (σ.2 48) e = had) (r : eRl K σ e) (hn : RNw σ) (o : rsV T G σ σ' had e) (hok : ∀ v, v < 3 → okP (qVr σ (rI T G σ 0 e false) v)) (hbv : ∀ p, p < 12 → bV (σ'.1 43 (12 * e + p))) (h85 : had = true → ∀ p, p < 5 → σ.1 85 (5 * e + p) = qSeen σ e p)
    (hv : ∀ p, p < 15 → K'.1 7 e p = qTl σ (rI T G σ 0 e false) p) (hi : ∀ p, p < 15 → bt (K'.1 6 e 3) p = qIm σ (rI T G σ 0 e false) p) (hk1 : K'.1 6 e 1 = 1)
    (h8 : K'.1 6 e 8 = (if (!had || decide (K.1 7 e 11 ≠ qTl σ (rI T G σ 0 e false) 11)) = true then σ.2 54 else K.1 6 e 8))
    (ht : ∀ p, p < 5 → if (had && decide (K.1 7 e p ≠ qTl σ (rI T G σ 0 e false) p)) = true then trC σ K' e p (qTl σ (rI T G σ 0 e false) p) (qTl σ (rI T G σ 0 e false) 10) else K'.1 8 e p = K.1 8 e p ∧ K'.1 9 e p = K.1 9 e p ∧ K'.1 10 e p = K.1 10 e p)
    (hsz : 0 < σ'.1 43 (12 * e + 6) → K'.1 6 e 2 = qSize T G σ' 0 e) (h48 : bt (σ'.2 48) e = true) (htr : had = false → ∀ p, p < 5 → σ.1 55 (5 * e + p) = -1) : eRl K' σ' e := by
  obtain ⟨o3, o4, o5, o6, o7, o8⟩ := o
  obtain ⟨r1, r2, r3, r4, r5, r6⟩ := r
  have hw := (vEqv_w.mp r1).1
  generalize hI : rI T G σ 0 e false = I at o3 o4 o5 hok hv hi h8 ht
  have df : ∀ q, q < 15 → decide (K.1 7 e q ≠ qTl σ I q) = qDf σ σ' e q := fun q hq => qDf_tl (had := had) (Or.inr trivial) hw hq o3 o4 hok
  have tl : ∀ q, q < 12 → qTl σ I q = σ'.1 43 (12 * e + q) := fun q hq => by unfold qTl; rw [if_pos hq, o3 q hq]
  refine ⟨vEqv_w.mpr ⟨⟨fun p hp => by rw [hv p (by omega), tl p hp], fun v hv3 => ?_⟩, fun z => by rw [hsz z, o6, if_pos z]⟩, fun p hp => ?_, fun p hp => ?_, fun _ => ⟨?_, fun z => by rw [o6, if_neg z]⟩, hbv, by rw [hk1, h48]; rfl⟩
  · rw [o4 v hv3]
    refine ⟨hok v hv3, ?_⟩
    rw [hv (12 + v) (by omega)]
    unfold qTl
    rw [if_neg (by omega), show 12 + v - 12 = v by omega]
  · -- transitions
    have h1 := ht p hp
    have h2 := o7 p hp
    unfold trR at h2
    rw [df p (by omega)] at h1
    cases had with
    | false =>
      rw [Bool.false_and, if_neg (by decide)] at h1
      have m1 := htr rfl p hp
      have hl : K'.1 10 e p = 0 := by
        rw [h1.2.2]
        rcases r2 p hp with ⟨_, z⟩ | ⟨z, _⟩
        · exact z
        · exact absurd m1 z
      refine Or.inl ⟨?_, hl⟩
      by_cases d : qDf σ σ' e p = true
      · rw [if_pos d] at h2
        rw [h2.1]
        unfold qBg
        rw [Bool.false_and, if_neg (by decide)]
      · rw [if_neg d] at h2
        rw [h2.1, m1]
    | true =>
      rw [Bool.true_and] at h1
      by_cases d : qDf σ σ' e p = true
      · rw [if_pos d] at h1 h2
        have hbg : qBg σ σ' true e p = trB σ e p (qTl σ I p) (qTl σ I 10) := by
          unfold qBg trB
          rw [tl p (by omega), tl 10 (by decide), Bool.true_and]
          cases decide (σ'.1 43 (12 * e + p) ≠ -1000000) <;> cases decide (σ.1 43 (12 * e + p) ≠ -1000000) <;> rfl
        unfold trC at h1
        rw [← hbg] at h1
        by_cases b : qBg σ σ' true e p = true
        · rw [if_pos b] at h1 h2
          obtain ⟨a1, a2, a3⟩ := h1
          obtain ⟨c1, c2⟩ := h2
          obtain ⟨c2, c3, c4⟩ := c2 b
          refine Or.inr ⟨?_, by rw [a2, c1], by rw [a3, c2, tl 10 (by decide), tl p (by omega)], by rw [a1, c3, h85 rfl p hp], c4⟩
          rw [c1]
          obtain ⟨nw, w1, w2, -⟩ := hn
          rw [w2]
          exact fun z => by
            have := nI_pos (show nw < 2 ^ 31 by omega)
            rw [z] at this
            exact this (by decide)
        · rw [if_neg b] at h1 h2
          exact Or.inl ⟨h2.1, h1⟩
      · rw [if_neg d] at h1 h2
        obtain ⟨a1, a2, a3⟩ := h1
        obtain ⟨c1, c2, c3, c4⟩ := h2
        have same : σ'.1 43 (12 * e + p) = σ.1 43 (12 * e + p) := by
          unfold qDf at d
          rw [if_pos (by omega)] at d
          exact Decidable.not_not.mp (fun z => d (decide_eq_true z))
        unfold tEq
        rw [a1, a2, a3, c1, c2, c3, c4, same]
        exact r2 p hp
  · rw [hi p (by omega), o5 p hp]
    cases qIm σ I p <;> rfl
  · intro k hk
    rw [df 11 (by decide)] at h8
    by_cases c : (!had || qDf σ σ' e 11) = true
    · rw [if_pos c] at h8 o8
      unfold qPy at hk
      by_cases d : 0 ≤ σ'.1 43 (12 * e + 11) ∧ σ'.1 43 (12 * e + 11) ≤ 3
      · rw [if_pos d] at o8
        rw [h8, o8]
        obtain ⟨nw, w1, w2, -⟩ := hn
        rw [w2]
        exact ⟨rfl, nI_pos' (by omega)⟩
      · rw [if_neg d] at hk; cases hk
    · rw [if_neg c] at h8 o8
      have c' : had = true ∧ qDf σ σ' e 11 = false := by
        revert c
        cases had <;> cases qDf σ σ' e 11 <;> simp
      have same : σ'.1 43 (12 * e + 11) = σ.1 43 (12 * e + 11) := by
        have := c'.2
        unfold qDf at this
        rw [if_pos (by omega)] at this
        exact Decidable.not_not.mp (fun z => by rw [decide_eq_true z] at this; cases this)
      rw [h8, o8]
      refine (r4 (by rw [hhad]; exact c'.1)).1 k ?_
      unfold qPy at hk ⊢
      rw [same] at hk
      exact hk
end FST
