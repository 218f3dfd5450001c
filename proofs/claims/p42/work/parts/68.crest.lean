def KE (T : qqT) (K : kS) (σ : mS) : Prop := ∀ e, e < Tn T → K.1 0 e 1 = σ.1 0 e ∧ K.1 0 e 2 = σ.1 1 e ∧ K.1 0 e 3 = σ.1 2 e ∧ K.1 0 e 4 = σ.1 3 e ∧ K.1 0 e 5 = σ.1 4 e ∧ K.1 0 e 6 = σ.1 5 e
def qPn (T : qqT) (σ : mS) (e : Nat) : Bool := !qAny (fun p => Ldc σ p (40 + e)) 15 && !Ts T e
def qTw (T : qqT) (σ : mS) (e f : Nat) : Bool := decide (σ.1 0 e = σ.1 0 f) && (decide (σ.1 1 e = σ.1 1 f) && (decide (σ.1 2 e = σ.1 2 f) && (decide (σ.1 3 e = σ.1 3 f) && (decide (σ.1 4 e = σ.1 4 f) && (decide (σ.1 5 e = σ.1 5 f) && (decide (Tsp T e = Tsp T f) && (qPn T σ e && qPn T σ f)))))))
def lkP (T : qqT) (σ : mS) (o h : Bool) (rn : Int32) (e : Nat) : Bool := match Tpv T e with
  | none => false
  | some f => bt rn f && (!o && (!h && qTw T σ e f))
def RIc (e k i j : Nat) : Prop := AIe e k i j ∨ FI 44 0 k i j ∨ (k = 49 ∧ i = 0 ∧ (j = 12 ∨ j = 13 ∨ j = 14))
def RRc (k i j : Nat) : Prop := SR k i j ∨ FR 44 0 k i j
section CRS
variable {T : qqT} {G : qqG} {A : kA} {ex : Nat → Nat → Prop} {K K' : kS} {S : cS} {σ : mS}
theorem kDc0 {e : Nat} (d : KDr K σ (40 + e)) : (K.1 1 e 6 = 0) = (qAny (fun p => Ldc σ p (40 + e)) 15 = false) := by
  unfold KDr at d
  rw [bkr_ge (show ¬ 40 + e < 40 by omega), show 40 + e - 40 = e by omega] at d
  obtain ⟨d1, d2⟩ := d
  refine propext ⟨fun h => ?_, fun h => ?_⟩
  · refine Bool.eq_false_iff.mpr (fun z => ?_)
    obtain ⟨p, hp, hl⟩ := qAny_is.mp z
    have := (d2 p hp).1
    rw [show (1, e).1 = 1 from rfl, show ((1, e) : Nat × Nat).2 = e from rfl, h, b_0] at this
    rw [← this] at hl
    cases hl
  · apply b_ext
    intro p hp
    rw [b_0]
    by_cases c : p < 15
    · have h1 := (d2 p c).1
      refine h1.trans (Bool.eq_false_iff.mpr (fun z => ?_))
      exact absurd (qAny_is.mpr ⟨p, c, z⟩) (by rw [h]; decide)
    · exact d1 p (by omega) hp
theorem KL.sp (l : KL T K) (t : KT T ex K) (h : KA A ex K S) {e : Nat} (he : e < Tn T) : gR S (some (A 0 e)) 3 16 = some (el A (Tsp T e)) := g16 t h l.k16 he
theorem c_looksLike (hw : Tw T) (h : KA A ex K S) (t : KT T ex K) (l : KL T K) (k : KE T K σ) {e f : Nat} (he : e < Tn T) (hf : f < Tn T) (d1 : KDr K σ (40 + e)) (d2 : KDr K σ (40 + f)) : f_X3_looksLike (A 0 e) (some (A 0 f)) S = some (b2 (qTw T σ e f)) := by
  have gE : ∀ x j, x < Tn T → gI S (some (A 0 x)) 3 j = some (K.1 0 x j) := fun x j hx => h.I 0 3 (t.E hx (by decide)) rfl
  have gD : ∀ x, x < Tn T → gI S (some (A 1 x)) 6 6 = some (K.1 1 x 6) := fun x hx => h.I 1 6 (t.E hx (by decide)) rfl
  have no : ∀ b : Bool, b = false → f_X3_looksLike_115 (A 0 e) S = some (b2 b) := fun b hb => by rw [hb]; rfl
  obtain ⟨e1, e2, e3, e4, e5, e6⟩ := k e he
  obtain ⟨f1, f2, f3, f4, f5, f6⟩ := k f hf
  unfold f_X3_looksLike qTw
  rw [gE e 1 he, qqx, gE f 1 hf, qqx, e1, f1]
  by_cases c1 : ¬ σ.1 0 e = σ.1 0 f
  · rw [if_neg c1, decide_eq_false c1, Bool.false_and]; rfl
  have c1 := Decidable.not_not.mp c1
  rw [if_pos c1, decide_eq_true c1, Bool.true_and]
  rw [gE e 2 he, qqx, gE f 2 hf, qqx, e2, f2]
  by_cases c2 : ¬ σ.1 1 e = σ.1 1 f
  · rw [if_neg c2, decide_eq_false c2, Bool.false_and]; rfl
  have c2 := Decidable.not_not.mp c2
  rw [if_pos c2, decide_eq_true c2, Bool.true_and]
  rw [gE e 3 he, qqx, gE f 3 hf, qqx, e3, f3]
  by_cases c3 : ¬ σ.1 2 e = σ.1 2 f
  · rw [if_neg c3, decide_eq_false c3, Bool.false_and]; rfl
  have c3 := Decidable.not_not.mp c3
  rw [if_pos c3, decide_eq_true c3, Bool.true_and]
  rw [gE e 4 he, qqx, gE f 4 hf, qqx, e4, f4]
  by_cases c4 : ¬ σ.1 3 e = σ.1 3 f
  · rw [if_neg c4, decide_eq_false c4, Bool.false_and]; rfl
  have c4 := Decidable.not_not.mp c4
  rw [if_pos c4, decide_eq_true c4, Bool.true_and]
  rw [gE e 5 he, qqx, gE f 5 hf, qqx, e5, f5]
  by_cases c5 : ¬ σ.1 4 e = σ.1 4 f
  · rw [if_neg c5, decide_eq_false c5, Bool.false_and]; rfl
  have c5 := Decidable.not_not.mp c5
  rw [if_pos c5, decide_eq_true c5, Bool.true_and]
  rw [gE e 6 he, qqx, gE f 6 hf, qqx, e6, f6]
  by_cases c6 : ¬ σ.1 5 e = σ.1 5 f
  · rw [if_neg c6, decide_eq_false c6, Bool.false_and]; rfl
  have c6 := Decidable.not_not.mp c6
  rw [if_pos c6, decide_eq_true c6, Bool.true_and]
  rw [l.sp t h he, qqx, l.sp t h hf, qqx]
  have hq : (el A (Tsp T e) = el A (Tsp T f)) = (Tsp T e = Tsp T f) := el_eq t h (fun z hz => Tsp_n9 hw hz) (fun z hz => Tsp_n9 hw hz)
  by_cases c7 : ¬ Tsp T e = Tsp T f
  · rw [if_neg (fun z => c7 (hq.mp z)), decide_eq_false c7, Bool.false_and]; rfl
  have c7 := Decidable.not_not.mp c7
  rw [if_pos (hq.mpr c7), decide_eq_true c7, Bool.true_and]
  unfold qPn
  rw [t.g18 h he, qqx, gD e he, qqx]
  by_cases c8 : ¬ K.1 1 e 6 = 0
  · have z : qAny (fun p => Ldc σ p (40 + e)) 15 = true := Bool.not_eq_false _ |>.mp (fun z => c8 ((kDc0 d1).mpr z))
    rw [if_neg c8, z]; simp only [Bool.not_true, Bool.false_and, Bool.and_false]; rfl
  have c8 := Decidable.not_not.mp c8
  have z8 : qAny (fun p => Ldc σ p (40 + e)) 15 = false := (kDc0 d1).mp c8
  rw [if_pos c8, z8, Bool.not_false, Bool.true_and]
  rw [t.g18 h hf, qqx, gD f hf, qqx]
  by_cases c9 : ¬ K.1 1 f 6 = 0
  · have z : qAny (fun p => Ldc σ p (40 + f)) 15 = true := Bool.not_eq_false _ |>.mp (fun z => c9 ((kDc0 d2).mpr z))
    rw [if_neg c9, z]; simp only [Bool.not_true, Bool.false_and, Bool.and_false]; rfl
  have c9 := Decidable.not_not.mp c9
  have z9 : qAny (fun p => Ldc σ p (40 + f)) 15 = false := (kDc0 d2).mp c9
  rw [if_pos c9, z9, Bool.not_false, Bool.true_and]
  rw [t.gs h he, qqx, b2_i0]
  cases hse : Ts T e with
  | true => rfl
  | false =>
    rw [if_neg (by decide), t.gs h hf, qqx, b2_i0]
    cases hsf : Ts T f with
    | true => rfl
    | false => rfl
theorem c_isMember (x : Int32) {k : Nat} (hk : k < 32) : f_X11_isMember x (nI k) = some (b2 (bt x k)) := by
  unfold f_X11_isMember
  rw [c_ask x hk]
  cases bt x k <;> rfl
theorem c_isLikePrevious (hw : Tw T) (h : KA A ex K S) (t : KT T ex K) (p9 : KP ex K) (l : KL T K) (k : KE T K σ) (d : ∀ x, x < Tn T → KDr K σ (40 + x)) {e : Nat} (he : e < Tn T) {o9 h9 : Bool} (ho : K.1 58 0 11 = b2 o9) (hh : K.1 58 0 12 = b2 h9) : f_X11_isLikePrevious (A 49 0) (some (A 0 e)) S = some (b2 (lkP T σ o9 h9 (K.1 49 0 14) e)) := by
  have h30 := hw.n30
  have no : f_X11_isLikePrevious_55 (A 49 0) S = some (b2 false) := rfl
  unfold f_X11_isLikePrevious lkP
  rw [t.g13 h he, qqx]
  cases hf : Tpv T e with
  | none => rw [if_pos (show el A none = none from rfl)]; exact no
  | some f =>
    have hfn := Tpv_lt hw he hf
    show _ = some (b2 (bt (K.1 49 0 14) f && (!o9 && (!h9 && qTw T σ e f))))
    rw [if_neg (show ¬ el A (some f) = none from fun z => by cases z), p9.I49 h, qqx, el_some, t.gn h hfn, qqx, c_isMember _ (by omega), qqx, b2_i0]
    cases hb : bt (K.1 49 0 14) f with
    | false => rw [if_neg (by decide)]; exact no
    | true =>
      rw [if_pos rfl, p9.cascade h, qqx, p9.I58 h, qqx, ho, b2_i0]
      cases o9 with
      | true => rw [if_pos rfl]; exact no
      | false =>
        rw [if_neg (by decide), qqx, p9.I58 h, qqx, hh, b2_i0]
        cases h9 with
        | true => rw [if_pos rfl]; exact no
        | false =>
          rw [if_neg (by decide), t.r3 h he, qqx, c_looksLike hw h t l k he hfn (d e he) (d f hfn), qqx, b2_i0]
          cases hq : qTw T σ e f with
          | false => rw [if_neg (by decide)]; exact no
          | true => rw [if_pos rfl]; rfl
def rsK (T : qqT) (G : qqG) (σ : mS) (had : Bool) (o9 h9 : Bool) (e : Nat) (K K' : kS) : Prop :=
  kB (RIc e) RRc K K' ∧ (∀ p, p < 15 → K'.1 7 e p = qTl σ (rI T G σ 0 e false) p) ∧ (∀ p, p < 15 → bt (K'.1 6 e 3) p = qIm σ (rI T G σ 0 e false) p) ∧ K'.1 6 e 1 = 1 ∧ K'.1 6 e 2 = K.1 6 e 2 ∧
  (∀ q, q < 32 → bt (K'.1 6 e 4) q = (decide (q < 15) && (had && decide (K.1 7 e q ≠ qTl σ (rI T G σ 0 e false) q)))) ∧
  K'.1 6 e 8 = (if (!had || decide (K.1 7 e 11 ≠ qTl σ (rI T G σ 0 e false) 11)) = true then σ.2 54 else K.1 6 e 8) ∧
  (∀ p, p < 5 → if (had && decide (K.1 7 e p ≠ qTl σ (rI T G σ 0 e false) p)) = true then trC σ K' e p (qTl σ (rI T G σ 0 e false) p) (qTl σ (rI T G σ 0 e false) 10) else K'.1 8 e p = K.1 8 e p ∧ K'.1 9 e p = K.1 9 e p ∧ K'.1 10 e p = K.1 10 e p) ∧
  K'.1 49 0 12 = K.1 49 0 12 + 1 ∧ K'.1 49 0 13 = K.1 49 0 13 + (if lkP T σ o9 h9 (K.1 49 0 14) e = true then 1 else 0) ∧ K'.1 49 0 14 = K.1 49 0 14 ||| ((1 : Int32) <<< (nI e &&& 31))
theorem RIc_q {e k i j : Nat} (z : RIc e k i j) : qOI k i j := by unfold RIc AIe FI at z; unfold qOI; omega
theorem RRc_q {k i j : Nat} (z : RRc k i j) : qOR k i j := by unfold RRc SR FR at z; unfold qOR; omega
theorem kAd.va2 {PI PR : Nat → Nat → Nat → Prop} (a : kAd T ex K σ) (b : kB PI PR K K') (hI : ∀ k i j, PI k i j → qOI k i j ∧ k ≠ 34 ∧ k ≠ 36 ∧ k ≠ 37) (hR : ∀ k i j, PR k i j → qOR k i j) : kAd T ex K' σ := by
  have bq : kB qOI qOR K K' := b.wd (fun k i j z => (hI k i j z).1) hR
  refine ⟨a.1.va bq, a.2.1.va bq, a.2.2.1.keep b (fun i j hj z => ?_), a.2.2.2.keep b (fun i j => ⟨fun z => (hI _ _ _ z).2.1 rfl, fun z => (hI _ _ _ z).2.2.1 rfl, fun z => (hI _ _ _ z).2.2.2 rfl⟩)⟩
  have := hR _ _ _ z
  unfold qOR at this
  omega
theorem KE.keep {PI PR : Nat → Nat → Nat → Prop} (k : KE T K σ) (b : kB PI PR K K') (h : ∀ i j, 1 ≤ j → j ≤ 6 → ¬ PI 0 i j) : KE T K' σ := fun e he => by
  rw [b.1 _ _ _ (h e 1 (by decide) (by decide)), b.1 _ _ _ (h e 2 (by decide) (by decide)), b.1 _ _ _ (h e 3 (by decide) (by decide)), b.1 _ _ _ (h e 4 (by decide) (by decide)), b.1 _ _ _ (h e 5 (by decide) (by decide)), b.1 _ _ _ (h e 6 (by decide) (by decide))]
  exact k e he
theorem c_restyle (hw : Tw T) (h : KA A ex K S) (x : KX T G A ex K σ) (an : anEq K σ) (k : KE T K σ) (ha : RAn σ) (hn : RNw σ) (hnow : K.1 49 0 6 = σ.2 54) {e : Nat} (he : e < Tn T) (hD : TD T e = true) {had : Bool} (hk : K.1 6 e 1 = b2 had) (h4 : K.1 6 e 4 = 0) (ve : vEqv K σ false e) (te : ∀ q, q < 5 → tEq K σ e q) (im : iEq K σ e) (pe : had = true → pEq K σ e) (hanc : kAnc T K σ false e) (hb : bV (qVl σ (rI T G σ 0 e false) 10)) {o9 h9 : Bool} (ho : K.1 58 0 11 = b2 o9) (hh : K.1 58 0 12 = b2 h9) : ∃ S' K', f_X11_restyle (A 49 0) (some (A 0 e)) S = some (b2 (!had || decide (K'.1 6 e 4 ≠ 0)), S') ∧ KA A ex K' S' ∧ rsK T G σ had o9 h9 e K K' := by
  have h30 := hw.n30
  have t := x.1.2.1
  have p9 := x.1.2.2.1
  have x6 : ex 6 e := t.E he (by decide)
  have nv9 : ∀ q, q < 12 → K.1 7 e q = σ.1 43 (12 * e + q) := fun q hq => by
    have := ve.1 q hq
    rw [show sar false = 0 from rfl, ix0] at this
    exact this
  have st44 : kSt ex K 44 0 := ⟨p9.1.2.2.2.2.2 0 44 (by decide) (by decide) (by decide), p9.1.2.2.2.2.2 0 45 (by decide) (by decide) (by decide), rfl, rfl, by decide, by decide, (p9.2.2.2.2.2.2 0 (by decide)).1⟩
  obtain ⟨S1, K1, e1, h1, v1, b1⟩ := c_findStyle (G := G) hw x h false (e := e) (d := 44) (i := 0) he hD hanc st44 (Or.inr (Or.inr rfl)) (fun _ _ => Or.inl (by decide))
  have e1' : f_X11_findStyle (A 49 0) (some (A 44 0)) (some (A 0 e)) 0 S = some S1 := e1
  have I9 : rI T G σ (sar false) e false = rI T G σ 0 e false := rfl
  rw [I9] at v1
  generalize hI : rI T G σ 0 e false = I at v1 hb
  have b1q : kB qOI qOR K K1 := b1.wd (fun k i j z => by unfold FI at z; unfold qOI; omega) (fun k i j z => by unfold SR FR at z; unfold qOR; omega)
  have x1 := x.va b1q
  have a1 : kAd T ex K1 σ := by
    refine kAd.va2 (K := K) ⟨t, p9, x.2.1, an⟩ b1 (fun k i j z => ?_) (fun k i j z => ?_)
    · unfold FI at z; unfold qOI; omega
    · unfold SR FR at z; unfold qOR; omega
  have r1 : ∀ k i j, k ≤ 43 ∨ 46 ≤ k → K1.1 k i j = K.1 k i j := fun k i j hk => b1.1 k i j (by unfold FI; omega)
  have f1 : fdS K1 (qTl σ I) := fun p hp => by
    unfold qTl
    by_cases c : p < 12
    · rw [if_pos c]; exact v1.1 p c (Or.inl (by omega))
    · rw [if_neg c]
      have := v1.2.1 (p - 12) (by omega)
      rw [show 12 + (p - 12) = p by omega] at this
      exact this
  have p1 := x1.1.2.2.1
  have t1 := x1.1.2.1
  have found1 : gR S1 (some (A 49 0)) 11 8 = some (some (A 44 0)) := by rw [h1.R 49 11 (p1.x (by decide) (by decide) (by decide)) rfl, p1.2.1.2.2.2.2.2.2.1]; rfl
  have found0 : gR S (some (A 49 0)) 11 8 = some (some (A 44 0)) := by rw [h.R 49 11 (p9.x (by decide) (by decide) (by decide)) rfl, p9.2.1.2.2.2.2.2.2.1]; rfl
  obtain ⟨S2, K2, e2, h2, o2⟩ := c_adopt (nv := qTl σ I) (had := had) hw h1 a1 ha hn he f1 (by rw [r1 6 e 1 (by decide)]; exact hk) (by rw [r1 6 e 4 (by decide)]; exact h4) (fun q hq => by rw [r1 7 e q (by decide)]; exact nv9 q (by omega)) (fun q hq => by
    have := te q hq
    unfold tEq at this ⊢
    rw [r1 8 e q (by decide), r1 9 e q (by decide), r1 10 e q (by decide)]
    exact this) (fun q hq => by rw [r1 6 e 3 (by decide)]; exact im q hq) (fun z k hk => by rw [r1 6 e 8 (by decide)]; exact pe z k hk) (by unfold qTl; rw [if_pos (by decide)]; exact hb)
  obtain ⟨b2', v2, i2, k2, s2, c2, p2, t2⟩ := o2
  have b2q : kB qOI qOR K1 K2 := b2'.wd (fun k i j z => by unfold AIe at z; unfold qOI; omega) (fun _ _ _ z => z.elim)
  have x2 := x1.va b2q
  have p2' := x2.1.2.2.1
  have t2' := x2.1.2.1
  have g49 : K2.1 49 0 12 = K.1 49 0 12 := by rw [b2'.1 49 0 12 (by unfold AIe; omega), r1 49 0 12 (by decide)]
  obtain ⟨S3, e3, h3⟩ := h2.PI (k := 49) (i := 0) (t := 11) (j := 12) (p2'.x (by decide) (by decide) (by decide)) rfl (by decide) (K.1 49 0 12 + 1)
  generalize hK3 : kwI K2 49 0 12 (K.1 49 0 12 + 1) = K3 at h3
  have b3 : kB (fun k i j => k = 49 ∧ i = 0 ∧ (j = 12 ∨ j = 13 ∨ j = 14)) F3 K2 K3 := by rw [← hK3]; exact (kB.rf K2).I ⟨rfl, rfl, Or.inl rfl⟩
  have q3 : K3.1 49 0 12 = K.1 49 0 12 + 1 := by rw [← hK3, kwI_s]
  have q313 : K3.1 49 0 13 = K.1 49 0 13 := by rw [← hK3, kwI_j (by decide), b2'.1 49 0 13 (by unfold AIe; omega), r1 49 0 13 (by decide)]
  have q314 : K3.1 49 0 14 = K.1 49 0 14 := by rw [← hK3, kwI_j (by decide), b2'.1 49 0 14 (by unfold AIe; omega), r1 49 0 14 (by decide)]
  have x3 := x2.va (b3.wd (QI := qOI) (QR := qOR) (fun k i j z => by unfold qOI; omega) (fun _ _ _ z => z.elim))
  have p3 := x3.1.2.2.1
  have t3 := x3.1.2.1
  have bK3 : kB (RIc e) RRc K K3 := ((b1.wd (QI := RIc e) (QR := RRc) (fun k i j z => Or.inr (Or.inl z)) (fun k i j z => z)).tr (b2'.wd (fun k i j z => Or.inl z) (fun _ _ _ z => z.elim))).tr (b3.wd (fun k i j z => Or.inr (Or.inr z)) (fun _ _ _ z => z.elim))
  have ke3 : KE T K3 σ := k.keep bK3 (fun i j h1 h2 => by unfold RIc AIe FI; omega)
  have like := c_isLikePrevious hw h3 t3 p3 x3.1.2.2.2.1 ke3 (fun y hy => x3.1.2.2.2.2.2.2 (40 + y) (Or.inr ⟨by omega, by omega⟩)) he (o9 := o9) (h9 := h9) (by rw [bK3.1 58 0 11 (by unfold RIc AIe FI; omega)]; exact ho) (by rw [bK3.1 58 0 12 (by unfold RIc AIe FI; omega)]; exact hh)
  rw [q314] at like
  have r3 : ∀ k j, k = 6 ∨ (7 ≤ k ∧ k ≤ 10) → K3.1 k e j = K2.1 k e j := fun k j hk => b3.1 k e j (by omega)
  have t57 : ∀ q, q < 12 → K1.1 7 e q = K.1 7 e q := fun q _ => r1 7 e q (by decide)
  have fin : ∀ (K4 : kS) (S4 : cS), KA A ex K4 S4 → kB (fun k i j => k = 49 ∧ i = 0 ∧ (j = 12 ∨ j = 13 ∨ j = 14)) F3 K3 K4 → K4.1 49 0 12 = K.1 49 0 12 + 1 → K4.1 49 0 13 = K.1 49 0 13 + (if lkP T σ o9 h9 (K.1 49 0 14) e = true then 1 else 0) → K4.1 49 0 14 = K.1 49 0 14 → ∃ S' K', f_X11_restyle_77 (A 49 0) (some (A 0 e)) (b2 (!had)) S4 = some (b2 (!had || decide (K'.1 6 e 4 ≠ 0)), S') ∧ KA A ex K' S' ∧ rsK T G σ had o9 h9 e K K' := by
    intro K4 S4 h4' b4 q12 q13 q14
    have x4 := x3.va (b4.wd (QI := qOI) (QR := qOR) (fun k i j z => by unfold qOI; omega) (fun _ _ _ z => z.elim))
    obtain ⟨S5, e5, h5⟩ := h4'.PI (k := 49) (i := 0) (t := 11) (j := 14) (x4.1.2.2.1.x (by decide) (by decide) (by decide)) rfl (by decide) (K.1 49 0 14 ||| ((1 : Int32) <<< (nI e &&& 31)))
    generalize hK5 : kwI K4 49 0 14 (K.1 49 0 14 ||| ((1 : Int32) <<< (nI e &&& 31))) = K5 at h5
    have b5 : kB (fun k i j => k = 49 ∧ i = 0 ∧ (j = 12 ∨ j = 13 ∨ j = 14)) F3 K4 K5 := by rw [← hK5]; exact (kB.rf K4).I ⟨rfl, rfl, Or.inr (Or.inr rfl)⟩
    have x5 := x4.va (b5.wd (QI := qOI) (QR := qOR) (fun k i j z => by unfold qOI; omega) (fun _ _ _ z => z.elim))
    have r5 : ∀ k j, k = 6 ∨ (7 ≤ k ∧ k ≤ 10) → K5.1 k e j = K2.1 k e j := fun k j hk => by rw [b5.1 k e j (by omega), b4.1 k e j (by omega), r3 k j hk]
    have out : rsK T G σ had o9 h9 e K K5 := by
      unfold rsK
      rw [hI]
      refine ⟨(bK3.tr (b4.wd (fun k i j z => Or.inr (Or.inr z)) (fun _ _ _ z => z.elim))).tr (b5.wd (fun k i j z => Or.inr (Or.inr z)) (fun _ _ _ z => z.elim)), fun p hp => ?_, fun p hp => ?_, ?_, ?_, fun q hq => ?_, ?_, fun p hp => ?_, ?_, ?_, ?_⟩
      · rw [r5 7 p (by decide)]; exact v2 p hp
      · rw [r5 6 3 (by decide), i2, v1.2.2 p (by omega)]
        rw [decide_eq_true (show p < 15 ∧ p < 15 from ⟨hp, hp⟩), Bool.true_and]
      · rw [r5 6 1 (by decide)]; exact k2
      · rw [r5 6 2 (by decide), s2, r1 6 e 2 (by decide)]
      · rw [r5 6 4 (by decide), c2 q hq]
        by_cases c : q < 15
        · rw [r1 7 e q (by decide)]
        · rw [decide_eq_false c, Bool.false_and, Bool.false_and]
      · rw [r5 6 8 (by decide), p2, r1 7 e 11 (by decide), r1 6 e 8 (by decide)]
      · have := t2 p hp
        rw [r1 7 e p (by decide)] at this
        by_cases c : (had && decide (K.1 7 e p ≠ qTl σ I p)) = true
        · rw [if_pos c] at this ⊢
          exact this.cg (r5 8 p (by decide)) (r5 9 p (by decide)) (r5 10 p (by decide))
        · rw [if_neg c] at this ⊢
          rw [r5 8 p (by decide), r5 9 p (by decide), r5 10 p (by decide), this.1, this.2.1, this.2.2, r1 8 e p (by decide), r1 9 e p (by decide), r1 10 e p (by decide)]
          exact ⟨rfl, rfl, rfl⟩
      · rw [← hK5, kwI_j (by decide)]; exact q12
      · rw [← hK5, kwI_j (by decide)]; exact q13
      · rw [← hK5, kwI_s]
    unfold f_X11_restyle_77
    rw [x4.1.2.2.1.I49 h4', qqx, q14, x4.1.2.1.gn h4' he, qqx, e5, qqx, b2_i0]
    cases had with
    | false =>
      rw [show (!false) = true from rfl, if_pos rfl]
      exact ⟨S5, K5, rfl, h5, out⟩
    | true =>
      rw [show (!true) = false from rfl, if_neg (by decide), x5.1.2.1.g19 h5 he, qqx, h5.I 6 9 x6 rfl, qqx]
      by_cases c : K5.1 6 e 4 = 0
      · rw [if_pos c]
        exact ⟨S5, K5, by rw [decide_eq_false (fun z => z c)]; rfl, h5, out⟩
      · rw [if_neg c]
        exact ⟨S5, K5, by rw [decide_eq_true c]; rfl, h5, out⟩
  have f15 : f_X11_restyle_15 (A 49 0) (some (A 0 e)) (b2 (!had)) S = (if b2 (lkP T σ o9 h9 (K.1 49 0 14) e) = (0 : Int32) then f_X11_restyle_77 (A 49 0) (some (A 0 e)) (b2 (!had)) S3 else (gI S3 (some (A 49 0)) 11 13).bind (fun v16 => (pI S3 (some (A 49 0)) 11 13 (v16 + (1 : Int32))).bind (fun v17 => f_X11_restyle_77 (A 49 0) (some (A 0 e)) (b2 (!had)) v17))) := by
    unfold f_X11_restyle_15
    rw [found0, qqx, p9.r11 h, qqx, e1', qqx, t1.g19 h1 he, qqx, found1, qqx, p1.I49 h1, qqx, qqx, p1.r11 h1, qqx, c_playedFor hw t1 p1 x1.2.1 h1 he (σ := σ) (by rw [r1 7 e 11 (by decide)]; exact nv9 11 (by decide)), qqx, t1.r9 h1 he, qqx, r1 49 0 6 (by decide), hnow, e2, qqx, p2'.I49 h2, qqx, g49, e3, qqx, p3.r11 h3, qqx, like, qqx]
  have big : ∃ S' K', f_X11_restyle_15 (A 49 0) (some (A 0 e)) (b2 (!had)) S = some (b2 (!had || decide (K'.1 6 e 4 ≠ 0)), S') ∧ KA A ex K' S' ∧ rsK T G σ had o9 h9 e K K' := by
    rw [f15, b2_i0]
    cases hlk : lkP T σ o9 h9 (K.1 49 0 14) e with
    | false =>
      rw [hlk] at fin
      rw [if_neg (by decide)]
      exact fin K3 S3 h3 (kB.rf K3) q3 (by rw [q313, if_neg (by decide), Int32.add_zero]) q314
    | true =>
      rw [hlk] at fin
      rw [if_pos rfl, p3.I49 h3, qqx, q313]
      obtain ⟨S4, e4, h4'⟩ := h3.PI (k := 49) (i := 0) (t := 11) (j := 13) (p3.x (by decide) (by decide) (by decide)) rfl (by decide) (K.1 49 0 13 + 1)
      rw [e4, qqx]
      exact fin _ S4 h4' ((kB.rf K3).I ⟨rfl, rfl, Or.inr (Or.inl rfl)⟩) (by rw [kwI_j (by decide)]; exact q3) (by rw [kwI_s, if_pos rfl]) (by rw [kwI_j (by decide)]; exact q314)
  unfold f_X11_restyle
  rw [t.g19 h he, qqx, h.I 6 9 x6 rfl, qqx, hk, b2_i0]
  cases had with
  | false => rw [if_neg (by decide)]; exact big
  | true => rw [if_pos rfl]; exact big
end CRS
