section LY
variable {T : qqT} {A : kA} {ex : Nat → Nat → Prop} {K : kS} {S : cS}
theorem c_forget_12 {e : Nat} (he7 : ex 6 e) (he10 : ex 10 e) : ∀ (d m p : Nat) (K : kS) (S : cS), KA A ex K S → K.2 6 e 7 = some (10, e) → p + d = 5 → d < m → ∃ S' K', f_X9_forget_12 (A 6 e) m (nI p) S = some S' ∧ KA A ex K' S' ∧ kB (fun k i j => k = 10 ∧ i = e) (fun _ _ _ => False) K K' ∧ (∀ q, q < p → K'.1 10 e q = K.1 10 e q) ∧ ∀ q, p ≤ q → q < 5 → K'.1 10 e q = 0 := by
  intro d
  induction d with
  | zero =>
    intro m p K S h hr hp hm
    obtain ⟨m, rfl⟩ : ∃ m', m = m' + 1 := ⟨m - 1, by omega⟩
    rw [f_X9_forget_12, if_pos (show (5 : Int32) ≤ nI p from nI_le (show 5 ≤ p by omega) (by omega))]
    exact ⟨S, K, rfl, h, kB.rf K, fun _ _ => rfl, fun q h1 h2 => by omega⟩
  | succ d ih =>
    intro m p K S h hr hp hm
    obtain ⟨m, rfl⟩ : ∃ m', m = m' + 1 := ⟨m - 1, by omega⟩
    rw [f_X9_forget_12, if_neg (show ¬ (5 : Int32) ≤ nI p from nI_ge (show p < 5 by omega) (by decide)), h.R 6 9 he7 rfl, hr]
    simp only [qqb, Option.map_some]
    obtain ⟨S1, e1, h1⟩ := h.SI (k := 10) (i := e) (j := p) (N := 5) he10 rfl (by decide) (by omega) 0
    have e1 : sI S (some (kp A (10, e))) (nI p) 0 = some S1 := e1
    rw [e1]
    simp only [qqb, nI_1]
    obtain ⟨S2, K2, e2, h2, b2, f2, g2⟩ := ih m (p + 1) _ S1 h1 (by rw [kwI_2]; exact hr) (by omega) (by omega)
    refine ⟨S2, K2, e2, h2, (kB.I (kB.rf K) ⟨rfl, rfl⟩).tr b2, fun q hq => ?_, fun q hq hq5 => ?_⟩
    · rw [f2 q (by omega), kwI_1, if_neg (by omega)]
    · by_cases hqp : q = p
      · rw [hqp, f2 p (by omega), kwI_1, if_pos ⟨rfl, rfl, rfl⟩]
      · exact g2 q (by omega) hq5
def LIe (e k i j : Nat) : Prop := (k = 0 ∧ i = e ∧ j = 14) ∨ (k = 1 ∧ i = e ∧ j = 12) ∨ (k = 50 ∧ j = 2) ∨ (k = 6 ∧ i = e ∧ (j = 1 ∨ j = 4)) ∨ (k = 10 ∧ i = e)
def LRe (e k i j : Nat) : Prop := k = 0 ∧ i = e ∧ j = 15
theorem LIe_I {e k i j : Nat} (h : LIe e k i j) : LI k i j := by unfold LIe at h; unfold LI; omega
theorem LRe_R {e k i j : Nat} (h : LRe e k i j) : LR k i j := by unfold LRe at h; unfold LR; omega
def LSk (T : qqT) (K0 K : kS) (e : Nat) : Prop := (TD T e = true → K.1 6 e 1 = K0.1 6 e 1 ∧ K.1 6 e 4 = K0.1 6 e 4 ∧ ∀ p, K.1 10 e p = K0.1 10 e p) ∧ (TD T e = false → K.1 6 e 1 = 0 ∧ K.1 6 e 4 = 0 ∧ ∀ p, p < 5 → K.1 10 e p = 0)
def LSe (T : qqT) (K0 K : kS) (e : Nat) : Prop := K.1 0 e 14 = nI (Tix T e + 1) ∧ K.2 0 e 15 = ro 0 (TH T e) ∧ K.1 1 e 12 = nI (TL T e) ∧ LSk T K0 K e
theorem c_forget {e : Nat} (he6 : ex 6 e) (he10 : ex 10 e) (h : KA A ex K S) (hr : K.2 6 e 7 = some (10, e)) : ∃ S' K', f_X9_forget (A 6 e) S = some S' ∧ KA A ex K' S' ∧ kB (fun k i j => (k = 6 ∧ i = e ∧ (j = 1 ∨ j = 4)) ∨ (k = 10 ∧ i = e)) (fun _ _ _ => False) K K' ∧ K'.1 6 e 1 = 0 ∧ K'.1 6 e 4 = 0 ∧ ∀ q, q < 5 → K'.1 10 e q = 0 := by
  unfold f_X9_forget
  obtain ⟨S1, e1, h1⟩ := h.PZ (k := 6) (i := e) (j := 1) (t := 9) he6 rfl (by decide) (v := 0) (Or.inl rfl)
  rw [e1]
  simp only [qqb]
  obtain ⟨S2, e2, h2⟩ := h1.PI (k := 6) (i := e) (j := 4) (t := 9) he6 rfl (by decide) 0
  rw [e2]
  simp only [qqb]
  obtain ⟨S3, K3, e3, h3, b3, f3, g3⟩ := c_forget_12 (A := A) he6 he10 5 4000 0 _ S2 h2 (by rw [kwI_2, kwI_2]; exact hr) (by omega) (by omega)
  refine ⟨S3, K3, e3, h3, ?_, ?_, ?_, fun q hq => g3 q (Nat.zero_le _) hq⟩
  · exact (((kB.rf K).I (Or.inl ⟨rfl, rfl, Or.inl rfl⟩)).I (Or.inl ⟨rfl, rfl, Or.inr rfl⟩)).tr (b3.wd (fun k i j z => Or.inr z) (fun _ _ _ z => z))
  · rw [b3.1 6 e 1 (by simp), kwI_1, if_neg (by simp), kwI_1, if_pos ⟨rfl, rfl, rfl⟩]
  · rw [b3.1 6 e 4 (by simp), kwI_1, if_pos ⟨rfl, rfl, rfl⟩]
def qq1 (b : Bool) (e : Nat) : Int32 := if b then (1 : Int32) <<< (nI e &&& 31) else 0
theorem qqM_s (f : Nat → Bool) (n : Nat) : qqM f (n + 1) = qqM f n ||| qq1 (f n) n := rfl
theorem or_0 (x : Int32) : x ||| 0 = x := Int32.or_zero
theorem c_settle_45 (hw : Tw T) {e : Nat} (he : e < Tn T) {ν : Nat → Nat} (hν : ∀ e q, e < Tn T → TH T e = some q → ν q < ν e) : ∀ (m f d : Nat) (K : kS) (S : cS), KA A ex K S → KT T ex K → f < Tn T → TD T f = TD T e → d + TL T f = TL T e → ν f < m → ∃ S' K', f_X10_settle_45 (A 50 0) m (some (A 0 e)) (nI d) (some (A 0 (TR T f))) (el A (TH T f)) S = some S' ∧ KA A ex K' S' ∧ kB (fun k i j => (k = 1 ∧ i = e ∧ j = 12) ∨ (k = 50 ∧ j = 2) ∨ (k = 6 ∧ i = e ∧ (j = 1 ∨ j = 4)) ∨ (k = 10 ∧ i = e)) (fun _ _ _ => False) K K' ∧ K'.1 1 e 12 = nI (TL T e) ∧ K'.1 50 0 2 = K.1 50 0 2 ||| qq1 (TD T e) e ∧ LSk T K K' e := by
  intro m
  induction m with
  | zero => intro f d K S _ _ _ _ _ hm; omega
  | succ m ih =>
    intro f d K S h t hf hD hd hm
    rw [f_X10_settle_45]
    cases hq : TH T f with
    | none =>
      have hL0 : TL T f = 0 := by rw [TL_eq hw hf, hq]
      have hde : d = TL T e := by omega
      subst hde
      rw [if_pos (el_none A), t.g18 h he]
      simp only [qqb]
      obtain ⟨S1, e1, h1⟩ := h.PI (k := 1) (i := e) (j := 12) (t := 6) (t.E he (by decide)) rfl (by decide) (nI (TL T e))
      rw [e1]
      simp only [qqb]
      have t1 : KT T ex (kwI K 1 e 12 (nI (TL T e))) := t.lay ((kB.rf K).I (by simp [LI]))
      rw [t1.top h1]
      simp only [qqb]
      have hR := (TR_top hw f hf).1
      have hD2 : TD T f = decide (TR T f = 0) := by rw [TD_eq hw hf, hq]
      have hT0 : (some (A 0 (TR T f)) = some (A 0 0)) = (TR T f = 0) := by rw [Option.some.injEq]; exact t.eq h hR (by have := hw.n1; omega)
      by_cases h0 : TR T f = 0
      · have hDe : TD T e = true := by rw [← hD, hD2]; simp [h0]
        rw [if_pos (by rw [hT0]; exact h0), h1.I 50 10 t1.2.1 rfl]
        simp only [qqb]
        rw [t1.gn h1 he]
        simp only [qqb]
        obtain ⟨S2, e2, h2⟩ := h1.PI (k := 50) (i := 0) (j := 2) (t := 10) t1.2.1 rfl (by decide) ((kwI K 1 e 12 (nI (TL T e))).1 50 0 2 ||| ((1 : Int32) <<< (nI e &&& 31)))
        rw [e2]
        refine ⟨S2, _, rfl, h2, ((kB.rf K).I (by simp)).I (by simp), ?_, ?_, ?_, ?_⟩
        · rw [kwI_1, if_neg (by simp), kwI_1, if_pos ⟨rfl, rfl, rfl⟩]
        · rw [kwI_1, if_pos ⟨rfl, rfl, rfl⟩, kwI_1, if_neg (by simp), hDe]; rfl
        · intro _
          refine ⟨?_, ?_, fun p => ?_⟩
          · rw [kwI_1, if_neg (by simp), kwI_1, if_neg (by simp)]
          · rw [kwI_1, if_neg (by simp), kwI_1, if_neg (by simp)]
          · rw [kwI_1, if_neg (by simp), kwI_1, if_neg (by simp)]
        · intro hz; rw [hDe] at hz; cases hz
      · have hDe : TD T e = false := by rw [← hD, hD2]; simp [h0]
        rw [if_neg (by rw [hT0]; exact h0), t1.g19 h1 he]
        simp only [qqb]
        rw [t1.r9 h1 he]
        simp only [qqb]
        obtain ⟨S2, K2, e2, h2, b2, f2, g2, l2⟩ := c_forget (t1.E he (by decide)) (t1.E he (by decide)) h1 (t1.1 e he).2.2.2.2.2.2.2.2.2.2.2.2.2
        rw [e2]
        refine ⟨S2, K2, rfl, h2, ((kB.rf K).I (by simp)).tr (b2.wd (fun k i j z => Or.inr (Or.inr z)) (fun _ _ _ z => z)), ?_, ?_, ?_, fun _ => ⟨f2, g2, l2⟩⟩
        · rw [b2.1 1 e 12 (by simp), kwI_1, if_pos ⟨rfl, rfl, rfl⟩]
        · rw [b2.1 50 0 2 (by simp), kwI_1, if_neg (by simp), hDe]; exact (or_0 _).symm
        · intro hz; rw [hDe] at hz; cases hz
    | some q =>
      have hq9 := TH_lt hw hq
      have hν9 := hν f q hf hq
      rw [if_neg (fun z => by cases z), t.r10 h]
      simp only [qqb, el_some]
      rw [c_topOf hw t h hq9.1]
      simp only [qqb]
      rw [t.g9 h (TR_top hw q hq9.1).1]
      simp only [qqb, nI_1]
      have hLf : TL T f = TL T q + 1 := by rw [TL_eq hw hf, hq]
      have hDf : TD T f = TD T q := by rw [TD_eq hw hf, hq]
      exact ih q (d + 1) K S h t hq9.1 (hDf.symm.trans hD) (by omega) (by omega)
theorem c_settle_20 (hw : Tw T) {e : Nat} (he : e < Tn T) (h : KA A ex K S) (t : KT T ex K) : ∃ S' K', f_X10_settle_20 (A 50 0) (some (A 0 e)) (some (A 0 e)) (nI (Tix T e + 1)) S = some S' ∧ KA A ex K' S' ∧ kB (LIe e) (LRe e) K K' ∧ LSe T K K' e ∧ K'.1 50 0 2 = K.1 50 0 2 ||| qq1 (TD T e) e := by
  unfold f_X10_settle_20
  obtain ⟨S1, e1, h1⟩ := h.PI (k := 0) (i := e) (j := 14) (t := 3) (t.E he (by decide)) rfl (by decide) (nI (Tix T e + 1))
  rw [e1]
  simp only [qqb]
  have b1 : kB (LIe e) (LRe e) K (kwI K 0 e 14 (nI (Tix T e + 1))) := (kB.rf K).I (by simp [LIe])
  have t1 := t.lay (b1.wd (fun _ _ _ => LIe_I) (fun _ _ _ => LRe_R))
  have hR := TR_top hw e he
  rw [t1.r10 h1]
  simp only [qqb]
  rw [c_topOf hw t1 h1 he]
  simp only [qqb]
  rw [t1.g9 h1 hR.1]
  simp only [qqb]
  obtain ⟨S2, e2, h2⟩ := h1.PR (k := 0) (i := e) (j := 15) (t := 3) (t1.E he (by decide)) rfl (by decide) (ro 0 (TH T e)) (fun r hr => by
    cases hq : TH T e with
    | none => rw [hq] at hr; cases hr
    | some q => rw [hq] at hr; cases hr; exact t1.E (k := 0) (TH_lt hw hq).1 (Nat.zero_le _))
  rw [el_kp] at e2
  have e2 : pR S1 (some (A 0 e)) 3 15 (el A (Th T (TR T e))) = some S2 := e2
  rw [e2]
  simp only [qqb]
  have b2 : kB (LIe e) (LRe e) K (kwR (kwI K 0 e 14 (nI (Tix T e + 1))) 0 e 15 (ro 0 (TH T e))) := b1.R (by simp [LRe])
  have t2 := t.lay (b2.wd (fun _ _ _ => LIe_I) (fun _ _ _ => LRe_R))
  rw [t2.g9 h2 hR.1]
  simp only [qqb]
  obtain ⟨ν, n1, -, -, n2⟩ := hw.rkb
  obtain ⟨S3, K3, e3, h3, b3, f3, g3, l3⟩ := c_settle_45 (A := A) (ex := ex) hw he n2 4000 e 0 _ S2 h2 t2 he rfl (by omega) (by have := n1 e he; omega)
  refine ⟨S3, K3, e3, h3, b2.tr (b3.wd (fun k i j z => by unfold LIe; omega) (fun _ _ _ z => z.elim)), ⟨?_, ?_, f3, ?_⟩, ?_⟩
  · rw [b3.1 0 e 14 (by simp), kwR_1, kwI_1, if_pos ⟨rfl, rfl, rfl⟩]
  · rw [b3.2 0 e 15 (fun z => z), kwR_2, if_pos ⟨rfl, rfl, rfl⟩]
  · refine ⟨fun hz => ?_, fun hz => l3.2 hz⟩
    obtain ⟨a1, a2, a3⟩ := l3.1 hz
    refine ⟨a1.trans ?_, a2.trans ?_, fun p => (a3 p).trans ?_⟩
    · rw [kwR_1, kwI_1, if_neg (by simp)]
    · rw [kwR_1, kwI_1, if_neg (by simp)]
    · rw [kwR_1, kwI_1, if_neg (by simp)]
  · rw [g3, kwR_1, kwI_1, if_neg (by simp)]
theorem c_settle (hw : Tw T) {e : Nat} (he : e < Tn T) (h : KA A ex K S) (t : KT T ex K) : ∃ S' K', f_X10_settle (A 50 0) (some (A 0 e)) S = some S' ∧ KA A ex K' S' ∧ kB (LIe e) (LRe e) K K' ∧ LSe T K K' e ∧ K'.1 50 0 2 = K.1 50 0 2 ||| qq1 (TD T e) e := by
  unfold f_X10_settle
  rw [t.g13 h he]
  simp only [qqb]
  cases hp : Tpv T e with
  | none =>
    rw [if_pos (el_none A)]
    have h0 := (Tpv_ix hw).mp hp
    have := c_settle_20 hw he h t
    rw [h0] at this
    exact this
  | some g =>
    have hg := Tpv_some hw hp
    rw [if_neg (fun z => by cases z), t.r10 h]
    simp only [qqb, el_some]
    rw [c_placeBehind hw t h (Tpv_lt hw he hp)]
    simp only [qqb]
    have := c_settle_20 hw he h t
    rw [show Tix T e + 1 = Tix T g + 2 by omega] at this
    exact this
end LY
