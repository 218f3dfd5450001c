section FRM
variable {A : kA} {ex : Nat → Nat → Prop} {K : kS} {S : cS} {σ : mS}
def fsC (o : Option Nat) : Int32 := match o with
  | none => -1
  | some t => nI t
theorem qFp {σ : mS} {a p g : Nat} (hn : 1 ≤ aLn σ a) (hg : g ≤ aLn σ a) : frP 0 (aFs σ a p g) ≤ frP 10 (aNx σ a p g) ∧ frP 10 (aNx σ a p g) ≤ 10 := by
  cases hF : aFs σ a p g with
  | none =>
    show 0 ≤ frP 10 (aNx σ a p g) ∧ frP 10 (aNx σ a p g) ≤ 10
    cases hX : aNx σ a p g with
    | none => exact ⟨Nat.zero_le _, Nat.le_refl _⟩
    | some x =>
      have := fNx_is hX
      exact ⟨Nat.zero_le _, by show x ≤ 10; omega⟩
  | some t =>
    have h1 := fFst_is hF
    show t ≤ frP 10 (aNx σ a p g) ∧ frP 10 (aNx σ a p g) ≤ 10
    cases hX : aNx σ a p g with
    | none => exact ⟨by show t ≤ 10; omega, Nat.le_refl _⟩
    | some x =>
      have h2 := fNx_is hX
      have h3 := h1.2
      have h4 := h2.2.2
      simp only [Bool.and_eq_true, decide_eq_true_eq] at h3 h4
      refine ⟨?_, by show x ≤ 10; omega⟩
      show t ≤ x
      refine Nat.le_of_lt (Nat.lt_of_mul_lt_mul_right (a := aLn σ a) ?_)
      omega
theorem i64_sub {a b : Int32} (ha : bV a) (hb : bV b) : b.toInt64 - a.toInt64 = (b - a).toInt64 := by
  obtain ⟨a1, a2⟩ := ha
  obtain ⟨b1, b2⟩ := hb
  refine Int64.toInt_inj.mp ?_
  rw [Int64.toInt_sub, Int32.toInt_toInt64, Int32.toInt_toInt64, Int32.toInt_toInt64, Int32.toInt_sub, Int.bmod_eq_of_le (by omega) (by omega), Int.bmod_eq_of_le (by omega) (by omega)]
theorem lN_mulq {a b : Nat} (ha : a ≤ 100000) (hb : b ≤ 1000) : lN a * lN b = lN (a * b) := by
  have h : a * b ≤ 100000 * 1000 := Nat.mul_le_mul ha hb
  refine Int64.toInt_inj.mp ?_
  rw [Int64.toInt_mul, lN_toInt (by omega), lN_toInt (by omega), lN_toInt (by omega), Int.bmod_eq_of_le (by omega) (by omega)]
  exact (Int.natCast_mul a b).symm
theorem sm_bV {x : Int32} (h : sm x) : bV x := by
  obtain ⟨h1, h2⟩ := h
  unfold bV
  omega
theorem frV_b (ha : RAn σ) {a p : Nat} (ha4 : a < 4) (hp : p < 5) {base : Int32} (hb : bV base) {o : Option Nat} (ho : ∀ t, o = some t → t < 11 ∧ aSt σ a p t = true) : bV (frV (aFn σ a p) base o) := by
  cases o with
  | none => exact hb
  | some t =>
    obtain ⟨h1, h2⟩ := ho t rfl
    exact sm_bV ((ha.2 (55 * a + 11 * p + t) (by omega)).2 (of_decide_eq_true h2))
theorem aFs_s {a p g t : Nat} (h : aFs σ a p g = some t) : t < 11 ∧ aSt σ a p t = true := by
  have := fFst_is h
  have h2 := this.2
  simp only [Bool.and_eq_true] at h2
  exact ⟨this.1, h2.1⟩
theorem aNx_s {a p g t : Nat} (h : aNx σ a p g = some t) : t < 11 ∧ aSt σ a p t = true := by
  have := fNx_is h
  have h2 := this.2.2
  simp only [Bool.and_eq_true] at h2
  exact ⟨by omega, h2.1⟩
theorem aLn_is (ha : RAn σ) {a : Nat} (ha4 : a < 4) : 1 ≤ aLn σ a ∧ aLn σ a ≤ 1000 ∧ σ.1 60 a = nI (aLn σ a) := by
  obtain ⟨n, h1, h2, h3⟩ := (ha.1 a ha4).1
  have : aLn σ a = n := by unfold aLn; rw [h3, nI_clamp (by omega)]
  rw [this]
  exact ⟨h1, h2, h3⟩
theorem aGg_le (ha : RAn σ) {a gn : Nat} (ha4 : a < 4) : aGg σ a gn ≤ aLn σ a := by
  have h1 := (aLn_is ha ha4).1
  have h2 := Nat.mod_lt gn (show 0 < aLn σ a by omega)
  unfold aGg
  by_cases c : σ.1 62 a = 1 ∧ gn / aLn σ a % 2 = 1
  · rw [if_pos c]; omega
  · rw [if_neg c]; omega
theorem r_bf_231 (ha : RAn σ) {a p g : Nat} (ha4 : a < 4) (hp : p < 5) (hg : g ≤ aLn σ a) {base : Int32} (hb : bV base) : f_byFrames_231 (nI a) (nI (55 * a + 11 * p)) (nI g) (fsC (aFs σ a p g)) (fsC (aNx σ a p g)) base σ = some (qFr σ a p g base) := by
  obtain ⟨n1, n2, n3⟩ := aLn_is ha ha4
  obtain ⟨p1, p2⟩ := qFp (p := p) n1 hg
  have e306 : ∀ (from0 to0 : Int32), bV from0 → bV to0 → f_byFrames_306 (nI a) (nI g) from0.toInt64 to0.toInt64 (nI (frP 0 (aFs σ a p g))) (nI (frP 10 (aNx σ a p g))) σ = some (frL (aLn σ a) g (frP 0 (aFs σ a p g)) (frP 10 (aNx σ a p g)) from0 to0) := by
    intro f0 t0 hf0 ht0
    unfold f_byFrames_306 f_byFrames_362 frL
    rw [iqI (by omega) (by omega)]
    by_cases c : frP 0 (aFs σ a p g) = frP 10 (aNx σ a p g)
    · rw [if_pos c, if_pos c, Int32.toInt32_toInt64]
    · have hlt : frP 0 (aFs σ a p g) < frP 10 (aNx σ a p g) := by omega
      have hpr : 1 ≤ (frP 10 (aNx σ a p g) - frP 0 (aFs σ a p g)) * aLn σ a := Nat.mul_pos (by omega) (by omega)
      have hle : (frP 10 (aNx σ a p g) - frP 0 (aFs σ a p g)) * aLn σ a ≤ 10 * 1000 := Nat.mul_le_mul (by omega) n2
      have ed : (nI (aLn σ a)).toInt64 * (nI (frP 10 (aNx σ a p g)) - nI (frP 0 (aFs σ a p g))).toInt64 = (nI ((frP 10 (aNx σ a p g) - frP 0 (aFs σ a p g)) * aLn σ a)).toInt64 := by
        rw [pk_sub (by omega), nI_l (by omega), nI_l (by omega), nI_l (by omega), lN_mulq (by omega) (by omega), Nat.mul_comm]
      rw [if_neg c, if_neg c, rd_60 ha4, qqx, qqx, n3, ed, ldv_n (l_n0 hpr (by omega)), qqx, l_i32, i64_sub hf0 ht0, show (10 : Int32) = nI 10 from rfl, pk_mul, pk_mul]
  have e292 : ∀ (from0 to0 : Int32), bV from0 → bV to0 → f_byFrames_279 (nI a) (nI g) (fsC (aFs σ a p g)) (fsC (aNx σ a p g)) from0.toInt64 to0.toInt64 σ = some (frL (aLn σ a) g (frP 0 (aFs σ a p g)) (frP 10 (aNx σ a p g)) from0 to0) := by
    intro f0 t0 hf0 ht0
    have e := e306 f0 t0 hf0 ht0
    unfold f_byFrames_279
    have e2 : ∀ st, f_byFrames_292 (nI a) (nI g) (fsC (aNx σ a p g)) f0.toInt64 t0.toInt64 st σ = f_byFrames_306 (nI a) (nI g) f0.toInt64 t0.toInt64 st (nI (frP 10 (aNx σ a p g))) σ := by
      intro st
      unfold f_byFrames_292
      cases hX : aNx σ a p g with
      | none => rw [if_neg (show ¬ 0 ≤ fsC none by decide)]; rfl
      | some x =>
        have := aNx_s hX
        rw [if_pos (show 0 ≤ fsC (some x) from nI_pos' (by omega))]
        rfl
    cases hF : aFs σ a p g with
    | none => rw [if_neg (show ¬ 0 ≤ fsC none by decide), e2]; rw [hF] at e; exact e
    | some x =>
      have := aFs_s hF
      rw [if_pos (show 0 ≤ fsC (some x) from nI_pos' (by omega)), e2]
      rw [hF] at e
      exact e
  have e255 : ∀ (from0 : Int32), bV from0 → f_byFrames_255 (nI a) (nI (55 * a + 11 * p)) (nI g) (fsC (aFs σ a p g)) (fsC (aNx σ a p g)) base from0.toInt64 σ = some (frL (aLn σ a) g (frP 0 (aFs σ a p g)) (frP 10 (aNx σ a p g)) from0 (frV (aFn σ a p) base (aNx σ a p g))) := by
    intro f0 hf0
    have hto := frV_b ha ha4 hp hb (o := aNx σ a p g) (fun t ht => aNx_s ht)
    have e := e292 f0 _ hf0 hto
    unfold f_byFrames_255
    cases hX : aNx σ a p g with
    | none =>
      rw [hX] at e
      rw [if_neg (show ¬ 0 ≤ fsC none by decide)]
      exact e
    | some x =>
      have := aNx_s hX
      rw [hX] at e
      rw [if_pos (show 0 ≤ fsC (some x) from nI_pos' (by omega)), show fsC (some x) = nI x from rfl, nI_add, rd_64 (by omega), qqx]
      exact e
  have hfr := frV_b ha ha4 hp hb (o := aFs σ a p g) (fun t ht => aFs_s ht)
  have e := e255 _ hfr
  unfold f_byFrames_231 qFr
  cases hF : aFs σ a p g with
  | none =>
    rw [hF] at e
    rw [if_neg (show ¬ 0 ≤ fsC none by decide)]
    exact e
  | some x =>
    have := aFs_s hF
    rw [hF] at e
    rw [if_pos (show 0 ≤ fsC (some x) from nI_pos' (by omega)), show fsC (some x) = nI x from rfl, nI_add, rd_64 (by omega), qqx]
    exact e
theorem fsC_neg (o : Option Nat) (h : ∀ t, o = some t → t < 11) : (0 ≤ fsC o) = (o.isSome = true) := by
  cases o with
  | none => exact propext ⟨fun z => absurd z (by decide), fun z => by cases z⟩
  | some t => exact propext ⟨fun _ => rfl, fun _ => nI_pos' (by have := h t rfl; omega)⟩
theorem r_bf_98 (ha : RAn σ) {e a p g : Nat} (he : e < 30) (ha4 : a < 4) (hp : p < 5) (hg : g ≤ aLn σ a) (hb : bV (qBs σ e p)) : ∀ n m t, t + n = 11 → n < m → f_byFrames_98 m (nI e) (nI p) (nI a) (nI (55 * a + 11 * p)) (nI g) (fsC (fFst (fun t => aSt σ a p t && decide (t * aLn σ a ≤ 10 * g)) t)) (fsC (fNx (fun t => aSt σ a p t && decide (10 * g < t * aLn σ a)) t 0)) (nI t) σ = some (qFr σ a p g (qBs σ e p)) := by
  obtain ⟨n1, n2, n3⟩ := aLn_is ha ha4
  intro n
  induction n with
  | zero =>
    intro m t ht hm
    obtain ⟨m, rfl⟩ : ∃ m', m = m' + 1 := ⟨m - 1, by omega⟩
    have ht : t = 11 := by omega
    subst ht
    have h231 := r_bf_231 ha ha4 hp hg hb
    rw [f_byFrames_98, if_pos (by decide), show (12 : Int32) = nI 12 from rfl, pk_mul, nI_add, rd_43 (by omega), qqx]
    unfold qBs at h231 ⊢
    by_cases c : σ.1 43 (12 * e + p) = -1000000
    · rw [if_pos c]
      rw [if_pos c] at h231
      rw [if_pos c]
      exact h231
    · rw [if_neg c, qqx]
      rw [if_neg c] at h231
      rw [if_neg c]
      exact h231
  | succ n ih =>
    intro m t ht hm
    obtain ⟨m, rfl⟩ : ∃ m', m = m' + 1 := ⟨m - 1, by omega⟩
    have ht11 : t < 11 := by omega
    have hih := ih m (t + 1) (by omega) (by omega)
    rw [f_byFrames_98, if_neg (ge11 ht11), nI_add, rd_63 (by omega), qqx]
    have htn : t * aLn σ a ≤ 10 * 1000 := Nat.mul_le_mul (by omega) n2
    have eF : fFst (fun t => aSt σ a p t && decide (t * aLn σ a ≤ 10 * g)) (t + 1) = if (aSt σ a p t && decide (t * aLn σ a ≤ 10 * g)) = true then some t else fFst (fun t => aSt σ a p t && decide (t * aLn σ a ≤ 10 * g)) t := rfl
    have eX := fNx_snoc (fun t => aSt σ a p t && decide (10 * g < t * aLn σ a)) t 0
    rw [Nat.zero_add] at eX
    have hXt : ∀ x, fNx (fun t => aSt σ a p t && decide (10 * g < t * aLn σ a)) t 0 = some x → x < 11 := fun x hx => by have := fNx_is hx; omega
    rw [eF] at hih
    generalize fFst (fun t => aSt σ a p t && decide (t * aLn σ a ≤ 10 * g)) t = F at hih ⊢
    generalize hX0 : fNx (fun t => aSt σ a p t && decide (10 * g < t * aLn σ a)) t 0 = X at hih eX hXt ⊢
    generalize hX1 : fNx (fun t => aSt σ a p t && decide (10 * g < t * aLn σ a)) (t + 1) 0 = X1 at hih eX
    have e191 : ∀ y0 x8, f_byFrames_191 (fun z0 z1 z2 z3 z4 z5 z6 z7 => f_byFrames_98 m z0 z1 z2 z3 z4 z5 z6 z7 σ) (nI e) (nI p) (nI a) (nI (55 * a + 11 * p)) (nI g) y0 (nI t) x8 σ = f_byFrames_98 m (nI e) (nI p) (nI a) (nI (55 * a + 11 * p)) (nI g) y0 x8 (nI (t + 1)) σ := by
      intro y0 x8
      unfold f_byFrames_191
      rw [nI_1]
    unfold f_byFrames_124 f_byFrames_153 f_byFrames_155 f_byFrames_189
    rw [rd_60 ha4, n3]
    have elt : ((10 : Int32) * nI g < nI t * nI (aLn σ a)) = (10 * g < t * aLn σ a) := by
      rw [show (10 : Int32) = nI 10 from rfl, pk_mul, pk_mul, nI_ltE (by omega) (by omega)]
    have ele : (nI t * nI (aLn σ a) ≤ (10 : Int32) * nI g) = (t * aLn σ a ≤ 10 * g) := by
      rw [show (10 : Int32) = nI 10 from rfl, pk_mul, pk_mul, nI_leE (by omega) (by omega)]
    by_cases c : σ.1 63 (55 * a + 11 * p + t) = 1
    · have h9 : aSt σ a p t = true := decide_eq_true c
      rw [if_pos c, if_neg (show ¬ (1 : Int32) = 0 by decide), qqx]
      by_cases d : 10 * g < t * aLn σ a
      · have d' : ¬ t * aLn σ a ≤ 10 * g := by omega
        rw [if_pos (elt.mpr d), if_neg (show ¬ (1 : Int32) = 0 by decide), qqx, if_neg (fun z => d' (ele.mp z)), e191, e191]
        rw [if_neg (by rw [h9, decide_eq_false d']; decide)] at hih
        cases X with
        | none =>
          have eX : X1 = some t := by rw [eX]; exact if_pos (by rw [h9, decide_eq_true d]; rfl)
          rw [if_neg (show ¬ 0 ≤ fsC none by decide)]
          rw [eX] at hih
          exact hih
        | some x =>
          have eX : X1 = some x := eX
          rw [if_pos (show 0 ≤ fsC (some x) from nI_pos' (by have := hXt x rfl; omega))]
          rw [eX] at hih
          exact hih
      · have d' : t * aLn σ a ≤ 10 * g := by omega
        rw [if_neg (fun z => d (elt.mp z)), if_neg (show ¬ (1 : Int32) = 0 by decide), qqx, if_pos (ele.mpr d'), e191]
        rw [if_pos (by rw [h9, decide_eq_true d']; rfl)] at hih
        have eX : X1 = X := by
          cases X with
          | none => rw [eX]; exact if_neg (by rw [h9, decide_eq_false d]; decide)
          | some x => exact eX
        rw [eX] at hih
        exact hih
    · have h9 : aSt σ a p t = false := decide_eq_false c
      rw [if_neg c, if_pos (show (0 : Int32) = 0 from rfl), if_pos (show (0 : Int32) = 0 from rfl), e191]
      rw [if_neg (by rw [h9, Bool.false_and]; decide)] at hih
      have eX : X1 = X := by
        cases X with
        | none => rw [eX]; exact if_neg (by rw [h9, Bool.false_and]; decide)
        | some x => exact eX
      rw [eX] at hih
      exact hih
theorem r_byFrames (ha : RAn σ) {e a p gn : Nat} (he : e < 30) (ha4 : a < 4) (hp : p < 5) (hb : bV (qBs σ e p)) (hpl : σ.1 43 (12 * e + 11) = nI a) (hgn : σ.2 54 - σ.1 59 e = nI gn) (hg31 : gn < 2 ^ 31) : f_byFrames (nI e) (nI p) σ = some (qFr σ a p (aGg σ a gn) (qBs σ e p)) := by
  obtain ⟨n1, n2, n3⟩ := aLn_is ha ha4
  have h98 := fun g hg => r_bf_98 ha he ha4 hp (g := g) hg hb 11 4000 0 rfl (by decide)
  have h87 : ∀ g, g ≤ aLn σ a → f_byFrames_87 (nI e) (nI p) (nI a) (nI (55 * a + 11 * p)) (nI g) σ = some (qFr σ a p g (qBs σ e p)) := fun g hg => h98 g hg
  obtain ⟨b, hb62⟩ := (ha.1 a ha4).2.2
  have hmod : gn % aLn σ a < aLn σ a := Nat.mod_lt _ (by omega)
  have hgl := aGg_le (gn := gn) ha ha4
  unfold f_byFrames
  rw [show (12 : Int32) = nI 12 from rfl, show (11 : Int32) = nI 11 from rfl, pk_mul, nI_add, rd_43 (by omega), qqx, hpl, rd_59 he, qqx, rd_60 ha4, qqx, n3, hgn]
  have erm : rm (nI gn) (nI (aLn σ a)) = some (nI (gn % aLn σ a)) := by
    unfold rm
    rw [if_neg (nI_ne0 (by omega) (by omega)), pk_rem hg31 (by omega) (by omega)]
  have edv : dv (nI gn) (nI (aLn σ a)) = some (nI (gn / aLn σ a)) := by
    unfold dv
    rw [if_neg (nI_ne0 (by omega) (by omega)), pk_div hg31 (by omega) (by omega)]
  have hq31 : gn / aLn σ a < 2 ^ 31 := Nat.lt_of_le_of_lt (Nat.div_le_self _ _) hg31
  have erm2 : rm (nI (gn / aLn σ a)) (2 : Int32) = some (nI (gn / aLn σ a % 2)) := by
    unfold rm
    rw [if_neg (by decide), show (2 : Int32) = nI 2 from rfl, pk_rem hq31 (by decide) (by decide)]
  rw [erm, qqx, rd_62 ha4, qqx, pk_mul, show (55 : Int32) = nI 55 from rfl, pk_mul, nI_add]
  unfold f_byFrames_85
  unfold aGg at hgl ⊢
  by_cases c : σ.1 62 a = 1
  · rw [if_pos c, qqx, edv, qqx, erm2, qqx]
    have hm2 : gn / aLn σ a % 2 < 2 := Nat.mod_lt _ (by decide)
    by_cases d : gn / aLn σ a % 2 = 1
    · rw [if_pos (show nI (gn / aLn σ a % 2) = 1 by rw [d]; rfl), qqx, pk_sub (by omega), if_pos ⟨c, d⟩]
      exact h87 _ (by omega)
    · rw [if_neg (show ¬ nI (gn / aLn σ a % 2) = 1 from fun z => d ((nI_eq (b := 1) (by omega) (by decide)).mp z)), if_neg (fun z => d z.2)]
      exact h87 _ (by omega)
  · rw [if_neg c, if_neg (fun z => c z.1)]
    exact h87 _ (by omega)
theorem r_seenOf (ha : RAn σ) (hn : RNw σ) {e p : Nat} (he : e < 30) (hp : p < 5) (hb : bV (qBs σ e p)) : f_seenOf (nI e) (nI p) σ = some (qSeen σ e p) := by
  have hm := r_moves hn he hp
  have hpl := r_plays ha hn he hp
  unfold f_seenOf qSeen f_seenOf_91 f_seenOf_102
  rw [hm, qqx, b2_i0]
  rw [show (5 : Int32) = nI 5 from rfl, pk_mul, nI_add, show (12 : Int32) = nI 12 from rfl, pk_mul, nI_add, rd_43 (by omega), rd_47 (by omega), rd_55 (by omega), rd_56 (by omega), rd_57 (by omega), rd_58 (by omega)]
  by_cases c : qMv σ e p = true
  · rw [if_pos c, if_pos c, qqx, qqx, qqx, qqx, qqx]
    obtain ⟨nw, -, -, -, h4⟩ := hn
    unfold qMv at c
    simp only [Bool.and_eq_true, decide_eq_true_eq] at c
    rcases h4 (5 * e + p) (by omega) with h5 | ⟨k, -, -, m, m1, m2, m3⟩
    · rw [h5] at c; exact absurd c.1 (by decide)
    · rw [m3, ldv_n (l_n0 m1 (by omega)), qqx, l_i32]
  · rw [if_neg c, if_neg c, hpl, qqx, b2_i0]
    by_cases d : qPl σ e p = true
    · rw [if_pos d, qqx]
      by_cases i0 : σ.1 47 (5 * e + p) = 0
      · rw [if_pos i0, if_pos (by rw [d, decide_eq_true i0]; rfl)]
        have d9 := d
        unfold qPl at d9
        simp only [Bool.and_eq_true, decide_eq_true_eq] at d9
        obtain ⟨k, hk, hk2⟩ := nI_of2 (x := σ.1 43 (12 * e + 11)) (M := 3) (n := 3) (by decide) (Int32.not_lt.mpr d9.1.1) d9.1.2
        obtain ⟨nw, h1, h2, h3, -⟩ := hn
        have hgn : ∃ gn, gn ≤ nw ∧ σ.2 54 - σ.1 59 e = nI gn := by
          rcases h3 e he with h5 | ⟨q, hq, h5⟩
          · rw [h5] at d9; exact absurd d9.2.2.1 (by decide)
          · rw [h2, h5]
            exact ⟨nw - q, by omega, pk_sub hq⟩
        obtain ⟨gn, hg1, hg2⟩ := hgn
        rw [r_byFrames ha he (show k < 4 by omega) hp hb hk2 hg2 (by omega), qqx, hk2, hg2, nI_clamp (by omega), nI_clamp (by omega)]
      · rw [if_neg i0, qqx, if_neg (by rw [d, decide_eq_false i0]; decide)]
    · rw [if_neg d, qqx, if_neg (by rw [Bool.not_eq_true _ |>.mp d, Bool.false_and]; decide)]
end FRM
