def anEq (K : kS) (σ : mS) : Prop := ∀ a, a < 4 → K.1 34 a 0 = σ.1 60 a ∧ K.1 34 a 1 = σ.1 61 a ∧ K.1 34 a 2 = σ.1 62 a ∧ ∀ p, p < 5 → (∀ t, t < 32 → bt (K.1 37 a p) t = (decide (t < 11) && aSt σ a p t)) ∧ ∀ t, t < 11 → aSt σ a p t = true → K.1 36 (5 * a + p) t = aFn σ a p t
def qPy (σ : mS) (e : Nat) : Option Nat := if 0 ≤ σ.1 43 (12 * e + 11) ∧ σ.1 43 (12 * e + 11) ≤ 3 then some (σ.1 43 (12 * e + 11)).toNatClampNeg else none
def tEq (K : kS) (σ : mS) (e p : Nat) : Prop := (σ.1 55 (5 * e + p) = -1 ∧ K.1 10 e p = 0) ∨ (σ.1 55 (5 * e + p) ≠ -1 ∧ K.1 9 e p = σ.1 55 (5 * e + p) ∧ K.1 10 e p = σ.1 56 (5 * e + p) ∧ K.1 8 e p = σ.1 57 (5 * e + p) ∧ σ.1 58 (5 * e + p) = σ.1 43 (12 * e + p))
def pEq (K : kS) (σ : mS) (e : Nat) : Prop := ∀ k, qPy σ e = some k → K.1 6 e 8 = σ.1 59 e ∧ 0 ≤ σ.1 59 e
def iEq (K : kS) (σ : mS) (e : Nat) : Prop := ∀ p, p < 5 → bt (K.1 6 e 3) p = decide (σ.1 47 (5 * e + p) ≠ 0)
section CSN
variable {T : qqT} {A : kA} {ex : Nat → Nat → Prop} {K : kS} {S : cS} {σ : mS}
theorem qPy_is {e k : Nat} (h : qPy σ e = some k) : k < 4 ∧ σ.1 43 (12 * e + 11) = nI k := by
  unfold qPy at h
  by_cases c : 0 ≤ σ.1 43 (12 * e + 11) ∧ σ.1 43 (12 * e + 11) ≤ 3
  · rw [if_pos c] at h
    obtain ⟨q, hq, hq2⟩ := nI_of2 (x := σ.1 43 (12 * e + 11)) (M := 3) (n := 3) (by decide) (Int32.not_lt.mpr c.1) c.2
    rw [hq2, nI_clamp (by omega)] at h
    cases h
    exact ⟨by omega, hq2⟩
  · rw [if_neg c] at h; cases h
theorem nI_prem (k : Nat) : nI (k + 1) + -1 = nI k := by
  rw [← nI_add k 1, Int32.add_assoc, show nI 1 + -1 = 0 from rfl, Int32.add_zero]
theorem fFst_z {c : Nat → Bool} : ∀ k, (∀ t, t < k → c t = false) → fFst c k = none := by
  intro k
  induction k with
  | zero => intro _; rfl
  | succ k ih =>
    intro h
    unfold fFst
    rw [if_neg (by rw [h k (Nat.lt_succ_self _)]; decide)]
    exact ih (fun t ht => h t (by omega))
theorem fFst_some {c : Nat → Bool} : ∀ k, (fFst c k).isSome = true → ∃ t, t < k ∧ c t = true := by
  intro k h
  obtain ⟨t, ht⟩ := Option.isSome_iff_exists.mp h
  exact ⟨t, fFst_is ht⟩
theorem c_sa_179 (ha : RAn σ) (h : KA A ex K S) (p9 : KP ex K) (an : anEq K σ) {a p g : Nat} (ha4 : a < 4) (hp : p < 5) (hg : g ≤ aLn σ a) {base : Int32} : ∀ j m, j ≤ 11 → j < m → f_X0_shownAt_179 (A 34 a) m (nI p) (K.1 37 a p) (nI (10 * g)) (nI (frP 0 (aFs σ a p g))) (frV (aFn σ a p) base (aFs σ a p g)) (nI (frP 10 (fNx (fun t => aSt σ a p t && decide (10 * g < t * aLn σ a)) (11 - j) j))) (frV (aFn σ a p) base (fNx (fun t => aSt σ a p t && decide (10 * g < t * aLn σ a)) (11 - j) j)) (nI j + -1) S = some (qFr σ a p g base) := by
  obtain ⟨n1, n2, n3⟩ := aLn_is ha ha4
  obtain ⟨p1, p2⟩ := qFp (p := p) n1 hg
  obtain ⟨a0, a1, a2, a3⟩ := an a ha4
  obtain ⟨b1, b2⟩ := a3 p hp
  have x34 : ex 34 a := (p9.1.2.2.1 a ha4).1
  have x35 : ex 35 a := (p9.1.2.2.1 a ha4).2.1
  have x36 : ex 36 (5 * a + p) := p9.1.2.2.2.1 _ (by omega)
  have k35 := (p9.2.2.2.2.1 a ha4).2.1
  have k36 := (p9.2.2.2.2.1 a ha4).2.2.2 p hp
  have gn : gI S (some (A 34 a)) 0 0 = some (nI (aLn σ a)) := by rw [h.I 34 0 x34 rfl, a0, n3]
  intro j
  induction j with
  | zero =>
    intro m _ hm
    obtain ⟨m, rfl⟩ : ∃ m', m = m' + 1 := ⟨m - 1, by omega⟩
    rw [f_X0_shownAt_179, if_pos (show nI 0 + -1 < 0 by decide), gn, qqx]
    have eX : fNx (fun t => aSt σ a p t && decide (10 * g < t * aLn σ a)) (11 - 0) 0 = aNx σ a p g := rfl
    rw [eX, pk_sub p1, pk_mul]
    have hle : (frP 10 (aNx σ a p g) - frP 0 (aFs σ a p g)) * aLn σ a ≤ 10 * 1000 := Nat.mul_le_mul (by omega) n2
    unfold qFr frL f_X0_shownAt_275
    by_cases c : frP 0 (aFs σ a p g) = frP 10 (aNx σ a p g)
    · have e0 : (frP 10 (aNx σ a p g) - frP 0 (aFs σ a p g)) * aLn σ a = 0 := by rw [c, Nat.sub_self, Nat.zero_mul]
      rw [if_pos c, e0, if_neg (show ¬ (0 : Int32) < nI 0 by decide)]
    · have hpr : 1 ≤ (frP 10 (aNx σ a p g) - frP 0 (aFs σ a p g)) * aLn σ a := Nat.mul_pos (by omega) (by omega)
      have h0 : (0 : Int32) < nI ((frP 10 (aNx σ a p g) - frP 0 (aFs σ a p g)) * aLn σ a) := nI_lt (a := 0) (by omega) (by omega)
      rw [if_neg c, if_pos h0, qqx, ldv_n (l_n0 hpr (by omega)), qqx, pk_mul]
  | succ j ih =>
    intro m hj hm
    obtain ⟨m, rfl⟩ : ∃ m', m = m' + 1 := ⟨m - 1, by omega⟩
    have hih := ih m (by omega) (by omega)
    rw [nI_prem, f_X0_shownAt_179, if_neg (nI_pos (by omega)), c_ask _ (by omega), b1 j (by omega), decide_eq_true (show j < 11 by omega), Bool.true_and, gn, qqx, pk_mul]
    have eX : fNx (fun t => aSt σ a p t && decide (10 * g < t * aLn σ a)) (11 - j) j = if (aSt σ a p j && decide (10 * g < j * aLn σ a)) = true then some j else fNx (fun t => aSt σ a p t && decide (10 * g < t * aLn σ a)) (11 - (j + 1)) (j + 1) := by
      rw [show 11 - j = (11 - (j + 1)) + 1 by omega]
      rfl
    rw [eX] at hih
    have htn : j * aLn σ a ≤ 10 * 1000 := Nat.mul_le_mul (by omega) n2
    have hle : (nI (j * aLn σ a) ≤ nI (10 * g)) = (j * aLn σ a ≤ 10 * g) := nI_leE (by omega) (by omega)
    unfold f_X0_shownAt_221
    by_cases c : aSt σ a p j = true
    · rw [if_pos c]
      by_cases d : 10 * g < j * aLn σ a
      · rw [if_neg (fun z => absurd (hle.mp z) (by omega)), h.R 34 0 x34 rfl, k35, qqx]
        show ((aR S (some (A 35 a)) 50 (nI p)).bind _) = _
        rw [h.AR 35 50 5 x35 rfl hp, k36, qqx]
        show ((aI S (some (A 36 (5 * a + p))) (nI j)).bind _) = _
        rw [h.AI 36 11 x36 rfl (by omega), b2 j (by omega) c, qqx]
        rw [if_pos (by rw [c, decide_eq_true d]; rfl)] at hih
        exact hih
      · rw [if_pos (hle.mpr (by omega))]
        rw [if_neg (by rw [c, decide_eq_false d]; decide)] at hih
        exact hih
    · rw [if_neg c]
      rw [if_neg (by rw [Bool.not_eq_true _ |>.mp c, Bool.false_and]; decide)] at hih
      exact hih
theorem c_sa_125 (ha : RAn σ) (h : KA A ex K S) (p9 : KP ex K) (an : anEq K σ) {a p g : Nat} (ha4 : a < 4) (hp : p < 5) (hg : g ≤ aLn σ a) {base : Int32} : ∀ n m t, t + n = 11 → n < m → f_X0_shownAt_125 (A 34 a) m (nI p) (K.1 37 a p) (nI (10 * g)) (nI (frP 0 (fFst (fun t => aSt σ a p t && decide (t * aLn σ a ≤ 10 * g)) t))) (frV (aFn σ a p) base (fFst (fun t => aSt σ a p t && decide (t * aLn σ a ≤ 10 * g)) t)) 10 base (nI t) S = some (qFr σ a p g base) := by
  obtain ⟨n1, n2, n3⟩ := aLn_is ha ha4
  obtain ⟨a0, a1, a2, a3⟩ := an a ha4
  obtain ⟨b1, b2⟩ := a3 p hp
  have x34 : ex 34 a := (p9.1.2.2.1 a ha4).1
  have x35 : ex 35 a := (p9.1.2.2.1 a ha4).2.1
  have x36 : ex 36 (5 * a + p) := p9.1.2.2.2.1 _ (by omega)
  have k35 := (p9.2.2.2.2.1 a ha4).2.1
  have k36 := (p9.2.2.2.2.1 a ha4).2.2.2 p hp
  have gn : gI S (some (A 34 a)) 0 0 = some (nI (aLn σ a)) := by rw [h.I 34 0 x34 rfl, a0, n3]
  intro n
  induction n with
  | zero =>
    intro m t ht hm
    obtain ⟨m, rfl⟩ : ∃ m', m = m' + 1 := ⟨m - 1, by omega⟩
    have ht : t = 11 := by omega
    subst ht
    rw [f_X0_shownAt_125, if_pos (show (10 : Int32) < nI 11 by decide)]
    exact c_sa_179 ha h p9 an ha4 hp hg 11 4000 (Nat.le_refl _) (by decide)
  | succ n ih =>
    intro m t ht hm
    obtain ⟨m, rfl⟩ : ∃ m', m = m' + 1 := ⟨m - 1, by omega⟩
    have ht11 : t < 11 := by omega
    have hih := ih m (t + 1) (by omega) (by omega)
    have htn : t * aLn σ a ≤ 10 * 1000 := Nat.mul_le_mul (by omega) n2
    have hlt : (nI (10 * g) < nI (t * aLn σ a)) = (10 * g < t * aLn σ a) := nI_ltE (by omega) (by omega)
    rw [f_X0_shownAt_125, if_neg (show ¬ (10 : Int32) < nI t from Int32.not_lt.mpr (nI_le (b := 10) (by omega) (by decide))), c_ask _ (by omega), b1 t (by omega), decide_eq_true ht11, Bool.true_and, gn, qqx, pk_mul]
    have eF : fFst (fun t => aSt σ a p t && decide (t * aLn σ a ≤ 10 * g)) (t + 1) = if (aSt σ a p t && decide (t * aLn σ a ≤ 10 * g)) = true then some t else fFst (fun t => aSt σ a p t && decide (t * aLn σ a ≤ 10 * g)) t := rfl
    rw [eF] at hih
    unfold f_X0_shownAt_169
    rw [nI_1]
    by_cases c : aSt σ a p t = true
    · rw [if_pos c]
      by_cases d : 10 * g < t * aLn σ a
      · rw [if_pos (hlt.mpr d)]
        rw [if_neg (by rw [c, decide_eq_false (by omega)]; decide)] at hih
        exact hih
      · rw [if_neg (fun z => d (hlt.mp z)), h.R 34 0 x34 rfl, k35, qqx]
        show ((aR S (some (A 35 a)) 50 (nI p)).bind _) = _
        rw [h.AR 35 50 5 x35 rfl hp, k36, qqx]
        show ((aI S (some (A 36 (5 * a + p))) (nI t)).bind _) = _
        rw [h.AI 36 11 x36 rfl ht11, b2 t ht11 c, qqx]
        rw [if_pos (by rw [c, decide_eq_true (show t * aLn σ a ≤ 10 * g by omega)]; rfl)] at hih
        exact hih
    · rw [if_neg c]
      rw [if_neg (by rw [Bool.not_eq_true _ |>.mp c, Bool.false_and]; decide)] at hih
      exact hih
theorem aAny_bits (an : anEq K σ) {a p : Nat} (ha4 : a < 4) (hp : p < 5) : (K.1 37 a p = 0) = (aAny σ a p = false) := by
  obtain ⟨b1, -⟩ := (an a ha4).2.2.2 p hp
  refine propext ⟨fun z => ?_, fun z => b_ext (fun i hi => ?_)⟩
  · refine Bool.eq_false_iff.mpr (fun y => ?_)
    obtain ⟨t, h1, h2⟩ := fFst_some 11 y
    have := b1 t (by omega)
    rw [z, b_0, decide_eq_true h1, h2] at this
    cases this
  · rw [b1 i hi, b_0]
    by_cases c : i < 11
    · rw [decide_eq_true c, Bool.true_and]
      refine Bool.eq_false_iff.mpr (fun y => ?_)
      have e1 : ∀ k, i < k → (fFst (aSt σ a p) k).isSome = true := by
        intro k
        induction k with
        | zero => intro q; omega
        | succ k ih =>
          intro hk
          rw [fFst_any]
          by_cases q : i = k
          · subst q; rw [y]; rfl
          · rw [ih (by omega), Bool.or_true]
      have := e1 11 c
      unfold aAny at z
      rw [z] at this
      cases this
    · rw [decide_eq_false c, Bool.false_and]
theorem c_shownAt (ha : RAn σ) (h : KA A ex K S) (p9 : KP ex K) (an : anEq K σ) {a p : Nat} (ha4 : a < 4) (hp : p < 5) {gone v : Int32} (hgo : 0 ≤ gone → ∃ gn, gn ≤ 600000 ∧ gone = nI gn) : f_X0_shownAt (A 34 a) (nI p) gone v S = some (if (aAny σ a p && (decide (0 ≤ gone) && decide (gone < σ.1 60 a * σ.1 61 a))) = true then qFr σ a p (aGg σ a gone.toNatClampNeg) (if v = -1000000 then 0 else v) else v) := by
  obtain ⟨n1, n2, n3⟩ := aLn_is ha ha4
  obtain ⟨a0, a1, a2, a3⟩ := an a ha4
  obtain ⟨b1, -⟩ := a3 p hp
  have x34 : ex 34 a := (p9.1.2.2.1 a ha4).1
  have x37 : ex 37 a := (p9.1.2.2.1 a ha4).2.2
  have k37 := (p9.2.2.2.2.1 a ha4).2.2.1
  have gn : gI S (some (A 34 a)) 0 0 = some (nI (aLn σ a)) := by rw [h.I 34 0 x34 rfl, a0, n3]
  have g1 : gI S (some (A 34 a)) 0 1 = some (σ.1 61 a) := by rw [h.I 34 0 x34 rfl, a1]
  have g2 : gI S (some (A 34 a)) 0 2 = some (σ.1 62 a) := by rw [h.I 34 0 x34 rfl, a2]
  have e105 : ∀ g, g ≤ aLn σ a → ∀ base, f_X0_shownAt_105 (A 34 a) (nI p) (K.1 37 a p) (nI (10 * g)) base S = some (qFr σ a p g base) := fun g hg base => c_sa_125 ha h p9 an ha4 hp hg 11 4000 0 rfl (by decide)
  have e91 : ∀ g, g ≤ aLn σ a → ∀ x y, x * y = nI (10 * g) → f_X0_shownAt_91 (A 34 a) (nI p) v (K.1 37 a p) x y S = some (qFr σ a p g (if v = -1000000 then 0 else v)) := by
    intro g hg x y hxy
    unfold f_X0_shownAt_91
    rw [hxy]
    by_cases c : v = -1000000
    · rw [if_pos c, if_pos c]; exact e105 g hg 0
    · rw [if_neg c, if_neg c]; exact e105 g hg v
  unfold f_X0_shownAt f_X0_shownAt_48 f_X0_shownAt_89
  rw [if_neg (nI_pos (by omega)), if_neg (ge5 hp), gn, qqx, if_pos (show (0 : Int32) < nI (aLn σ a) from nI_lt (a := 0) (by omega) (by omega)), h.R 34 0 x34 rfl, k37, qqx]
  show ((aI S (some (A 37 a)) (nI p)).bind _) = _
  rw [h.AI 37 5 x37 rfl hp, qqx, n3]
  by_cases c : aAny σ a p = true
  · rw [if_neg (fun z => by rw [aAny_bits an ha4 hp, c] at z; cases z), c, Bool.true_and]
    by_cases d : gone < 0
    · rw [if_pos d, decide_eq_false (Int32.not_le.mpr d), Bool.false_and, if_neg (by decide)]
    · obtain ⟨k, hk, rfl⟩ := hgo (Int32.not_lt.mp d)
      rw [if_neg d, decide_eq_true (Int32.not_lt.mp d), Bool.true_and, qqx, g1, qqx]
      by_cases f : nI k < nI (aLn σ a) * σ.1 61 a
      · have erm : rm (nI k) (nI (aLn σ a)) = some (nI (k % aLn σ a)) := by
          unfold rm
          rw [if_neg (nI_ne0 (by omega) (by omega)), pk_rem (by omega) (by omega) (by omega)]
        have edv : dv (nI k) (nI (aLn σ a)) = some (nI (k / aLn σ a)) := by
          unfold dv
          rw [if_neg (nI_ne0 (by omega) (by omega)), pk_div (by omega) (by omega) (by omega)]
        have hq31 : k / aLn σ a < 2 ^ 31 := Nat.lt_of_le_of_lt (Nat.div_le_self _ _) (by omega)
        have erm2 : rm (nI (k / aLn σ a)) (2 : Int32) = some (nI (k / aLn σ a % 2)) := by
          unfold rm
          rw [if_neg (by decide), show (2 : Int32) = nI 2 from rfl, pk_rem hq31 (by decide) (by decide)]
        have hmod : k % aLn σ a < aLn σ a := Nat.mod_lt _ (by omega)
        rw [if_pos f, decide_eq_true f, if_pos rfl, qqx, erm, qqx, g2, qqx, nI_clamp (by omega)]
        obtain ⟨b, hb62⟩ := (ha.1 a ha4).2.2
        unfold aGg
        rw [hb62, b2_i0]
        cases b with
        | false =>
          rw [if_neg (show ¬ false = true by decide), if_neg (fun z : b2 false = 1 ∧ _ => absurd z.1 (by decide))]
          exact e91 _ (by omega) _ _ (by rw [show (10 : Int32) = nI 10 from rfl, pk_mul, Nat.mul_comm])
        | true =>
          rw [if_pos rfl, qqx, edv, qqx, erm2, qqx, show (1 : Int32) = nI 1 from rfl, iqI (by omega) (by omega)]
          by_cases m : k / aLn σ a % 2 = 1
          · rw [if_pos m, if_pos (show b2 true = nI 1 ∧ _ from ⟨rfl, m⟩), qqx, pk_sub (by omega)]
            exact e91 _ (by omega) _ _ (by rw [show (10 : Int32) = nI 10 from rfl, pk_mul])
          · rw [if_neg m, if_neg (show ¬ (b2 true = nI 1 ∧ k / aLn σ a % 2 = 1) from fun z => m z.2)]
            exact e91 _ (by omega) _ _ (by rw [show (10 : Int32) = nI 10 from rfl, pk_mul, Nat.mul_comm])
      · rw [if_neg f, decide_eq_false f, if_neg (by decide)]
  · rw [if_pos (by rw [aAny_bits an ha4 hp]; exact Bool.not_eq_true _ |>.mp c), Bool.not_eq_true _ |>.mp c, Bool.false_and, if_neg (by decide)]
theorem c_playedFor (hw : Tw T) (t : KT T ex K) (p9 : KP ex K) (kv : KV T K) (h : KA A ex K S) {e : Nat} (he : e < Tn T) (hv : K.1 7 e 11 = σ.1 43 (12 * e + 11)) : f_X11_playedFor (A 49 0) (some (A 6 e)) S = some ((qPy σ e).map (A 34)) := by
  have st := kSt_of hw t p9 kv false he
  have e1 : gR S (some (A 6 e)) 9 0 = some (some (A 7 e)) := st.v h
  have e2 : aI S (some (A 7 e)) (11 : Int32) = some (σ.1 43 (12 * e + 11)) := by
    have : aI S (some (A 7 e)) (nI 11) = some (K.1 7 e 11) := st.a h (by decide)
    rw [show (11 : Int32) = nI 11 from rfl, this, hv]
  unfold f_X11_playedFor f_X11_animationAt f_X11_animationAt_18
  rw [e1, qqx, e2, qqx, p9.r11 h, qqx, c_isBelow, qqx, b2_i0]
  unfold qPy
  by_cases c : 0 ≤ σ.1 43 (12 * e + 11) ∧ σ.1 43 (12 * e + 11) ≤ 3
  · obtain ⟨k, hk, hk2⟩ := nI_of2 (x := σ.1 43 (12 * e + 11)) (M := 3) (n := 3) (by decide) (Int32.not_lt.mpr c.1) c.2
    rw [if_pos c, hk2, decide_eq_true (show (0 : Int32) ≤ nI k ∧ nI k < 4 from ⟨nI_pos' (by omega), nI_lt (b := 4) (by omega) (by decide)⟩), if_pos rfl, h.R 49 11 (p9.x (by decide) (by decide) (by decide)) rfl, p9.2.1.2.2.2.1, qqx, nI_clamp (by omega)]
    show ((aR S (some (A 62 0)) 30 (nI k)).bind _).bind _ = _
    rw [h.AR 62 30 4 (p9.x (by decide) (by decide) (by decide)) rfl (by omega), (p9.2.2.2.2.1 k (by omega)).1, qqx]
    rfl
  · rw [if_neg c, decide_eq_false (fun z => c ⟨z.1, ?_⟩), if_neg (by decide)]
    · rfl
    · have h1 := Int32.lt_iff_toInt_lt.mp z.2
      refine Int32.le_iff_toInt_le.mpr ?_
      have h2 : (4 : Int32).toInt = 4 := by decide
      have h3 : (3 : Int32).toInt = 3 := by decide
      omega
theorem c_seenAt (hw : Tw T) (t : KT T ex K) (p9 : KP ex K) (kv : KV T K) (h : KA A ex K S) (ha : RAn σ) (hn : RNw σ) (an : anEq K σ) {e p : Nat} (he : e < Tn T) (hp : p < 5) (hv : K.1 7 e p = σ.1 43 (12 * e + p)) (te : tEq K σ e p) (im : iEq K σ e) (pe : pEq K σ e) : f_X9_seenAt (A 6 e) (nI p) (σ.2 54) ((qPy σ e).map (A 34)) S = some (qSeen σ e p) := by
  have h30 := hw.n30
  have st := kSt_of hw t p9 kv false he
  have x6 : ex 6 e := t.E he (by decide)
  have g0 : gR S (some (A 6 e)) 9 0 = some (some (A 7 e)) := st.v h
  have g5 : gR S (some (A 6 e)) 9 5 = some (some (A 8 e)) := by rw [h.R 6 9 x6 rfl, (kv e he).2.1]; rfl
  have g6 : gR S (some (A 6 e)) 9 6 = some (some (A 9 e)) := by rw [h.R 6 9 x6 rfl, (kv e he).2.2]; rfl
  have g7 : gR S (some (A 6 e)) 9 7 = some (some (A 10 e)) := t.g67 h he
  have a7 : aI S (some (A 7 e)) (nI p) = some (σ.1 43 (12 * e + p)) := by
    have : aI S (some (A 7 e)) (nI p) = some (K.1 7 e p) := st.a h (by omega)
    rw [this, hv]
  have a8 : aI S (some (A 8 e)) (nI p) = some (K.1 8 e p) := h.AI 8 5 (t.E he (by decide)) rfl hp
  have a9 : aI S (some (A 9 e)) (nI p) = some (K.1 9 e p) := h.AI 9 5 (t.E he (by decide)) rfl hp
  have a10 : aI S (some (A 10 e)) (nI p) = some (K.1 10 e p) := h.AI 10 5 (t.E he (by decide)) rfl hp
  obtain ⟨nw, w1, w2, w3, w4⟩ := hn
  have e65 : qMv σ e p = false → f_X9_seenAt_65 (A 6 e) (nI p) (σ.2 54) ((qPy σ e).map (A 34)) S = some (qSeen σ e p) := by
    intro hm
    unfold qSeen f_X9_seenAt_65 f_X9_seenAt_80
    rw [if_neg (show ¬ qMv σ e p = true by rw [hm]; decide)]
    have e80 : (gR S (some (A 6 e)) 9 0).bind (fun v1 => (aI S v1 (nI p)).bind (fun v2 => some v2)) = some (σ.1 43 (12 * e + p)) := by rw [g0, qqx, a7]; rfl
    cases hy : qPy σ e with
    | none =>
      rw [if_pos (show Option.map (A 34) none = none from rfl), e80]
      have : qPl σ e p = false := by
        unfold qPl
        unfold qPy at hy
        by_cases c : 0 ≤ σ.1 43 (12 * e + 11) ∧ σ.1 43 (12 * e + 11) ≤ 3
        · rw [if_pos c] at hy; cases hy
        · rw [decide_eq_false c]; rfl
      rw [this, Bool.false_and, if_neg (by decide)]
    | some k =>
      obtain ⟨hk4, hk⟩ := qPy_is hy
      obtain ⟨q1, q2⟩ := pe k hy
      rw [if_neg (show ¬ Option.map (A 34) (some k) = none from fun z => by cases z), h.I 6 9 x6 rfl, qqx, c_ask _ (by omega), im p hp, h.I 6 9 x6 rfl, qqx, e80, g0, qqx, a7, qqx, show Option.map (A 34) (some k) = some (A 34 k) from rfl, h.Rc 34 0 ((p9.1.2.2.1 k hk4).1) rfl, qqx, q1]
      have hgo : 0 ≤ σ.2 54 - σ.1 59 e → ∃ gn, gn ≤ 600000 ∧ σ.2 54 - σ.1 59 e = nI gn := by
        intro _
        rcases w3 e (by omega) with h5 | ⟨q, hq, h5⟩
        · rw [h5] at q2; exact absurd q2 (by decide)
        · rw [w2, h5]
          exact ⟨nw - q, by omega, pk_sub hq⟩
      rw [c_shownAt ha h p9 an hk4 hp hgo, qqx]
      have hg0 : 0 ≤ σ.2 54 - σ.1 59 e := by
        rcases w3 e (by omega) with h5 | ⟨q, hq, h5⟩
        · rw [h5] at q2; exact absurd q2 (by decide)
        · rw [w2, h5, pk_sub hq]; exact nI_pos' (by omega)
      have epl : qPl σ e p = (aAny σ k p && (decide (0 ≤ σ.2 54 - σ.1 59 e) && decide (σ.2 54 - σ.1 59 e < σ.1 60 k * σ.1 61 k))) := by
        unfold qPl
        rw [hk, nI_clamp (by omega), decide_eq_true (show (0 : Int32) ≤ nI k ∧ nI k ≤ 3 from ⟨nI_pos' (by omega), nI_le (b := 3) (by omega) (by decide)⟩), decide_eq_true q2, decide_eq_true hg0]
        rfl
      rw [epl, hk, nI_clamp (by omega)]
      by_cases i0 : σ.1 47 (5 * e + p) = 0
      · rw [if_neg (by rw [decide_eq_false (fun z => z i0)]; decide), decide_eq_true i0, Bool.and_true]
        rfl
      · rw [if_pos (by rw [decide_eq_true i0]), decide_eq_false i0, Bool.and_false, if_neg (by decide)]
  unfold f_X9_seenAt
  rw [g6, qqx, a9, qqx, g7, qqx, a10, qqx]
  have ee : qMv σ e p = (decide (¬ K.1 10 e p ≤ 0) && decide (¬ K.1 10 e p ≤ σ.2 54 - K.1 9 e p)) ∧ (qMv σ e p = true → K.1 9 e p = σ.1 55 (5 * e + p) ∧ K.1 10 e p = σ.1 56 (5 * e + p) ∧ K.1 8 e p = σ.1 57 (5 * e + p) ∧ σ.1 58 (5 * e + p) = σ.1 43 (12 * e + p)) := by
    unfold qMv
    rcases te with ⟨t1, t2⟩ | ⟨t1, t2, t3, t4, t5⟩
    · rw [t1, t2, decide_eq_false (show ¬ (0 : Int32) ≤ -1 by decide), decide_eq_false (show ¬ ¬ (0 : Int32) ≤ 0 by decide)]
      exact ⟨rfl, fun z => by cases z⟩
    · refine ⟨?_, fun _ => ⟨t2, t3, t4, t5⟩⟩
      rcases w4 (5 * e + p) (by omega) with h5 | ⟨k, k1, k2, m, m1, m2, m3⟩
      · exact absurd h5 t1
      · rw [t3, t2, m3, k2, decide_eq_true (show (0 : Int32) ≤ nI k from nI_pos' (by omega)), decide_eq_true (show ¬ nI m ≤ 0 from Int32.not_le.mpr (nI_lt (a := 0) (by omega) (by omega)))]
        rw [Bool.true_and, Bool.true_and]
        exact decide_eq_decide.mpr Int32.not_le.symm
  by_cases c1 : K.1 10 e p ≤ 0
  · rw [if_pos c1]
    exact e65 (by rw [ee.1, decide_eq_false (fun z => z c1)]; rfl)
  · rw [if_neg c1, qqx, a10, qqx]
    by_cases c2 : K.1 10 e p ≤ σ.2 54 - K.1 9 e p
    · rw [if_pos c2]
      exact e65 (by rw [ee.1, decide_eq_false (show ¬ ¬ K.1 10 e p ≤ σ.2 54 - K.1 9 e p from fun z => z c2), Bool.and_false])
    · have hm : qMv σ e p = true := by rw [ee.1, decide_eq_true c1, decide_eq_true c2]; rfl
      obtain ⟨r1, r2, r3, r4⟩ := ee.2 hm
      rw [if_neg c2, g5, qqx, a8, qqx, g0, qqx, a7, qqx, qqx, a8, qqx, qqx, a10, qqx]
      unfold qSeen
      rw [if_pos hm, r1, r2, r3, r4]
      have hm2 := hm
      unfold qMv at hm2
      simp only [Bool.and_eq_true, decide_eq_true_eq] at hm2
      rcases w4 (5 * e + p) (by omega) with h5 | ⟨k, -, -, m, m1, m2, m3⟩
      · rw [h5] at hm2; exact absurd hm2.1 (by decide)
      · rw [m3, ldv_n (l_n0 m1 (by omega)), qqx]
end CSN
