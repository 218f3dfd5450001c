def nrC (σ : mS) (l : Bool) (i : Nat) : Int32 := if l = true then tNr σ i else 0
def frC (σ : mS) (l : Bool) (i : Nat) : Int32 := if l = true then tFr σ i else tBi σ i ||| tDp σ i
def h7C (σ : mS) (i : Nat) : Int32 := if σ.1 17 i = 7 then 32768 ||| (if 1 < tA σ i then 16384 else 0) else 0
def acN (σ : mS) (s m j : Nat) : Int32 := orF (fun k => orF (fun t => nrC σ (decide (k + 1 = m)) (16 * s + 4 * k + t)) (nTt σ s k)) j
def acF (σ : mS) (s m j : Nat) : Int32 := orF (fun k => orF (fun t => frC σ (decide (k + 1 = m)) (16 * s + 4 * k + t)) (nTt σ s k)) j
def acA (σ : mS) (s j : Nat) : Int32 := orF (fun k => (if 0 < k ∧ 1 < cO σ s k then 16384 else 0) ||| orF (fun t => tAl σ (16 * s + 4 * k + t)) (nTt σ s k)) j
section SL1
variable {σ σ' : mS} {s b i a j : Nat} {k10 : Int32 → Int32 → Int32 → Int32 → Int32 → mS → Option mS} {k76 : Int32 → Int32 → Int32 → Int32 → Int32 → Int32 → Int32 → mS → Option mS} {x1 x2 x3 x4 x5 x6 x7 x9 x11 x12 y0 y1 B D : Int32} {l w : Bool}
theorem RTs_k (r : RTs σ b i) : (σ.1 17 i = 5 ∨ σ.1 17 i = 6 → ∃ a, a < b ∧ σ.1 18 i = nI a) ∧ (σ.1 17 i = 7 → (∃ c, c < 4 ∧ σ.1 18 i = nI c) ∧ ∃ a, a < b ∧ σ.1 19 i = nI a) := by
  obtain ⟨q, q1, q2, -, -, -, q6, q7⟩ := r
  have e : ∀ n : Nat, n < 10 → σ.1 17 i = nI n → q = n := fun n hn z => (nI_eqE (a := q) (b := n) (by omega) (by omega)).mp (by rw [← q2]; exact z)
  refine ⟨fun z => ?_, fun z => ?_⟩
  · obtain ⟨a, a1, a2, -⟩ := q6 (z.imp (e 5 (by decide)) (e 6 (by decide)))
    exact ⟨a, a1, a2⟩
  · obtain ⟨h, a, a1, a2, -⟩ := q7 (e 7 (by decide) z)
    exact ⟨h, a, a1, a2⟩
theorem r_bits (hi : i < 496) : f_bits (nI i) σ = some (tBi σ i) := by
  unfold f_bits f_bits_84 tBi
  rw [rd_17 hi, rd_18 hi, qqx]
  by_cases c1 : σ.1 17 i = 1
  · rw [if_pos c1, if_pos c1, qqx]
  · rw [if_neg c1, if_neg c1, qqx]
    by_cases c2 : σ.1 17 i = 2
    · rw [if_pos c2, if_pos c2, qqx]
    · rw [if_neg c2, if_neg c2, qqx]
      by_cases c3 : σ.1 17 i = 3
      · rw [if_pos c3, if_pos c3, qqx]
      · rw [if_neg c3, if_neg c3, qqx]
        by_cases c4 : σ.1 17 i = 4
        · rw [if_pos c4, if_pos c4]
        · rw [if_neg c4, if_neg c4]
theorem r_weigh (hi : i < 496) (hb : b ≤ 30) (r : RTs σ b i) : f_weigh (nI i) σ = some (tWt σ i) := by
  obtain ⟨q5, q7⟩ := RTs_k r
  unfold f_weigh f_weigh_17 f_weigh_32 f_weigh_68 tWt
  rw [rd_17 hi, qqx]
  by_cases c0 : σ.1 17 i = 0
  · rw [if_pos c0, if_pos (Or.inl c0)]
  · rw [if_neg c0]
    by_cases c9 : σ.1 17 i = 9
    · rw [if_pos c9, if_pos (Or.inr c9)]
    · rw [if_neg c9, if_neg (show ¬ (σ.1 17 i = 0 ∨ σ.1 17 i = 9) from fun z => z.elim c0 c9)]
      by_cases c5 : σ.1 17 i = 5 ∨ σ.1 17 i = 6
      · obtain ⟨a, a1, a2⟩ := q5 c5
        have e : tA σ i = a := by unfold tA; rw [a2]; exact nI_clamp (by omega)
        have e2 : (rd σ 18 (nI i)).bind (fun v1 => (rd σ 20 v1).bind (fun v2 => some v2)) = some (σ.1 20 (tA σ i)) := by
          rw [rd_18 hi, qqx, a2, rd_20 (by omega), qqx, e]
        rw [if_pos c5]
        rcases c5 with c5 | c5
        · rw [if_pos c5]; exact e2
        · rw [if_neg (show ¬ σ.1 17 i = 5 by rw [c5]; decide), if_pos c5]; exact e2
      · rw [if_neg (show ¬ σ.1 17 i = 5 from fun z => c5 (Or.inl z)), if_neg (show ¬ σ.1 17 i = 6 from fun z => c5 (Or.inr z)), if_neg c5]
        by_cases c7 : σ.1 17 i = 7
        · obtain ⟨-, a, a1, a2⟩ := q7 c7
          have e : tB σ i = a := by unfold tB; rw [a2]; exact nI_clamp (by omega)
          rw [if_pos c7, if_pos c7, rd_19 hi, qqx, a2, rd_20 (by omega), qqx, e]
        · rw [if_neg c7, if_neg c7]
theorem r_st304 (hi : i < 496) (h7 : σ.1 17 i = 7 → ∃ c, c < 4 ∧ σ.1 18 i = nI c) : f_study_304 k10 k76 x1 x2 x4 x5 x6 x7 (nI i) x9 x12 y0 y1 σ = k76 x1 x2 (y0 ||| y1) (x4 ||| ((x9 ||| x12) ||| h7C σ i)) x5 x6 (x7 + 1) σ := by
  unfold f_study_304 f_study_346 f_study_351 h7C
  rw [rd_17 hi, qqx]
  by_cases c : σ.1 17 i = 7
  · obtain ⟨q, q1, q2⟩ := h7 c
    have e : tA σ i = q := by unfold tA; rw [q2]; exact nI_clamp (by omega)
    rw [if_pos c, if_pos c, rd_18 hi, qqx, q2, e]
    have e2 : (nI q ≤ 1) = (q ≤ 1) := nI_leE (b := 1) (by omega) (by decide)
    by_cases d : q ≤ 1
    · rw [if_pos (e2.mpr d), if_neg (show ¬ 1 < q by omega)]
    · rw [if_neg (fun z => d (e2.mp z)), if_pos (show 1 < q by omega)]
  · rw [if_neg c, if_neg c]
theorem r_st237 (hi : i < 496) (h7 : σ.1 17 i = 7 → ∃ c, c < 4 ∧ σ.1 18 i = nI c) (hw : w = true → x11 = nI a ∧ a < 31) : f_study_237 k10 k76 x1 x2 x3 x4 x5 (b2 l) x7 (nI i) B x11 D (b2 w) σ = k76 x1 ((x2 ||| cond l B 0) ||| cond w (σ.1 23 a) 0) ((x3 ||| cond l 0 B) ||| cond w (σ.1 24 a) D) (x4 ||| ((B ||| D) ||| h7C σ i)) x5 (b2 l) (x7 + 1) σ := by
  have s1 : ∀ Z W V, f_study_284 k10 k76 x1 Z x4 x5 (b2 l) x7 (nI i) B x11 D (b2 w) W V σ = k76 x1 Z ((W ||| V) ||| cond w (σ.1 24 a) D) (x4 ||| ((B ||| D) ||| h7C σ i)) x5 (b2 l) (x7 + 1) σ := fun Z W V => by
    unfold f_study_284
    rw [b2_i0]
    cases w with
    | false => rw [if_neg (by decide), r_st304 hi h7]; rfl
    | true =>
      obtain ⟨e, ha⟩ := hw rfl
      rw [if_pos rfl, e, rd_24 ha, qqx, r_st304 hi h7]; rfl
  have s2 : ∀ Z V, f_study_270 k10 k76 x1 x3 x4 x5 (b2 l) x7 (nI i) B x11 D (b2 w) Z V σ = k76 x1 (Z ||| V) ((x3 ||| cond l 0 B) ||| cond w (σ.1 24 a) D) (x4 ||| ((B ||| D) ||| h7C σ i)) x5 (b2 l) (x7 + 1) σ := fun Z V => by
    unfold f_study_270
    rw [b2_i0, s1, s1]
    cases l with
    | false => exact if_neg (by decide)
    | true => exact if_pos rfl
  have s3 : ∀ Z V, f_study_251 k10 k76 x1 x3 x4 x5 (b2 l) x7 (nI i) B x11 D (b2 w) Z V σ = k76 x1 ((Z ||| V) ||| cond w (σ.1 23 a) 0) ((x3 ||| cond l 0 B) ||| cond w (σ.1 24 a) D) (x4 ||| ((B ||| D) ||| h7C σ i)) x5 (b2 l) (x7 + 1) σ := fun Z V => by
    unfold f_study_251
    rw [b2_i0, s2]
    cases w with
    | false => exact if_neg (by decide)
    | true =>
      obtain ⟨e, ha⟩ := hw rfl
      rw [if_pos rfl, e, rd_23 ha, qqx, ← e, s2]; rfl
  unfold f_study_237
  rw [b2_i0, s3, s3]
  cases l with
  | false => exact if_neg (by decide)
  | true => exact if_pos rfl
theorem r_st142 (hi : i < 496) (hb : b ≤ 30) (r : RTs σ b i) (hc : ∀ a, a < b → σ.1 14 a = nI (nC σ a) ∧ nC σ a ≤ 4) : f_study_142 k10 k76 x1 x2 x3 x4 x5 (b2 l) x7 (nI i) (tBi σ i) (b2 (decide (σ.1 17 i = 5 ∨ σ.1 17 i = 6))) σ = k76 x1 (x2 ||| nrC σ l i) (x3 ||| frC σ l i) (x4 ||| tAl σ i) x5 (b2 l) (x7 + 1) σ := by
  obtain ⟨q5, q7⟩ := RTs_k r
  have h7 : σ.1 17 i = 7 → ∃ c, c < 4 ∧ σ.1 18 i = nI c := fun z => (q7 z).1
  have ge : ∀ a, a < b → (0 : Int32) ≤ nI a := fun a ha => Int32.not_lt.mp (nI_pos (by omega))
  by_cases c5 : σ.1 17 i = 5 ∨ σ.1 17 i = 6
  · obtain ⟨a, a1, a2⟩ := q5 c5
    have tAa : tA σ i = a := by unfold tA; rw [a2]; exact nI_clamp (by omega)
    have dp : tDp σ i = σ.1 25 a := by unfold tDp; rw [if_pos c5, tAa]
    have ns : tNs σ i = decide (nC σ a = 1) := by unfold tNs; rw [tAa, decide_eq_true c5, Bool.true_and]
    have f1 : f_study_200 k10 k76 x1 x2 x3 x4 x5 (b2 l) x7 (nI i) (tBi σ i) (b2 true) (nI a) (σ.1 25 a) σ = f_study_237 k10 k76 x1 x2 x3 x4 x5 (b2 l) x7 (nI i) (tBi σ i) (nI a) (σ.1 25 a) (b2 (l && decide (nC σ a = 1))) σ := by
      unfold f_study_200 f_study_227 f_study_236
      rw [b2_i0]
      cases l with
      | false => exact if_neg (by decide)
      | true =>
        have e : (nI (nC σ a) = 1) = (nC σ a = 1) := nI_eqE (b := 1) (by have := (hc a a1).2; omega) (by decide)
        rw [if_pos rfl, if_neg (show ¬ b2 true = 0 by decide), if_pos (ge a a1), rd_14 (by omega), qqx, (hc a a1).1]
        by_cases z : nC σ a = 1
        · rw [decide_eq_true z]; exact if_pos (e.mpr z)
        · rw [decide_eq_false z]; exact if_neg (fun y => z (e.mp y))
    unfold f_study_142 f_study_182
    rw [decide_eq_true c5, if_neg (show ¬ b2 true = 0 by decide), rd_18 hi, qqx, a2, if_pos (ge a a1), rd_25 (by omega), qqx, f1, r_st237 (a := a) hi h7 (fun _ => ⟨rfl, by omega⟩)]
    have e1 : (x2 ||| cond l (tBi σ i) 0) ||| cond (l && decide (nC σ a = 1)) (σ.1 23 a) 0 = x2 ||| nrC σ l i := by
      unfold nrC tNr
      rw [ns, tAa, or_as]
      cases l with
      | false => show x2 ||| ((0 : Int32) ||| 0) = x2 ||| 0; rw [or_00]
      | true =>
        show x2 ||| (tBi σ i ||| cond (decide (nC σ a = 1)) (σ.1 23 a) 0) = x2 ||| (tBi σ i ||| if decide (nC σ a = 1) = true then σ.1 23 a else 0)
        cases decide (nC σ a = 1) <;> rfl
    have e2 : (x3 ||| cond l 0 (tBi σ i)) ||| cond (l && decide (nC σ a = 1)) (σ.1 24 a) (σ.1 25 a) = x3 ||| frC σ l i := by
      unfold frC tFr
      rw [ns, tAa, dp, or_as]
      cases l with
      | false => rfl
      | true =>
        show x3 ||| ((0 : Int32) ||| cond (decide (nC σ a = 1)) (σ.1 24 a) (σ.1 25 a)) = x3 ||| if decide (nC σ a = 1) = true then σ.1 24 a else σ.1 25 a
        rw [z_or]
        cases decide (nC σ a = 1) <;> rfl
    have e3 : (tBi σ i ||| σ.1 25 a) ||| h7C σ i = tAl σ i := by unfold tAl h7C; rw [dp]
    rw [e1, e2, e3]
  · have ns : tNs σ i = false := by unfold tNs; rw [decide_eq_false c5, Bool.false_and]
    have nr : ∀ x, x ||| nrC σ l i = x ||| cond l (tBi σ i) 0 := fun x => by
      unfold nrC tNr
      rw [ns, if_neg (show ¬ false = true by decide), or_00]
      cases l <;> rfl
    have fr : ∀ x, x ||| frC σ l i = (x ||| cond l 0 (tBi σ i)) ||| tDp σ i := fun x => by
      unfold frC tFr
      rw [ns, if_neg (show ¬ false = true by decide), or_as]
      cases l with
      | false => rfl
      | true => show x ||| tDp σ i = x ||| (0 ||| tDp σ i); rw [z_or]
    have f1 : ∀ y d, f_study_200 k10 k76 x1 x2 x3 x4 x5 (b2 l) x7 (nI i) (tBi σ i) (b2 false) y d σ = f_study_237 k10 k76 x1 x2 x3 x4 x5 (b2 l) x7 (nI i) (tBi σ i) y d (b2 false) σ := fun y d => by
      unfold f_study_200 f_study_236
      rw [b2_i0, if_pos (show b2 false = 0 from rfl)]
      cases l with
      | false => exact if_neg (by decide)
      | true => exact if_pos rfl
    have e3 : (tBi σ i ||| tDp σ i) ||| h7C σ i = tAl σ i := by unfold tAl h7C; rfl
    unfold f_study_142 f_study_182
    rw [decide_eq_false c5, if_pos (show b2 false = 0 from rfl), rd_17 hi, qqx, nr, fr]
    by_cases c7 : σ.1 17 i = 7
    · obtain ⟨-, a, a1, a2⟩ := q7 c7
      have dp : tDp σ i = σ.1 25 a := by unfold tDp tB; rw [if_neg c5, if_pos c7, a2, nI_clamp (by omega)]
      rw [if_pos c7, rd_19 hi, qqx, a2, if_pos (ge a a1), rd_25 (by omega), qqx, f1, r_st237 (a := a) hi h7 (fun z => absurd z (by decide)), ← dp, e3]
      show k76 x1 ((x2 ||| cond l (tBi σ i) 0) ||| (0 : Int32)) _ _ _ _ _ _ = _
      rw [or_00]; rfl
    · have dp : tDp σ i = 0 := by unfold tDp; rw [if_neg c5, if_neg c7]
      have e4 : (tBi σ i ||| 0) ||| h7C σ i = tAl σ i := by rw [← e3, dp]
      rw [if_neg c7, if_neg (show ¬ (0 : Int32) ≤ -1 by decide), f1, r_st237 (a := 0) hi h7 (fun z => absurd z (by decide)), e4, dp]
      show k76 x1 ((x2 ||| cond l (tBi σ i) 0) ||| (0 : Int32)) _ _ _ _ _ _ = _
      rw [or_00]; rfl
theorem r_st76 (hs : s ≤ 30) (hb : b ≤ 30) (r : RSl σ s b) (hc : ∀ a, a < b → σ.1 14 a = nI (nC σ a) ∧ nC σ a ≤ 4) (hj : j < nC σ s) (N F A : Int32) : ∀ d m t, t + d = nTt σ s j → d < m → f_study_76 k10 m (nI s) (N ||| orF (fun t => nrC σ l (16 * s + 4 * j + t)) t) (F ||| orF (fun t => frC σ l (16 * s + 4 * j + t)) t) (A ||| orF (fun t => tAl σ (16 * s + 4 * j + t)) t) (nI j) (b2 l) (nI t) σ = k10 (nI s) (N ||| orF (fun t => nrC σ l (16 * s + 4 * j + t)) (nTt σ s j)) (F ||| orF (fun t => frC σ l (16 * s + 4 * j + t)) (nTt σ s j)) (A ||| orF (fun t => tAl σ (16 * s + 4 * j + t)) (nTt σ s j)) (nI (j + 1)) σ := by
  have hn := r.n
  obtain ⟨t1, t2, -, t4⟩ := r.t hj
  intro d
  induction d with
  | zero =>
    intro m t ht hm
    obtain ⟨m, rfl⟩ : ∃ m', m = m' + 1 := ⟨m - 1, by omega⟩
    have ht : t = nTt σ s j := by omega
    subst ht
    rw [f_study_76, show (4 : Int32) = nI 4 from rfl, pk_mul, nI_add, rd_16 (by omega), qqx, t2, if_pos (Int32.le_refl _), nI_1]
  | succ d ih =>
    intro m t ht hm
    obtain ⟨m, rfl⟩ : ∃ m', m = m' + 1 := ⟨m - 1, by omega⟩
    have rt := t4 t (by omega)
    have hi : 16 * s + 4 * j + t < 496 := by omega
    have ih' := ih m (t + 1) (by omega) (by omega)
    have go : f_study_142 k10 (f_study_76 k10 m) (nI s) (N ||| orF (fun t => nrC σ l (16 * s + 4 * j + t)) t) (F ||| orF (fun t => frC σ l (16 * s + 4 * j + t)) t) (A ||| orF (fun t => tAl σ (16 * s + 4 * j + t)) t) (nI j) (b2 l) (nI t) (nI (16 * s + 4 * j + t)) (tBi σ (16 * s + 4 * j + t)) (b2 (decide (σ.1 17 (16 * s + 4 * j + t) = 5 ∨ σ.1 17 (16 * s + 4 * j + t) = 6))) σ = k10 (nI s) (N ||| orF (fun t => nrC σ l (16 * s + 4 * j + t)) (nTt σ s j)) (F ||| orF (fun t => frC σ l (16 * s + 4 * j + t)) (nTt σ s j)) (A ||| orF (fun t => tAl σ (16 * s + 4 * j + t)) (nTt σ s j)) (nI (j + 1)) σ := by
      rw [r_st142 hi hb rt hc, or_as, or_as, or_as, nI_1]
      exact ih'
    rw [f_study_76, show (4 : Int32) = nI 4 from rfl, show (16 : Int32) = nI 16 from rfl, pk_mul, pk_mul, pk_mul, nI_add, nI_add, nI_add, rd_16 (by omega), qqx, t2, if_neg (nI_ge (by omega) (by omega)), r_bits hi, qqx, rd_17 hi, qqx]
    unfold f_study_137
    by_cases c5 : σ.1 17 (16 * s + 4 * j + t) = 5
    · rw [decide_eq_true (Or.inl c5)] at go
      rw [if_pos c5]; exact go
    · rw [if_neg c5, qqx]
      by_cases c6 : σ.1 17 (16 * s + 4 * j + t) = 6
      · rw [decide_eq_true (Or.inr c6)] at go
        rw [if_pos c6]; exact go
      · rw [decide_eq_false (fun z => z.elim c5 c6)] at go
        rw [if_neg c6]; exact go
theorem r_st39 (hs : s ≤ 30) (r : RSl σ s b) (hj : j < nC σ s) : f_study_39 k10 (nI s) x2 x3 x4 (nI j) (b2 l) σ = f_study_76 k10 4000 (nI s) x2 x3 (x4 ||| (if 0 < j ∧ 1 < cO σ s j then 16384 else 0)) (nI j) (b2 l) (nI 0) σ := by
  have hn := r.n
  obtain ⟨t1, t2, t3, t4⟩ := r.t hj
  unfold f_study_39 f_study_69 f_study_70
  have e0 : (nI j ≤ 0) = (j ≤ 0) := nI_leE (b := 0) (by omega) (by decide)
  by_cases c : j ≤ 0
  · rw [if_pos (e0.mpr c), if_neg (show ¬ (0 < j ∧ 1 < cO σ s j) by omega)]; rfl
  · obtain ⟨u1, u2⟩ := t3 (by omega)
    rw [if_neg (fun z => c (e0.mp z)), show (4 : Int32) = nI 4 from rfl, pk_mul, nI_add, rd_15 (by omega), qqx, u2]
    have e1 : (nI (cO σ s j) ≤ 1) = (cO σ s j ≤ 1) := nI_leE (b := 1) (by omega) (by decide)
    by_cases d : cO σ s j ≤ 1
    · rw [if_pos (e1.mpr d), if_neg (show ¬ (0 < j ∧ 1 < cO σ s j) by omega)]; rfl
    · rw [if_neg (fun z => d (e1.mp z)), if_pos (show 0 < j ∧ 1 < cO σ s j by omega)]; rfl
def stE (σ : mS) (s : Nat) (N F A : Int32) : mS := up (up (up σ 23 s N) 25 s A) 24 s (if σ.1 22 s = 1 then A else if σ.1 21 s < 0 then F else A)
theorem r_st10 (hs : s ≤ 30) (hb : b ≤ 30) (r : RSl σ s b) (hc : ∀ a, a < b → σ.1 14 a = nI (nC σ a) ∧ nC σ a ≤ 4) : ∀ d m j, j + d = nC σ s → d < m → f_study_10 m (nI s) (acN σ s (nC σ s) j) (acF σ s (nC σ s) j) (acA σ s j) (nI j) σ = some (stE σ s (acN σ s (nC σ s) (nC σ s)) (acF σ s (nC σ s) (nC σ s)) (acA σ s (nC σ s))) := by
  have hn := r.n
  intro d
  induction d with
  | zero =>
    intro m j hj hm
    obtain ⟨m, rfl⟩ : ∃ m', m = m' + 1 := ⟨m - 1, by omega⟩
    have hj : j = nC σ s := by omega
    rw [hj, f_study_10, rd_14 (by omega), qqx, hn.2.2, if_pos (Int32.le_refl _), wr_23 (by omega), qqx, wr_25 (by omega), qqx, rd_22 (by omega), qqx, up_o (by decide), up_o (by decide)]
    unfold f_study_406 f_study_412 stE
    by_cases c : σ.1 22 s = 1
    · rw [if_pos c, if_pos c, wr_24 (by omega), qqx]
    · rw [if_neg c, if_neg c, rd_21 (by omega), qqx, up_o (by decide), up_o (by decide)]
      by_cases e : σ.1 21 s < 0
      · rw [if_pos e, if_pos e, wr_24 (by omega), qqx]
      · rw [if_neg e, if_neg e, wr_24 (by omega), qqx]
  | succ d ih =>
    intro m j hj hm
    obtain ⟨m, rfl⟩ : ∃ m', m = m' + 1 := ⟨m - 1, by omega⟩
    have hj' : j < nC σ s := by omega
    have ih' := ih m (j + 1) (by omega) (by omega)
    obtain ⟨t1, -⟩ := r.t hj'
    have go : ∀ l : Bool, l = decide (j + 1 = nC σ s) → f_study_39 (f_study_10 m) (nI s) (acN σ s (nC σ s) j) (acF σ s (nC σ s) j) (acA σ s j) (nI j) (b2 l) σ = some (stE σ s (acN σ s (nC σ s) (nC σ s)) (acF σ s (nC σ s) (nC σ s)) (acA σ s (nC σ s))) := fun l hl => by
      have e := r_st76 (k10 := f_study_10 m) (l := l) hs hb r hc hj' (acN σ s (nC σ s) j) (acF σ s (nC σ s) j) (acA σ s j ||| (if 0 < j ∧ 1 < cO σ s j then 16384 else 0)) (nTt σ s j) 4000 0 (by omega) (by omega)
      have z : ∀ (x : Int32) (f : Nat → Int32), x ||| orF f 0 = x := fun x f => or_00 x
      rw [z, z, z] at e
      rw [r_st39 hs r hj', e, hl, or_as (acA σ s j)]
      exact ih'
    have e1 : nI (nC σ s) - 1 = nI (nC σ s - 1) := by
      rw [show (1 : Int32) = nI 1 from rfl, pk_sub (by omega)]
    rw [f_study_10, rd_14 (by omega), qqx, hn.2.2, if_neg (nI_ge (by omega) (by omega)), qqx, e1]
    have e2 : (nI j = nI (nC σ s - 1)) = (j = nC σ s - 1) := nI_eqE (by omega) (by omega)
    by_cases c : j + 1 = nC σ s
    · rw [if_pos (e2.mpr (by omega))]
      exact go true (by rw [decide_eq_true c])
    · rw [if_neg (fun z => c (by have := e2.mp z; omega))]
      exact go false (by rw [decide_eq_false c])
theorem r_study (hs : s ≤ 30) (hb : b ≤ 30) (r : RSl σ s b) (hc : ∀ a, a < b → σ.1 14 a = nI (nC σ a) ∧ nC σ a ≤ 4) : f_study (nI s) σ = some (stE σ s (acN σ s (nC σ s) (nC σ s)) (acF σ s (nC σ s) (nC σ s)) (sAl σ s)) := by
  have hn := r.n
  exact r_st10 hs hb r hc (nC σ s) 4000 0 (by omega) (by omega)
end SL1
