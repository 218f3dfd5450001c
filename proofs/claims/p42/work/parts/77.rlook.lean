theorem qAny_mono {f : Nat → Bool} {m n : Nat} (h : m ≤ n) (hm : qAny f m = true) : qAny f n = true := by
  obtain ⟨i, hi, hf⟩ := qAny_is.mp hm
  exact qAny_is.mpr ⟨i, by omega, hf⟩
theorem qq1_or (f : Nat → Bool) (n : Nat) : qqM f n ||| qq1 (f n) n = qqM f (n + 1) := rfl
section RLK
variable {T : qqT} {G : qqG} {σ : mS} {h : Option Nat}
theorem qqO_is {o : Option Nat} {x : Nat} (h : ∀ k, o = some k → k < 30) (hx : x < 30) : (nI x = qqO o) = (o = some x) := by
  rw [← qqO_eqn h hx]
  exact propext ⟨fun z => z.symm, fun z => z.symm⟩
theorem r_cp8 (hw : Tw T) {M : Nat → Int32} {b s k : Nat} {τ : mS} (m : RMs T σ M h b τ) (hs : s ≤ 30) (r : RSl σ s b) (hk : k < nC σ s) : ∀ d m t, t + d = nTt σ s k → d < m → f_compound_8 m (nI s) (nI k) (b2 (qAny (fun t => decide (σ.1 17 (16 * s + 4 * k + t) = 8)) t)) 0 (nI t) τ = f_compound_61 4000 (nI s) (nI k) (b2 (qHs σ s k)) 0 (nI 0) τ := by
  have hn := r.n
  obtain ⟨t1, t2, -, -⟩ := r.t hk
  have m5 := m.2.2.2.2.1
  intro d
  induction d with
  | zero =>
    intro m t ht hm
    obtain ⟨m, rfl⟩ : ∃ m', m = m' + 1 := ⟨m - 1, by omega⟩
    have ht : t = nTt σ s k := by omega
    subst ht
    rw [f_compound_8, show (4 : Int32) = nI 4 from rfl, pk_mul, nI_add, rd_16 (by omega), qqx, m5 16 (by decide), t2, if_pos (Int32.le_refl _)]
    rfl
  | succ d ih =>
    intro m t ht hm
    obtain ⟨m, rfl⟩ : ∃ m', m = m' + 1 := ⟨m - 1, by omega⟩
    rw [f_compound_8, show (4 : Int32) = nI 4 from rfl, show (16 : Int32) = nI 16 from rfl, pk_mul, pk_mul, pk_mul, nI_add, nI_add, nI_add, rd_16 (by omega), qqx, m5 16 (by decide), t2, if_neg (nI_ge (by omega) (by omega)), rd_17 (by omega), qqx, m5 17 (by decide)]
    unfold f_compound_50
    have go : ∀ y : Bool, y = decide (σ.1 17 (16 * s + 4 * k + t) = 8) → f_compound_8 m (nI s) (nI k) (b2 (qAny (fun t => decide (σ.1 17 (16 * s + 4 * k + t) = 8)) t) ||| b2 y) 0 (nI (t + 1)) τ = f_compound_61 4000 (nI s) (nI k) (b2 (qHs σ s k)) 0 (nI 0) τ := by
      intro y hy
      rw [or_b2, ← ih m (t + 1) (by omega) (by omega), hy, Bool.or_comm]
      rfl
    rw [nI_1]
    by_cases c : σ.1 17 (16 * s + 4 * k + t) = 8
    · rw [if_pos c]; exact go true (by rw [decide_eq_true c])
    · rw [if_neg c]; exact go false (by rw [decide_eq_false c])
theorem r_cp106 (hw : Tw T) {M : Nat → Int32} {b s k e : Nat} {τ : mS} (m : RMs T σ M h b τ) (hb : b ≤ 30) (hs : s ≤ 30) (r : RSl σ s b) (hk : k < nC σ s) (he : e < Tn T) (hM : ∀ a, a < b → σ.1 22 a = 0 → σ.1 21 a < 0 → ∀ x, x < Tn T → bt (M a) x = true → inT T h x) {k61 : Int32 → Int32 → Int32 → Int32 → Int32 → Option Int32} {x3 x4 : Int32} : ∀ d m t, t + d = nTt σ s k → d < m → f_compound_106 k61 m (nI s) (nI k) x3 x4 (nI e) (b2 (qBs9 T σ h s k e && !qAny (fun t => !qTs T σ M (16 * s + 4 * k + t) e) t)) (nI t) τ = f_compound_151 k61 (nI s) (nI k) x3 x4 (nI e) (b2 (qCp T σ M h s k e)) τ := by
  have hn := r.n
  obtain ⟨t1, t2, -, t4⟩ := r.t hk
  have m5 := m.2.2.2.2.1
  intro d
  induction d with
  | zero =>
    intro m t ht hm
    obtain ⟨m, rfl⟩ : ∃ m', m = m' + 1 := ⟨m - 1, by omega⟩
    have ht : t = nTt σ s k := by omega
    subst ht
    rw [f_compound_106, show (4 : Int32) = nI 4 from rfl, pk_mul, nI_add, rd_16 (by omega), qqx, m5 16 (by decide), t2, if_pos (Int32.le_refl _)]
    rfl
  | succ d ih =>
    intro m9 t ht hm
    obtain ⟨m9, rfl⟩ : ∃ m', m9 = m' + 1 := ⟨m9 - 1, by omega⟩
    rw [f_compound_106, show (4 : Int32) = nI 4 from rfl, show (16 : Int32) = nI 16 from rfl, pk_mul, pk_mul, pk_mul, nI_add, nI_add, nI_add, rd_16 (by omega), qqx, m5 16 (by decide), t2, if_neg (nI_ge (by omega) (by omega)), b2_i0]
    by_cases c : (qBs9 T σ h s k e && !qAny (fun t => !qTs T σ M (16 * s + 4 * k + t) e) t) = true
    · rw [if_pos c]
      have hin : inT T h e := by
        simp only [Bool.and_eq_true] at c
        unfold qBs9 at c
        refine ⟨he, ?_⟩
        by_cases d : qHs σ s k = true
        · rw [if_pos d] at c; exact Or.inr (of_decide_eq_true c.1)
        · rw [if_neg d] at c; exact Or.inl c.1
      rw [r_passes hw m hb (by omega) (t4 t (by omega)) hin hM, qqx, nI_1, ← ih m9 (t + 1) (by omega) (by omega)]
      have : qTs T σ M (16 * s + 4 * k + t) e = (qBs9 T σ h s k e && !qAny (fun t => !qTs T σ M (16 * s + 4 * k + t) e) (t + 1)) := by
        show _ = (qBs9 T σ h s k e && !(qAny (fun t => !qTs T σ M (16 * s + 4 * k + t) e) t || !qTs T σ M (16 * s + 4 * k + t) e))
        revert c
        cases qBs9 T σ h s k e <;> cases qAny (fun t => !qTs T σ M (16 * s + 4 * k + t) e) t <;> cases qTs T σ M (16 * s + 4 * k + t) e <;> simp
      rw [this]
    · have c' : (qBs9 T σ h s k e && !qAny (fun t => !qTs T σ M (16 * s + 4 * k + t) e) t) = false := Bool.not_eq_true _ |>.mp c
      have : qCp T σ M h s k e = false := by
        unfold qCp
        cases hq : qBs9 T σ h s k e with
        | false => rfl
        | true =>
          rw [hq, Bool.true_and] at c'
          have : qAny (fun t => !qTs T σ M (16 * s + 4 * k + t) e) t = true := by
            revert c'
            cases qAny (fun t => !qTs T σ M (16 * s + 4 * k + t) e) t <;> simp
          rw [qAny_mono (show t ≤ nTt σ s k by omega) this]; rfl
      rw [if_neg c, this, c']
theorem r_compound (hw : Tw T) {M : Nat → Int32} {b s k : Nat} {τ : mS} (m : RMs T σ M h b τ) (hb : b ≤ 30) (hs : s ≤ 30) (r : RSl σ s b) (hk : k < nC σ s) (hM : ∀ a, a < b → σ.1 22 a = 0 → σ.1 21 a < 0 → ∀ x, x < Tn T → bt (M a) x = true → inT T h x) : f_compound (nI s) (nI k) τ = some (qqM (qCp T σ M h s k) (Tn T)) := by
  have h30 := hw.n30
  obtain ⟨m1, m2, m3, m4, m5, m6⟩ := id m
  have hnt := (r.t hk).1
  have key : ∀ d m e, e + d = Tn T → d < m → f_compound_61 m (nI s) (nI k) (b2 (qHs σ s k)) (qqM (qCp T σ M h s k) e) (nI e) τ = some (qqM (qCp T σ M h s k) (Tn T)) := by
    intro d
    induction d with
    | zero =>
      intro m e he hm
      obtain ⟨m, rfl⟩ : ∃ m', m = m' + 1 := ⟨m - 1, by omega⟩
      have he : e = Tn T := by omega
      subst he
      rw [f_compound_61, m1.n, if_pos (Int32.le_refl _)]
    | succ d ih =>
      intro m9 e he hm
      obtain ⟨m9, rfl⟩ : ∃ m', m9 = m' + 1 := ⟨m9 - 1, by omega⟩
      have hen : e < Tn T := by omega
      rw [f_compound_61, m1.n, if_neg (nI_ge (by omega) (by omega)), b2_i0]
      have fin : ∀ y : Int32, y = b2 (qBs9 T σ h s k e) → f_compound_101 (fun z0 z1 z2 z3 z4 => f_compound_61 m9 z0 z1 z2 z3 z4 τ) (nI s) (nI k) (b2 (qHs σ s k)) (qqM (qCp T σ M h s k) e) (nI e) y τ = some (qqM (qCp T σ M h s k) (Tn T)) := by
        intro y hy
        unfold f_compound_101
        have h106 := r_cp106 hw m hb hs r hk hen hM (k61 := fun z0 z1 z2 z3 z4 => f_compound_61 m9 z0 z1 z2 z3 z4 τ) (x3 := b2 (qHs σ s k)) (x4 := qqM (qCp T σ M h s k) e) (nTt σ s k) 4000 0 (by omega) (by omega)
        have hz : (qBs9 T σ h s k e && !qAny (fun t => !qTs T σ M (16 * s + 4 * k + t) e) 0) = qBs9 T σ h s k e := by
          show (qBs9 T σ h s k e && !false) = _
          rw [Bool.not_false, Bool.and_true]
        rw [hz] at h106
        rw [hy, show (0 : Int32) = nI 0 from rfl, h106]
        unfold f_compound_151 f_compound_166
        rw [b2_i0, nI_1]
        have := ih m9 (e + 1) (by omega) (by omega)
        rw [← qq1_or] at this
        cases hc : qCp T σ M h s k e with
        | true => rw [if_pos rfl]; rw [hc] at this; exact this
        | false => rw [if_neg (by decide)]; rw [hc] at this; exact this
      by_cases ch : qHs σ s k = true
      · rw [if_pos ch, m2]
        have hb9 : qBs9 T σ h s k e = decide (h = some e) := by unfold qBs9; rw [if_pos ch]
        have hq := qqO_is (o := h) (x := e) (fun q hq => by have := m3 q hq; omega) (by omega)
        by_cases d : h = some e
        · rw [if_pos (hq.mpr d)]; exact fin 1 (by rw [hb9, decide_eq_true d]; rfl)
        · rw [if_neg (fun z => d (hq.mp z))]; exact fin 0 (by rw [hb9, decide_eq_false d]; rfl)
      · rw [if_neg ch, r_bit _ (by omega), qqx]
        refine fin _ ?_
        unfold qBs9
        rw [if_neg ch, m4, qqM_b h30 hen]
  unfold f_compound
  have h8 := r_cp8 hw m hs r hk (nTt σ s k) 4000 0 (by omega) (by omega)
  have h8' : f_compound_8 4000 (nI s) (nI k) 0 0 0 τ = f_compound_61 4000 (nI s) (nI k) (b2 (qHs σ s k)) 0 (nI 0) τ := h8
  rw [h8']
  exact key (Tn T) 4000 0 (by omega) (by omega)
theorem r_stepped (hw : Tw T) {τ : mS} (hr : RT T τ) (ht : τ.2 71 = qqO h) (hh : ∀ q, h = some q → q < Tn T) {P Q : Nat → Bool} (hP : ∀ x, x < Tn T → P x = true → inT T h x) (hQ : ∀ x, x < Tn T → Q x = true → inT T h x) {c : Nat} (hc : c < 4) : f_stepped (qqM P (Tn T)) (qqM Q (Tn T)) (nI c) τ = some (qqM (fun e => Q e && qAny (fun f => P f && Trl T c e f) (Tn T)) (Tn T)) := by
  have h30 := hw.n30
  have inner : ∀ (k6 : Int32 → Int32 → Int32 → Int32 → Int32 → Option Int32) (x4 : Int32) (e : Nat), e < Tn T → ∀ d m f, f + d = Tn T → d < m → f_stepped_21 k6 m (qqM P (Tn T)) (qqM Q (Tn T)) (nI c) x4 (nI e) (b2 (Q e && qAny (fun f => P f && Trl T c e f) f)) (nI f) τ = f_stepped_78 k6 (qqM P (Tn T)) (qqM Q (Tn T)) (nI c) x4 (nI e) (b2 (Q e && qAny (fun f => P f && Trl T c e f) (Tn T))) τ := by
    intro k6 x4 e he d
    induction d with
    | zero =>
      intro m f hf hm
      obtain ⟨m, rfl⟩ : ∃ m', m = m' + 1 := ⟨m - 1, by omega⟩
      have hf : f = Tn T := by omega
      subst hf
      rw [f_stepped_21, hr.n, if_pos (Int32.le_refl _)]
    | succ d ih =>
      intro m f hf hm
      obtain ⟨m, rfl⟩ : ∃ m', m = m' + 1 := ⟨m - 1, by omega⟩
      have hfn : f < Tn T := by omega
      rw [f_stepped_21, hr.n, if_neg (nI_ge (by omega) (by omega)), r_bit _ (by omega), qqx, qqM_b h30 he, b2_i0]
      cases hq : Q e with
      | false => rw [if_neg (by decide), Bool.false_and, Bool.false_and]
      | true =>
        rw [if_pos rfl, r_bit _ (by omega), qqx, qqM_b h30 hfn, b2_i0]
        rw [hq] at ih
        unfold f_stepped_68 f_stepped_69
        rw [nI_1]
        have go : ∀ y : Bool, y = (P f && Trl T c e f) → f_stepped_21 k6 m (qqM P (Tn T)) (qqM Q (Tn T)) (nI c) x4 (nI e) (b2 (true && qAny (fun f => P f && Trl T c e f) f) ||| b2 y) (nI (f + 1)) τ = f_stepped_78 k6 (qqM P (Tn T)) (qqM Q (Tn T)) (nI c) x4 (nI e) (b2 (true && qAny (fun f => P f && Trl T c e f) (Tn T))) τ := by
          intro y hy
          rw [or_b2, ← ih m (f + 1) (by omega) (by omega), hy, Bool.or_comm]
          rfl
        cases hp : P f with
        | false => rw [if_neg (by decide)]; exact go false (by rw [hp]; rfl)
        | true =>
          rw [if_pos rfl, r_related hw hr ht hh hc (hQ e he hq) (hP f hfn hp), qqx, b2_i0]
          cases hx : Trl T c e f with
          | false => rw [if_neg (by decide)]; exact go false (by rw [hx, Bool.and_false])
          | true => rw [if_pos rfl]; exact go true (by rw [hp, hx]; rfl)
  have key : ∀ d m e, e + d = Tn T → d < m → f_stepped_6 m (qqM P (Tn T)) (qqM Q (Tn T)) (nI c) (qqM (fun e => Q e && qAny (fun f => P f && Trl T c e f) (Tn T)) e) (nI e) τ = some (qqM (fun e => Q e && qAny (fun f => P f && Trl T c e f) (Tn T)) (Tn T)) := by
    intro d
    induction d with
    | zero =>
      intro m e he hm
      obtain ⟨m, rfl⟩ : ∃ m', m = m' + 1 := ⟨m - 1, by omega⟩
      have he : e = Tn T := by omega
      subst he
      rw [f_stepped_6, hr.n, if_pos (Int32.le_refl _)]
    | succ d ih =>
      intro m e he hm
      obtain ⟨m, rfl⟩ : ∃ m', m = m' + 1 := ⟨m - 1, by omega⟩
      have hen : e < Tn T := by omega
      rw [f_stepped_6, hr.n, if_neg (nI_ge (by omega) (by omega))]
      have h21 : f_stepped_21 (fun z0 z1 z2 z3 z4 => f_stepped_6 m z0 z1 z2 z3 z4 τ) 4000 (qqM P (Tn T)) (qqM Q (Tn T)) (nI c) (qqM (fun e => Q e && qAny (fun f => P f && Trl T c e f) (Tn T)) e) (nI e) 0 0 τ = f_stepped_78 (fun z0 z1 z2 z3 z4 => f_stepped_6 m z0 z1 z2 z3 z4 τ) (qqM P (Tn T)) (qqM Q (Tn T)) (nI c) (qqM (fun e => Q e && qAny (fun f => P f && Trl T c e f) (Tn T)) e) (nI e) (b2 (Q e && qAny (fun f => P f && Trl T c e f) (Tn T))) τ := by
        have := inner (fun z0 z1 z2 z3 z4 => f_stepped_6 m z0 z1 z2 z3 z4 τ) (qqM (fun e => Q e && qAny (fun f => P f && Trl T c e f) (Tn T)) e) e hen (Tn T) 4000 0 (by omega) (by omega)
        rw [show (Q e && qAny (fun f => P f && Trl T c e f) 0) = false by show (Q e && false) = false; rw [Bool.and_false]] at this
        exact this
      rw [h21]
      unfold f_stepped_78 f_stepped_93
      rw [b2_i0, nI_1]
      have := ih m (e + 1) (by omega) (by omega)
      rw [← qq1_or] at this
      cases hcc : (Q e && qAny (fun f => P f && Trl T c e f) (Tn T)) with
      | true => rw [if_pos rfl]; simp only [hcc] at this; exact this
      | false => rw [if_neg (by decide)]; simp only [hcc] at this; exact this
  unfold f_stepped
  exact key (Tn T) 4000 0 (by omega) (by omega)
theorem r_solve (hw : Tw T) {M : Nat → Int32} {b s : Nat} {τ : mS} (m : RMs T σ M h b τ) (hb : b ≤ 30) (hs : s ≤ 30) (r : RSl σ s b) (hM : ∀ a, a < b → σ.1 22 a = 0 → σ.1 21 a < 0 → ∀ x, x < Tn T → bt (M a) x = true → inT T h x) : f_solve (nI s) τ = some (qqM (qSv T σ M h s) (Tn T)) := by
  have h30 := hw.n30
  obtain ⟨m1, m2, m3, m4, m5, m6⟩ := id m
  have hn := r.n
  have parts : ¬ σ.1 21 s < 0 → ∀ d m e, e + d = Tn T → d < m → f_solve_63 m (nI s) (qqM (qRw T σ M h s (nC σ s - 1)) (Tn T)) (qqM (qSv T σ M h s) e) (nI e) τ = some (qqM (qSv T σ M h s) (Tn T)) := by
    intro hneg d
    induction d with
    | zero =>
      intro m e he hm
      obtain ⟨m, rfl⟩ : ∃ m', m = m' + 1 := ⟨m - 1, by omega⟩
      have he : e = Tn T := by omega
      subst he
      rw [f_solve_63, m1.n, if_pos (Int32.le_refl _)]
    | succ d ih =>
      intro m9 e he hm
      obtain ⟨m9, rfl⟩ : ∃ m', m9 = m' + 1 := ⟨m9 - 1, by omega⟩
      have hen : e < Tn T := by omega
      rw [f_solve_63, m1.n, if_neg (nI_ge (by omega) (by omega)), r_treeOf hw m1 hen, qqx, rd_5 (by omega), qqx, rd_21 (by omega), qqx, m5 5 (by decide), m5 21 (by decide)]
      unfold f_solve_119 f_solve_120
      rw [nI_1]
      have hv : qSv T σ M h s e = (decide (σ.1 5 e = σ.1 21 s) && qPt (TH T e) (qRw T σ M h s (nC σ s - 1))) := by unfold qSv; rw [if_neg hneg]
      have go : ∀ y : Bool, y = qSv T σ M h s e → f_solve_63 m9 (nI s) (qqM (qRw T σ M h s (nC σ s - 1)) (Tn T)) (qqM (qSv T σ M h s) e ||| qq1 y e) (nI (e + 1)) τ = some (qqM (qSv T σ M h s) (Tn T)) := by
        intro y hy
        rw [hy]
        exact ih m9 (e + 1) (by omega) (by omega)
      by_cases c : σ.1 5 e = σ.1 21 s
      · rw [if_pos c]
        rw [decide_eq_true c, Bool.true_and] at hv
        by_cases d1 : Tco T e < 0
        · rw [if_pos d1]
          have hth : TH T e = none := by rw [← Tco_neg hw]; exact d1
          rw [hth] at hv
          exact go false (by rw [hv]; rfl)
        · rw [if_neg d1]
          cases hth : TH T e with
          | none => exact absurd (show Tco T e < 0 by rw [Tco_neg hw]; exact hth) d1
          | some q =>
            have hq := TH_30 hw hth
            have hqn := (TH_lt hw hth).1
            rw [hth] at hv
            rw [Tco_some hw hth, r_bit _ (by omega), qqx, qqM_b h30 hqn, b2_i0]
            cases hc : qRw T σ M h s (nC σ s - 1) q with
            | false => rw [if_neg (by decide)]; exact go false (by rw [hv]; exact hc.symm)
            | true => rw [if_pos rfl]; exact go true (by rw [hv]; exact hc.symm)
      · rw [if_neg c]
        exact go false (by rw [hv, decide_eq_false c]; rfl)
  have loop : ∀ d m k, k + 1 + d = nC σ s → d < m → f_solve_9 m (nI s) (qqM (qRw T σ M h s k) (Tn T)) (nI (k + 1)) τ = some (qqM (qSv T σ M h s) (Tn T)) := by
    intro d
    induction d with
    | zero =>
      intro m k hk hm
      obtain ⟨m, rfl⟩ : ∃ m', m = m' + 1 := ⟨m - 1, by omega⟩
      have hk : k = nC σ s - 1 := by omega
      rw [f_solve_9, rd_14 (by omega), qqx, m5 14 (by decide), hn.2.2, if_pos (nI_le (by omega) (by omega)), rd_21 (by omega), qqx, m5 21 (by decide), hk]
      by_cases c : σ.1 21 s < 0
      · rw [if_neg (Int32.not_le.mpr c)]
        have : qSv T σ M h s = qRw T σ M h s (nC σ s - 1) := by funext e; unfold qSv; rw [if_pos c]
        rw [this]
      · rw [if_pos (Int32.not_lt.mp c)]
        exact parts c (Tn T) 4000 0 (by omega) (by omega)
    | succ d ih =>
      intro m9 k hk hm
      obtain ⟨m9, rfl⟩ : ∃ m', m9 = m' + 1 := ⟨m9 - 1, by omega⟩
      obtain ⟨u1, u2, u3, u4⟩ := r.t (k := k + 1) (by omega)
      obtain ⟨w1, w2⟩ := u3 (by omega)
      rw [f_solve_9, rd_14 (by omega), qqx, m5 14 (by decide), hn.2.2, if_neg (nI_ge (by omega) (by omega)), r_compound hw m hb hs r (by omega) hM, qqx, show (4 : Int32) = nI 4 from rfl, pk_mul, nI_add, rd_15 (by omega), qqx, m5 15 (by decide), w2, r_stepped hw m1 m2 m3 (fun x hx hp => qRw_in hx hp) (fun x hx hq => qCp_in hx hq) w1, qqx, nI_1]
      exact ih m9 (k + 1) (by omega) (by omega)
  unfold f_solve
  rw [show (0 : Int32) = nI 0 from rfl, r_compound hw m hb hs r (by omega) hM, qqx]
  exact loop (nC σ s - 1) 4000 0 (by omega) (by omega)
theorem qMs_in (hs : ∀ s, s < Gs G → RSl σ s s) (h30 : Gs G ≤ 30) (hw : Tw T) {a : Nat} (ha : a < Gs G) (h1 : σ.1 22 a = 0) (h2 : σ.1 21 a < 0) {x : Nat} (hx : x < Tn T) (hb : bt (qMs T σ h a) x = true) : inT T h x := by
  rw [qMs_eq (by omega) (hs a ha), qqM_b hw.n30 hx] at hb
  unfold qSv at hb
  rw [if_pos h2] at hb
  exact qRw_in hx hb
theorem Tmb_Tco (hw : Tw T) (hh : ∀ q, h = some q → q < Tn T) {e : Nat} (he : e < Tn T) : (Tco T e = qqO h) = (Tmb T h e = true) := by
  have h30 := hw.n30
  cases h with
  | none =>
    rw [Tmb_R]
    unfold Tco
    by_cases c : TR T e = 0
    · rw [if_pos c]; exact propext ⟨fun _ => c, fun _ => rfl⟩
    · rw [if_neg c]
      cases hth : TH T e with
      | none => exact propext ⟨fun z => absurd z (show ¬ (-2 : Int32) = -1 by decide), fun z => absurd z c⟩
      | some q =>
        have hq := TH_30 hw hth
        refine propext ⟨fun z => ?_, fun z => absurd z c⟩
        have := nI_pos (show q < 2 ^ 31 by omega)
        have z : nI q = -1 := z
        rw [z] at this
        exact absurd (by decide) this
  | some q =>
    rw [Tmb_TH]
    have hq := hh q rfl
    cases hth : TH T e with
    | none =>
      refine propext ⟨fun z => ?_, fun z => by cases z⟩
      have h1 : Tco T e < 0 := by rw [Tco_neg hw]; exact hth
      rw [z] at h1
      exact absurd h1 (nI_pos (by omega))
    | some p =>
      have hp := TH_30 hw hth
      rw [Tco_some hw hth, qqO_some, nI_eqE (by omega) (by omega)]
      exact propext ⟨fun z => by rw [z], fun z => by cases z; rfl⟩
theorem r_look (hw : Tw T) (hr : RT T σ) (hh : ∀ q, h = some q → q < Tn T) (hs : ∀ s, s < Gs G → RSl σ s s) (h26 : σ.2 26 = nI (Gs G)) (hg : Gs G ≤ 30) : ∃ σ', f_look (qqO h) σ = some σ' ∧ sB [73] [71, 72] σ σ' ∧ ∀ s, s < Gs G → σ'.1 73 s = qMs T σ h s := by
  have h30 := hw.n30
  have loop : ∀ d m s τ, s + d = Gs G → d < m → sB [73] [71, 72] σ τ → τ.2 71 = qqO h → τ.2 72 = qqM (Tmb T h) (Tn T) → (∀ a, a < s → τ.1 73 a = qMs T σ h a) → ∃ σ', f_look_53 m (nI s) τ = some σ' ∧ sB [73] [71, 72] σ σ' ∧ ∀ a, a < Gs G → σ'.1 73 a = qMs T σ h a := by
    intro d
    induction d with
    | zero =>
      intro m s τ hsd hm b t1 t2 t3
      obtain ⟨m, rfl⟩ : ∃ m', m = m' + 1 := ⟨m - 1, by omega⟩
      have hsd : s = Gs G := by omega
      subst hsd
      rw [f_look_53, b.2 26 (by decide), h26, if_pos (Int32.le_refl _)]
      exact ⟨τ, rfl, b, t3⟩
    | succ d ih =>
      intro m s τ hsd hm b t1 t2 t3
      obtain ⟨m, rfl⟩ : ∃ m', m = m' + 1 := ⟨m - 1, by omega⟩
      have hsg : s < Gs G := by omega
      have mm : RMs T σ (qMs T σ h) h s τ := ⟨hr.sB b (by decide) (by decide), t1, hh, t2, fun f hf => b.1 f (by revert f; decide), t3⟩
      rw [f_look_53, b.2 26 (by decide), h26, if_neg (nI_ge (by omega) (by omega)), r_solve hw mm (by omega) (by omega) (hs s hsg) (fun a ha h1 h2 x hx hb => qMs_in hs hg hw (by omega) h1 h2 hx hb), qqx, wr_73 (by omega), qqx, nI_1]
      refine ih m (s + 1) _ (by omega) (by omega) (b.up (by decide)) t1 t2 (fun a ha => ?_)
      rw [up_s]
      by_cases c : a = s
      · subst c; rw [if_pos rfl, qMs_eq (by omega) (hs a hsg)]
      · rw [if_neg c]; exact t3 a (by omega)
  have mem : ∀ d m e τ, e + d = Tn T → d < m → sB [73] [71, 72] σ τ → τ.2 71 = qqO h → τ.2 72 = qqM (Tmb T h) e → ∃ σ', f_look_12 m (qqO h) (nI e) τ = some σ' ∧ sB [73] [71, 72] σ σ' ∧ ∀ a, a < Gs G → σ'.1 73 a = qMs T σ h a := by
    intro d
    induction d with
    | zero =>
      intro m e τ he hm b t1 t2
      obtain ⟨m, rfl⟩ : ∃ m', m = m' + 1 := ⟨m - 1, by omega⟩
      have he : e = Tn T := by omega
      subst he
      rw [f_look_12, b.2 13 (by decide), hr.n, if_pos (Int32.le_refl _)]
      exact loop (Gs G) 4000 0 τ (by omega) (by omega) b t1 t2 (fun a ha => absurd ha (Nat.not_lt_zero a))
    | succ d ih =>
      intro m e τ he hm b t1 t2
      obtain ⟨m, rfl⟩ : ∃ m', m = m' + 1 := ⟨m - 1, by omega⟩
      have hen : e < Tn T := by omega
      have hr' : RT T τ := hr.sB b (by decide) (by decide)
      rw [f_look_12, b.2 13 (by decide), hr.n, if_neg (nI_ge (by omega) (by omega)), r_treeOf hw hr' hen, qqx]
      unfold f_look_41
      rw [nI_1, t2]
      have go : ∀ y : Bool, y = Tmb T h e → ∃ σ', f_look_12 m (qqO h) (nI (e + 1)) (sf τ 72 (qqM (Tmb T h) e ||| qq1 y e)) = some σ' ∧ sB [73] [71, 72] σ σ' ∧ ∀ a, a < Gs G → σ'.1 73 a = qMs T σ h a := by
        intro y hy
        refine ih m (e + 1) _ (by omega) (by omega) (b.sf (by decide)) (by rw [sf_o (by decide)]; exact t1) ?_
        rw [sf_s, hy]; rfl
      by_cases c : Tco T e = qqO h
      · rw [if_pos c]; exact go true (by rw [(Tmb_Tco hw hh hen).mp c])
      · rw [if_neg c]; exact go false (Bool.eq_false_iff.mpr (fun z => c ((Tmb_Tco hw hh hen).mpr z))).symm
  unfold f_look
  exact mem (Tn T) 4000 0 _ (by omega) (by omega) (((sB.rf σ).sf (by decide)).sf (by decide)) (by rw [sf_o (by decide), sf_s]) (by rw [sf_s]; rfl)
theorem qMs_cg {σ' : mS} (k : ∀ f, f ∈ [0, 1, 2, 3, 4, 5, 14, 15, 16, 17, 18, 19, 21] → σ'.1 f = σ.1 f) : qMs T σ' h = qMs T σ h := by
  have a1 : ∀ i, tA σ' i = tA σ i := fun i => by unfold tA; rw [k 18 (by decide)]
  have a2 : ∀ i, tB σ' i = tB σ i := fun i => by unfold tB; rw [k 19 (by decide)]
  have a3 : ∀ s j, nTt σ' s j = nTt σ s j := fun s j => by unfold nTt; rw [k 16 (by decide)]
  have a4 : ∀ s, nC σ' s = nC σ s := fun s => by unfold nC; rw [k 14 (by decide)]
  have a5 : ∀ s j, cO σ' s j = cO σ s j := fun s j => by unfold cO; rw [k 15 (by decide)]
  have b1 : ∀ M i e, qTs T σ' M i e = qTs T σ M i e := fun M i e => by
    unfold qTs
    rw [a1, a2, k 0 (by decide), k 1 (by decide), k 2 (by decide), k 3 (by decide), k 4 (by decide), k 17 (by decide), k 18 (by decide), k 19 (by decide)]
  have b2' : ∀ s j, qHs σ' s j = qHs σ s j := fun s j => by unfold qHs; rw [a3, k 17 (by decide)]
  have b3 : ∀ M s j e, qCp T σ' M h s j e = qCp T σ M h s j e := fun M s j e => by
    unfold qCp qBs9
    rw [b2', a3, qAny_cg (fun t _ => by rw [b1])]
  have b4 : ∀ M s j e, qRw T σ' M h s j e = qRw T σ M h s j e := by
    intro M s j
    induction j with
    | zero => intro e; exact b3 M s 0 e
    | succ j ih =>
      intro e
      show (qCp T σ' M h s (j + 1) e && qAny (fun f => qRw T σ' M h s j f && Trl T (cO σ' s (j + 1)) e f) (Tn T)) = (qCp T σ M h s (j + 1) e && qAny (fun f => qRw T σ M h s j f && Trl T (cO σ s (j + 1)) e f) (Tn T))
      rw [b3, a5, qAny_cg (fun f _ => by rw [ih f])]
  have b5 : ∀ M s e, qSv T σ' M h s e = qSv T σ M h s e := fun M s e => by
    unfold qSv
    rw [k 21 (by decide), k 5 (by decide), a4, show qRw T σ' M h s (nC σ s - 1) = qRw T σ M h s (nC σ s - 1) from funext (fun t => b4 M s _ t)]
  have b6 : ∀ n, qSet T σ' h n = qSet T σ h n := by
    intro n
    induction n with
    | zero => rfl
    | succ n ih =>
      funext s
      show (if s = n then qqM (qSv T σ' (qSet T σ' h n) h n) (Tn T) else qSet T σ' h n s) = (if s = n then qqM (qSv T σ (qSet T σ h n) h n) (Tn T) else qSet T σ h n s)
      rw [ih, qqM_congr (fun e _ => b5 (qSet T σ h n) n e)]
  funext s
  show qSet T σ' h (s + 1) s = qSet T σ h (s + 1) s
  rw [b6]
def hitS (T : qqT) (G : qqG) (σ : mS) : Prop := ∀ r, r < Gr G → σ.1 74 r = qMs T σ (Gsh G (Gsf G r)) (Gse G r)
theorem RSl.cg {s b : Nat} {σ' : mS} (r : RSl σ s b) (k : ∀ f, f ∈ [14, 15, 16, 17, 18, 19, 21, 22] → σ'.1 f = σ.1 f) : RSl σ' s b := by
  have b2' : ∀ s j, qHs σ' s j = qHs σ s j := fun s j => by unfold qHs nTt; rw [k 16 (by decide), k 17 (by decide)]
  unfold RSl RTs nC at r ⊢
  rw [k 14 (by decide), k 15 (by decide), k 16 (by decide), k 17 (by decide), k 18 (by decide), k 19 (by decide), k 21 (by decide), k 22 (by decide)]
  exact ⟨r.1, r.2.1, r.2.2.1, fun h j hj => by rw [b2']; exact r.2.2.2 h j hj⟩
theorem r_hits (hw : Tw T) (hr : RT T σ) (hc : RC T G σ) (hs : ∀ s, s < Gs G → RSl σ s s) (h26 : σ.2 26 = nI (Gs G)) : ∃ σ', f_hits σ = some σ' ∧ sB [73, 74] [71, 72] σ σ' ∧ hitS T G σ' := by
  have h30 := hw.n30
  have g30 := hc.s30
  have r40 := hc.r40
  have k8 := hc.k8
  have inner : ∀ (x : Nat) (k2 : Int32 → mS → Option mS), x < Gk G → ∀ d m r τ, r + d = Gr G → d < m → sB [73, 74] [71, 72] σ τ → (∀ s, s < Gs G → τ.1 73 s = qMs T σ (Gsh G x) s) → (∀ j, j < Gr G → (Gsf G j < x ∨ (Gsf G j = x ∧ j < r)) → τ.1 74 j = qMs T σ (Gsh G (Gsf G j)) (Gse G j)) → ∃ τ', f_hits_22 k2 m (nI x) (nI r) τ = k2 (nI (x + 1)) τ' ∧ sB [73, 74] [71, 72] σ τ' ∧ ∀ j, j < Gr G → Gsf G j < x + 1 → τ'.1 74 j = qMs T σ (Gsh G (Gsf G j)) (Gse G j) := by
    intro x k2 hx d
    induction d with
    | zero =>
      intro m r τ hrd hm b t3 t4
      obtain ⟨m, rfl⟩ : ∃ m', m = m' + 1 := ⟨m - 1, by omega⟩
      have hrd : r = Gr G := by omega
      subst hrd
      rw [f_hits_22, b.2 36 (by decide), hc.rn, if_pos (Int32.le_refl _), nI_1]
      exact ⟨τ, rfl, b, fun j hj hjx => t4 j hj (by omega)⟩
    | succ d ih =>
      intro m r τ hrd hm b t3 t4
      obtain ⟨m, rfl⟩ : ∃ m', m = m' + 1 := ⟨m - 1, by omega⟩
      have hrn : r < Gr G := by omega
      have hc' := hc.sB (σ' := τ) b (by decide) (by decide)
      obtain ⟨f1, f2⟩ := hc'.f hrn
      obtain ⟨e1, e2⟩ := hc'.e hrn
      rw [f_hits_22, b.2 36 (by decide), hc.rn, if_neg (nI_ge (by omega) (by omega)), f1, qqx, iqI (by omega) (by omega)]
      unfold f_hits_65
      by_cases c : Gsf G r = x
      · rw [if_pos c, e1, qqx, rd_73 (by omega), qqx, wr_74 (by omega), qqx, nI_1]
        refine ih m (r + 1) _ (by omega) (by omega) (b.up (by decide)) (fun s hs => by rw [up_o (by decide)]; exact t3 s hs) (fun j hj hjx => ?_)
        rw [up_s]
        by_cases cj : j = r
        · subst cj; rw [if_pos rfl, t3 _ e2, c]
        · rw [if_neg cj]; exact t4 j hj (by omega)
      · rw [if_neg c, rd_74 (by omega), qqx, wr_74 (by omega), qqx, nI_1]
        refine ih m (r + 1) _ (by omega) (by omega) (b.up (by decide)) (fun s hs => by rw [up_o (by decide)]; exact t3 s hs) (fun j hj hjx => ?_)
        rw [up_s]
        by_cases cj : j = r
        · subst cj; rw [if_pos rfl]; exact t4 j hj (by omega)
        · rw [if_neg cj]; exact t4 j hj (by omega)
  have outer : ∀ d m x τ, x + d = Gk G → d < m → sB [73, 74] [71, 72] σ τ → (∀ j, j < Gr G → Gsf G j < x → τ.1 74 j = qMs T σ (Gsh G (Gsf G j)) (Gse G j)) → ∃ σ', f_hits_2 m (nI x) τ = some σ' ∧ sB [73, 74] [71, 72] σ σ' ∧ hitS T G σ' := by
    intro d
    induction d with
    | zero =>
      intro m x τ hx hm b t4
      obtain ⟨m, rfl⟩ : ∃ m', m = m' + 1 := ⟨m - 1, by omega⟩
      have hx : x = Gk G := by omega
      subst hx
      rw [f_hits_2, b.2 31 (by decide), hc.1, if_pos (Int32.le_refl _)]
      refine ⟨τ, rfl, b, fun r hr => ?_⟩
      rw [qMs_cg (σ := σ) (fun f hf => b.1 f (by revert f; decide))]
      exact t4 r hr (hc.f hr).2
    | succ d ih =>
      intro m x τ hx hm b t4
      obtain ⟨m, rfl⟩ : ∃ m', m = m' + 1 := ⟨m - 1, by omega⟩
      have hxk : x < Gk G := by omega
      have hc' := hc.sB (σ' := τ) b (by decide) (by decide)
      obtain ⟨τ1, e1, b1, q1⟩ := r_look (G := G) (σ := τ) (h := Gsh G x) hw (hr.sB b (by decide) (by decide)) (fun q hq => (hc.hn hxk hq).1) (fun s hs' => (hs s hs').cg (fun f hf => b.1 f (by revert f; decide))) (by rw [b.2 26 (by decide)]; exact h26) g30
      rw [f_hits_2, b.2 31 (by decide), hc.1, if_neg (nI_ge (by omega) (by omega)), hc'.h hxk, qqx, e1, qqx]
      have b' : sB [73, 74] [71, 72] σ τ1 := b.tr (b1.wd (by decide) (by decide))
      obtain ⟨τ2, e2, b2, q2⟩ := inner x (f_hits_2 m) hxk (Gr G) 4000 0 τ1 (by omega) (by omega) b' (fun s hs' => by rw [q1 s hs', qMs_cg (σ := σ) (fun f hf => b.1 f (by revert f; decide))]) (fun j hj hjx => by rw [b1.1 74 (by decide)]; exact t4 j hj (by omega))
      have e2' : f_hits_22 (f_hits_2 m) 4000 (nI x) 0 τ1 = _ := e2
      rw [e2']
      exact ih m (x + 1) τ2 (by omega) (by omega) b2 q2
  unfold f_hits
  exact outer (Gk G) 4000 0 σ (by omega) (by omega) (sB.rf σ) (fun j _ hj => absurd hj (Nat.not_lt_zero _))
end RLK
