def KSl (ex : Nat → Nat → Prop) (K : kS) (σ : mS) (s r : Nat) : Prop :=
  (ex 17 s ∧ K.2 17 s 0 = some (18, s) ∧ K.2 17 s 1 = some (18 + (nC σ r - 1), s) ∧ K.1 17 s 2 = nI (nC σ r) ∧ K.1 17 s 4 = σ.1 21 r ∧ K.1 17 s 5 = σ.1 22 r) ∧
  ∀ k, k < nC σ r → (ex (18 + k) s ∧ ex (22 + k) s ∧ ex (26 + k) s ∧ ex (30 + k) s) ∧ K.1 (18 + k) s 4 = σ.1 16 (4 * r + k) ∧ K.1 (18 + k) s 5 = b2 (qHs σ r k) ∧ (0 < k → K.1 (18 + k) s 0 = σ.1 15 (4 * r + k)) ∧
    K.2 (18 + k) s 1 = some (22 + k, s) ∧ K.2 (18 + k) s 2 = some (26 + k, s) ∧ K.2 (18 + k) s 3 = some (30 + k, s) ∧ K.2 (18 + k) s 9 = (if k + 1 < nC σ r then some (18 + (k + 1), s) else none) ∧
    ∀ t, t < nTt σ r k → K.1 (22 + k) s t = σ.1 17 (16 * r + 4 * k + t) ∧ K.1 (26 + k) s t = σ.1 18 (16 * r + 4 * k + t) ∧ K.1 (30 + k) s t = σ.1 19 (16 * r + 4 * k + t)
def qIn (σ : mS) (s a : Nat) : Prop := ∃ k t, k < nC σ s ∧ t < nTt σ s k ∧ (((σ.1 17 (16 * s + 4 * k + t) = 5 ∨ σ.1 17 (16 * s + 4 * k + t) = 6) ∧ tA σ (16 * s + 4 * k + t) = a) ∨ (σ.1 17 (16 * s + 4 * k + t) = 7 ∧ tB σ (16 * s + 4 * k + t) = a))
section CST2
variable {T : qqT} {G : qqG} {A : kA} {ex : Nat → Nat → Prop} {K : kS} {S : cS} {σ : mS} {h : Option Nat}
theorem qSv_cgI {M M' : Nat → Int32} {s b : Nat} (r : RSl σ s b) (hM : ∀ a, qIn σ s a → M a = M' a) (e : Nat) : qSv T σ M h s e = qSv T σ M' h s e := by
  have hn := r.n
  have c1 : ∀ k, k < nC σ s → ∀ t, t < nTt σ s k → ∀ e, qTs T σ M (16 * s + 4 * k + t) e = qTs T σ M' (16 * s + 4 * k + t) e := by
    intro k hk t ht e
    unfold qTs
    by_cases c5 : σ.1 17 (16 * s + 4 * k + t) = 5
    · rw [hM _ ⟨k, t, hk, ht, Or.inl ⟨Or.inl c5, rfl⟩⟩]
      have : ¬ σ.1 17 (16 * s + 4 * k + t) = 7 := by rw [c5]; decide
      rw [if_neg this, if_neg this]
    · by_cases c6 : σ.1 17 (16 * s + 4 * k + t) = 6
      · rw [hM _ ⟨k, t, hk, ht, Or.inl ⟨Or.inr c6, rfl⟩⟩]
        have : ¬ σ.1 17 (16 * s + 4 * k + t) = 7 := by rw [c6]; decide
        rw [if_neg this, if_neg this]
      · rw [if_neg c5, if_neg c5, if_neg c6, if_neg c6]
        by_cases c7 : σ.1 17 (16 * s + 4 * k + t) = 7
        · rw [hM _ ⟨k, t, hk, ht, Or.inr ⟨c7, rfl⟩⟩]
        · rw [if_neg c7, if_neg c7]
  have c2 : ∀ k, k < nC σ s → ∀ e, qCp T σ M h s k e = qCp T σ M' h s k e := fun k hk e => by
    unfold qCp
    rw [qAny_cg (fun t ht => by rw [c1 k hk t ht])]
  have c3 : ∀ k, k < nC σ s → ∀ e, qRw T σ M h s k e = qRw T σ M' h s k e := by
    intro k
    induction k with
    | zero => intro hk e; exact c2 0 hk e
    | succ k ih =>
      intro hk e
      show (qCp T σ M h s (k + 1) e && qAny (fun f => qRw T σ M h s k f && Trl T (cO σ s (k + 1)) e f) (Tn T)) = (qCp T σ M' h s (k + 1) e && qAny (fun f => qRw T σ M' h s k f && Trl T (cO σ s (k + 1)) e f) (Tn T))
      rw [c2 _ hk, qAny_cg (fun f _ => by rw [ih (by omega) f])]
  unfold qSv
  rw [show qRw T σ M h s (nC σ s - 1) = qRw T σ M' h s (nC σ s - 1) from funext (fun t => c3 _ (by omega) t)]
theorem qIn_lt {s b a : Nat} (r : RSl σ s b) (hb : b ≤ 30) (hi : qIn σ s a) : a < b := by
  obtain ⟨k, t, hk, ht, hc⟩ := hi
  obtain ⟨k9, h9, h17, -, -, -, h5, h7⟩ := (r.t hk).2.2.2 t ht
  rw [h17] at hc
  rcases hc with ⟨c, rfl⟩ | ⟨c, rfl⟩
  · obtain ⟨a, ha, h18, -⟩ := h5 (c.elim (fun z => Or.inl ((nI_is (by omega) (by decide)).mp z)) (fun z => Or.inr ((nI_is (by omega) (by decide)).mp z)))
    rw [tA_n h18 (by omega)]; exact ha
  · obtain ⟨-, a, ha, h19, -⟩ := h7 ((nI_is (by omega) (by decide)).mp c)
    rw [tB_n h19 (by omega)]; exact ha
theorem c_membersOf (hw : Tw T) (t : KT T ex K) (l : KL T K) (q : KQ T ex K) (hA : KA A ex K S) (hh : ∀ q, h = some q → q < Tn T) : f_X10_membersOf (A 50 0) (el A h) S = some (qqM (Tmb T h) (Tn T)) := by
  have h30 := hw.n30
  have key : ∀ d m e, e + d = Tn T → d < m → f_X10_membersOf_4 (A 50 0) m (el A h) (qqM (Tmb T h) e) (nI e) S = some (qqM (Tmb T h) (Tn T)) := by
    intro d
    induction d with
    | zero =>
      intro m e he hm
      obtain ⟨m, rfl⟩ : ∃ m', m = m' + 1 := ⟨m - 1, by omega⟩
      have he : e = Tn T := by omega
      subst he
      rw [f_X10_membersOf_4, t.cnt hA, qqx, if_pos (Int32.le_refl _)]
    | succ d ih =>
      intro m e he hm
      obtain ⟨m, rfl⟩ : ∃ m', m = m' + 1 := ⟨m - 1, by omega⟩
      have hen : e < Tn T := by omega
      rw [f_X10_membersOf_4, t.cnt hA, qqx, if_neg (nI_ge (by omega) (by omega)), t.r10 hA, qqx, c_at hw t hA hen, qqx, if_neg (fun z => by cases z), g15 t hA l hen, qqx]
      unfold f_X10_membersOf_46 f_X10_membersOf_52
      rw [nI_1]
      have nx := ih m (e + 1) (by omega) (by omega)
      rw [← qq1_or] at nx
      have yes : Tmb T h e = true → f_X10_membersOf_4 (A 50 0) m (el A h) (qqM (Tmb T h) e ||| ((1 : Int32) <<< (nI e &&& 31))) (nI (e + 1)) S = some (qqM (Tmb T h) (Tn T)) := fun z => by rw [z] at nx; exact nx
      have no : Tmb T h e = false → f_X10_membersOf_4 (A 50 0) m (el A h) (qqM (Tmb T h) e) (nI (e + 1)) S = some (qqM (Tmb T h) (Tn T)) := fun z => by
        rw [z, show ∀ x : Int32, x ||| qq1 false e = x from fun x => or_0 x] at nx; exact nx
      have heq : (el A (TH T e) = el A h) = (TH T e = h) := el_eq t hA (fun z hz => (TH_lt hw hz).1) hh
      by_cases c : TH T e = h
      · rw [if_pos (heq.mpr c)]
        cases h with
        | none =>
          rw [if_pos (show el A none = none from rfl), qqx, c_holds hw hA q hen, qqx, b2_i0]
          have hm : Tmb T none e = TD T e := by
            unfold Tmb
            rw [TD_eq hw hen, c]
          cases hd : TD T e with
          | true => rw [if_pos rfl]; exact yes (by rw [hm, hd])
          | false => rw [if_neg (by decide)]; exact no (by rw [hm, hd])
        | some p =>
          rw [if_neg (show ¬ el A (some p) = none from fun z => by cases z)]
          exact yes (Tmb_TH.mpr c)
      · rw [if_neg (fun z => c (heq.mp z))]
        refine no (Bool.eq_false_iff.mpr (fun z => c ?_))
        cases h with
        | none =>
          rw [Tmb_R] at z
          unfold TH
          rw [z]
          exact hw.h0
        | some p => exact Tmb_TH.mp z
  unfold f_X10_membersOf
  exact key (Tn T) 4000 0 (by omega) (by omega)
theorem c_partsIn (hw : Tw T) (t : KT T ex K) (l : KL T K) (ke : KE T K σ) (hA : KA A ex K S) (P : Nat → Bool) (part : Int32) : f_X10_partsIn (A 50 0) (qqM P (Tn T)) part S = some (qqM (fun e => decide (σ.1 5 e = part) && qPt (TH T e) P) (Tn T)) := by
  have h30 := hw.n30
  have key : ∀ d m e, e + d = Tn T → d < m → f_X10_partsIn_5 (A 50 0) m (qqM P (Tn T)) part (qqM (fun e => decide (σ.1 5 e = part) && qPt (TH T e) P) e) (nI e) S = some (qqM (fun e => decide (σ.1 5 e = part) && qPt (TH T e) P) (Tn T)) := by
    intro d
    induction d with
    | zero =>
      intro m e he hm
      obtain ⟨m, rfl⟩ : ∃ m', m = m' + 1 := ⟨m - 1, by omega⟩
      have he : e = Tn T := by omega
      subst he
      rw [f_X10_partsIn_5, t.cnt hA, qqx, if_pos (Int32.le_refl _)]
    | succ d ih =>
      intro m e he hm
      obtain ⟨m, rfl⟩ : ∃ m', m = m' + 1 := ⟨m - 1, by omega⟩
      have hen : e < Tn T := by omega
      rw [f_X10_partsIn_5, t.cnt hA, qqx, if_neg (nI_ge (by omega) (by omega)), t.r10 hA, qqx, c_at hw t hA hen, qqx, if_neg (fun z => by cases z), hA.I 0 3 (t.E hen (by decide)) rfl, qqx, (ke e hen).2.2.2.2.2]
      unfold f_X10_partsIn_66
      rw [nI_1]
      have nx := ih m (e + 1) (by omega) (by omega)
      rw [← qq1_or] at nx
      have yes : (decide (σ.1 5 e = part) && qPt (TH T e) P) = true → f_X10_partsIn_5 (A 50 0) m (qqM P (Tn T)) part (qqM (fun e => decide (σ.1 5 e = part) && qPt (TH T e) P) e ||| ((1 : Int32) <<< (nI e &&& 31))) (nI (e + 1)) S = some (qqM (fun e => decide (σ.1 5 e = part) && qPt (TH T e) P) (Tn T)) := fun z => by simp only [z] at nx; exact nx
      have no : (decide (σ.1 5 e = part) && qPt (TH T e) P) = false → f_X10_partsIn_5 (A 50 0) m (qqM P (Tn T)) part (qqM (fun e => decide (σ.1 5 e = part) && qPt (TH T e) P) e) (nI (e + 1)) S = some (qqM (fun e => decide (σ.1 5 e = part) && qPt (TH T e) P) (Tn T)) := fun z => by
        simp only [z] at nx
        rw [show ∀ x : Int32, x ||| qq1 false e = x from fun x => or_0 x] at nx; exact nx
      by_cases c : σ.1 5 e = part
      · rw [if_pos c, g15 t hA l hen, qqx]
        rw [decide_eq_true c, Bool.true_and] at yes no
        cases hth : TH T e with
        | none => rw [if_pos (show el A none = none from rfl)]; rw [hth] at no; exact no rfl
        | some p =>
          have hp := (TH_lt hw hth).1
          rw [hth] at yes no
          rw [if_neg (show ¬ el A (some p) = none from fun z => by cases z), qqx, el_some, t.gn hA hp, qqx, c_ask _ (by omega), qqM_b h30 hp]
          cases hP : P p with
          | true => rw [if_pos rfl]; exact yes hP
          | false => rw [if_neg (by decide)]; exact no hP
      · rw [if_neg c]; exact no (by rw [decide_eq_false c]; rfl)
  unfold f_X10_partsIn
  exact key (Tn T) 4000 0 (by omega) (by omega)
theorem c_passes (hw : Tw T) (t : KT T ex K) (l : KL T K) (ke : KE T K σ) (hA : KA A ex K S) {M : Nat → Int32} {i e k b : Nat} (he : e < Tn T) (hk : k < 10) (h1 : σ.1 17 i = nI k) (hk5 : k < 5) (r : RTs σ b i) : f_X5_passes (A 52 0) (some (A 0 e)) (nI k) (σ.1 18 i) (σ.1 19 i) S = some (b2 (qTs T σ M i e)) := by
  have h30 := hw.n30
  obtain ⟨k', hk', h1', h01, h29, h3, -, -⟩ := r
  have hkk : k' = k := by
    rw [h1] at h1'
    exact ((nI_eqE (by omega) (by omega)).mp h1').symm
  subst hkk
  have gE : ∀ j, gI S (some (A 0 e)) 3 j = some (K.1 0 e j) := fun j => hA.I 0 3 (t.E he (by decide)) rfl
  obtain ⟨e1, e2, e3, e4, e5, e6⟩ := ke e he
  have dz : ∀ (c : Prop) [Decidable c], (if c then rz 1 else rz 0) = some (b2 (decide c)) := fun c _ => by
    by_cases d : c
    · rw [if_pos d, decide_eq_true d]; rfl
    · rw [if_neg d, decide_eq_false d]; rfl
  have bz : ∀ b : Bool, (if b = true then rz 1 else rz 0) = some (b2 b) := fun b => by cases b <;> rfl
  rw [qTs_k hk h1]
  unfold f_X5_passes f_X5_passes_45 f_X5_passes_62 f_X5_passes_79 f_X5_passes_95 f_X5_passes_105 f_X5_passes_150 f_X5_passes_151
  rw [iq0 (by omega), iq1 (by omega), iq2 (by omega), iq3 (by omega)]
  by_cases c0 : k' = 0
  · rw [if_pos c0, if_pos c0, gE 1, qqx, e1, dz]
  rw [if_neg c0, if_neg c0]
  by_cases c1 : k' = 1
  · obtain ⟨a, ha, h18⟩ := h01 (Or.inr c1)
    rw [if_pos c1, if_pos c1, gE 2, qqx, e2, h18, tA_n h18 (by omega), c_ask _ (by omega), bz]
  rw [if_neg c1, if_neg c1]
  by_cases c2 : k' = 2
  · obtain ⟨a, ha, h18⟩ := h29 (Or.inl c2)
    rw [if_pos c2, if_pos c2, gE 3, qqx, e3, h18, tA_n h18 (by omega), c_ask _ (by omega), bz]
  rw [if_neg c2, if_neg c2]
  by_cases c3 : k' = 3
  · rw [if_pos c3, if_pos c3, gE 4, gE 5, qqx, qqx, e4, e5, dz, dz]
    by_cases d : σ.1 18 i = 0
    · rw [if_pos d, if_pos d]
    · rw [if_neg d, if_neg d]
  rw [if_neg c3, if_neg c3, if_pos (show k' = 4 by omega), gE 14, qqx, (l.1 e he).1]
  unfold qNth rm dv
  by_cases d : σ.1 18 i = 0
  · rw [if_pos d, if_pos d, dz]
  · rw [if_neg d, if_neg d, if_neg d, qqx, if_neg d]
    by_cases f : nI (Tix T e + 1) - σ.1 19 i - (nI (Tix T e + 1) - σ.1 19 i) / σ.1 18 i * σ.1 18 i = 0
    · rw [if_pos f, qqx, decide_eq_true f]
      by_cases g : (nI (Tix T e + 1) - σ.1 19 i) / σ.1 18 i < 0
      · rw [if_pos g, decide_eq_false (fun z => z g)]; rfl
      · rw [if_neg g, decide_eq_true g]; rfl
    · rw [if_neg f, decide_eq_false f]; rfl
theorem c_passing (hw : Tw T) (t : KT T ex K) (p9 : KP ex K) (l : KL T K) (ke : KE T K σ) (hA : KA A ex K S) {M : Nat → Int32} {i k b : Nat} (hk : k < 10) (h1 : σ.1 17 i = nI k) (hk5 : k < 5) (r : RTs σ b i) (P : Nat → Bool) : f_X5_passing (A 52 0) (qqM P (Tn T)) (nI k) (σ.1 18 i) (σ.1 19 i) S = some (qqM (fun e => P e && qTs T σ M i e) (Tn T)) := by
  have h30 := hw.n30
  have key : ∀ d m e x, e + d = Tn T → d < m → (∀ y, y < 32 → bt x y = (decide (y < Tn T) && (P y && (decide (e ≤ y) || qTs T σ M i y)))) → f_X5_passing_6 (A 52 0) m (qqM P (Tn T)) (nI k) (σ.1 18 i) (σ.1 19 i) x (nI e) S = some (qqM (fun e => P e && qTs T σ M i e) (Tn T)) := by
    intro d
    induction d with
    | zero =>
      intro m e x he hm hx
      obtain ⟨m, rfl⟩ : ∃ m', m = m' + 1 := ⟨m - 1, by omega⟩
      have he : e = Tn T := by omega
      subst he
      rw [f_X5_passing_6, p9.mtrees hA, qqx, t.cnt hA, qqx, if_pos (Int32.le_refl _)]
      refine congrArg some (qqM_of (by omega) (fun y hy => ?_) (fun y h1 h2 => ?_))
      · rw [hx y (by omega), decide_eq_true hy, decide_eq_false (by omega), Bool.true_and, Bool.false_or]
      · rw [hx y h2, decide_eq_false (by omega)]; rfl
    | succ d ih =>
      intro m e x he hm hx
      obtain ⟨m, rfl⟩ : ∃ m', m = m' + 1 := ⟨m - 1, by omega⟩
      have hen : e < Tn T := by omega
      rw [f_X5_passing_6, p9.mtrees hA, qqx, t.cnt hA, qqx, if_neg (nI_ge (by omega) (by omega)), qqx, t.r10 hA, qqx, c_at hw t hA hen, qqx, if_neg (fun z => by cases z), c_ask _ (by omega), qqM_b h30 hen]
      unfold f_X5_passing_67
      rw [nI_1]
      have same : (P e = false ∨ qTs T σ M i e = true) → f_X5_passing_6 (A 52 0) m (qqM P (Tn T)) (nI k) (σ.1 18 i) (σ.1 19 i) x (nI (e + 1)) S = some (qqM (fun e => P e && qTs T σ M i e) (Tn T)) := by
        intro hz
        refine ih m (e + 1) x (by omega) (by omega) (fun y hy => ?_)
        rw [hx y hy]
        by_cases c : y = e
        · subst c
          rw [decide_eq_true (Nat.le_refl y), decide_eq_false (show ¬ y + 1 ≤ y by omega), Bool.true_or, Bool.false_or]
          rcases hz with z | z <;> rw [z] <;> simp
        · rw [decide_eq_decide.mpr (show e ≤ y ↔ e + 1 ≤ y by omega)]
      cases hP : P e with
      | false => rw [if_neg (by decide)]; exact same (Or.inl hP)
      | true =>
        rw [if_pos rfl, p9.r5 hA, qqx, c_passes (M := M) hw t l ke hA hen hk h1 hk5 r, qqx, b2_i0]
        cases hq : qTs T σ M i e with
        | true => rw [if_pos rfl]; exact same (Or.inr hq)
        | false =>
          rw [if_neg (by decide)]
          refine ih m (e + 1) _ (by omega) (by omega) (fun y hy => ?_)
          rw [b_and, bt_not hy, b_one (by omega) hy, hx y hy]
          by_cases c : y = e
          · subst c
            rw [decide_eq_true rfl, decide_eq_false (show ¬ y + 1 ≤ y by omega), hq]; simp
          · rw [decide_eq_false c, decide_eq_decide.mpr (show e ≤ y ↔ e + 1 ≤ y by omega), Bool.not_false, Bool.and_true]
  unfold f_X5_passing
  refine key (Tn T) 4000 0 _ (by omega) (by omega) (fun y hy => ?_)
  rw [qqM_bt _ _ (by omega) y hy, decide_eq_true (Nat.zero_le y), Bool.true_or, Bool.and_true]
end CST2
