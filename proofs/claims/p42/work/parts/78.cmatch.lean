def bitO (o : Option Nat) : Int32 := match o with
  | none => 0
  | some f => (1 : Int32) <<< (nI f &&& 31)
theorem bitO_n : bitO none = 0 := rfl
theorem bitO_s (f : Nat) : bitO (some f) = (1 : Int32) <<< (nI f &&& 31) := rfl
section CMT
variable {T : qqT} {A : kA} {ex : Nat → Nat → Prop} {K : kS} {S : cS} {σ : mS} {h : Option Nat}
theorem KP.mtrees (p : KP ex K) (h : KA A ex K S) : gR S (some (A 52 0)) 5 0 = some (some (A 50 0)) := by rw [h.R 52 5 (p.x (by decide) (by decide) (by decide)) rfl, p.2.2.1.1]; rfl
theorem c_src87 (t : KT T ex K) (h : KA A ex K S) {k41 : Int32 → Int32 → Int32 → Option Nat → Int32 → Option Int32} {s x4 x5 : Int32} {i : Nat} {y : Option Nat} (hy : ∀ f, y = some f → f < Tn T) : f_X5_sources_87 k41 (A 52 0) s x4 x5 (nI i) (el A y) S = k41 (s ||| bitO (y)) x4 x5 (el A y) (nI (i + 1)) := by
  unfold f_X5_sources_87 f_X5_sources_106
  cases y with
  | none => rw [if_pos (show el A none = none from rfl), nI_1]; rfl
  | some f => rw [if_neg (show ¬ el A (some f) = none from fun z => by cases z), el_some, t.gn h (hy f rfl), qqx, nI_1]; rfl
theorem c_src41_up (hw : Tw T) (t : KT T ex K) (h : KA A ex K S) {e : Nat} (he : e < Tn T) {m i n : Nat} {s : Int32} (hi : i < n) (hn : n < 100) : f_X5_sources_41 (A 52 0) (m + 1) s 1 (nI n) (some (A 0 e)) (nI i) S = f_X5_sources_41 (A 52 0) m (s ||| bitO (Tup T e)) 1 (nI n) (el A (Tup T e)) (nI (i + 1)) S := by
  rw [f_X5_sources_41, if_neg (nI_ge hi (by omega)), if_neg (fun z => by cases z), if_neg (by decide), t.g8 h he, qqx]
  have k87 : ∀ y, y = Tup T e → f_X5_sources_87 (fun z0 z1 z2 z3 z4 => f_X5_sources_41 (A 52 0) m z0 z1 z2 z3 z4 S) (A 52 0) s 1 (nI n) (nI i) (el A y) S = f_X5_sources_41 (A 52 0) m (s ||| bitO (Tup T e)) 1 (nI n) (el A (Tup T e)) (nI (i + 1)) S := by
    intro y hy
    rw [hy]
    exact c_src87 t h (fun f hf => (hw.up hf).2)
  cases hp : Tp T e with
  | none => rw [if_pos (show el A none = none from rfl), t.g9 h he, qqx]; exact k87 _ (by unfold Tup; rw [hp])
  | some p => rw [if_neg (show ¬ el A (some p) = none from fun z => by cases z), qqx]; exact k87 _ (by rw [Tup_p hp])
theorem c_src41_pv (hw : Tw T) (t : KT T ex K) (h : KA A ex K S) {e : Nat} (he : e < Tn T) {m i n : Nat} {s : Int32} (hi : i < n) (hn : n < 100) : f_X5_sources_41 (A 52 0) (m + 1) s 0 (nI n) (some (A 0 e)) (nI i) S = f_X5_sources_41 (A 52 0) m (s ||| bitO (Tpv T e)) 0 (nI n) (el A (Tpv T e)) (nI (i + 1)) S := by
  rw [f_X5_sources_41, if_neg (nI_ge hi (by omega)), if_neg (fun z => by cases z), if_pos rfl, t.g13 h he, qqx]
  exact c_src87 t h (fun f hf => Tpv_lt hw he hf)
theorem c_src41_n {m : Nat} {s x4 x5 x7 : Int32} : f_X5_sources_41 (A 52 0) (m + 1) s x4 x5 none x7 S = some s := by
  rw [f_X5_sources_41]
  unfold f_X5_sources_114
  by_cases c : x5 ≤ x7
  · rw [if_pos c]
  · rw [if_neg c, if_pos rfl]
theorem c_src41_e {m i n : Nat} {s x4 : Int32} {y : Option Nat} (hi : n ≤ i) (hn : i < 100) : f_X5_sources_41 (A 52 0) (m + 1) s x4 (nI n) y (nI i) S = some s := by
  rw [f_X5_sources_41, if_pos (nI_le hi (by omega))]
  rfl
theorem c_src_up (hw : Tw T) (t : KT T ex K) (h : KA A ex K S) {ν : Nat → Nat} (hν : ∀ e q, Tup T e = some q → ν q < ν e) : ∀ (m e i : Nat) (s : Int32), e < Tn T → i + ν e ≤ 29 → ν e + 1 < m → ∃ s', f_X5_sources_41 (A 52 0) m s 1 (nI 30) (some (A 0 e)) (nI i) S = some s' ∧ ∀ f, f < 32 → bt s' f = (bt s f || (decide (f < Tn T) && TU T f e)) := by
  have h30 := hw.n30
  intro m
  induction m with
  | zero => intro e i s _ _ hm; omega
  | succ m ih =>
    intro e i s he hi hm
    rw [c_src41_up hw t h he (by omega) (by decide)]
    cases hu : Tup T e with
    | none =>
      obtain ⟨m, rfl⟩ : ∃ m', m = m' + 1 := ⟨m - 1, by omega⟩
      rw [el_none, c_src41_n]
      refine ⟨_, rfl, fun f hf => ?_⟩
      rw [b_or, bitO_n, b_0, TU_eq hw he, hu, Bool.or_false, Bool.and_false, Bool.or_false]
    | some q =>
      have hq := (hw.up hu).2
      have := hν e q hu
      obtain ⟨s', e1, h1⟩ := ih q (i + 1) (s ||| ((1 : Int32) <<< (nI q &&& 31))) hq (by omega) (by omega)
      refine ⟨s', e1, fun f hf => ?_⟩
      rw [h1 f hf, b_or, b_one (by omega) hf, TU_eq hw he, hu]
      show (bt s f || decide (f = q) || (decide (f < Tn T) && TU T f q)) = (bt s f || (decide (f < Tn T) && ((q == f) || TU T f q)))
      by_cases c : f = q
      · subst c
        rw [decide_eq_true rfl, decide_eq_true hq, show (f == f) = true by simp]
        cases bt s f <;> rfl
      · rw [decide_eq_false c, show (q == f) = false by simpa using fun z : q = f => c z.symm]
        cases bt s f <;> rfl
theorem c_src_pv (hw : Tw T) (t : KT T ex K) (h : KA A ex K S) : ∀ (m e i : Nat) (s : Int32), e < Tn T → i + Tix T e ≤ 29 → Tix T e + 1 < m → ∃ s', f_X5_sources_41 (A 52 0) m s 0 (nI 30) (some (A 0 e)) (nI i) S = some s' ∧ ∀ f, f < 32 → bt s' f = (bt s f || (decide (f < Tn T) && decide (f ∈ Tsb T e ∧ Tix T f < Tix T e))) := by
  have h30 := hw.n30
  intro m
  induction m with
  | zero => intro e i s _ _ hm; omega
  | succ m ih =>
    intro e i s he hi hm
    rw [c_src41_pv hw t h he (by omega) (by decide)]
    cases hu : Tpv T e with
    | none =>
      obtain ⟨m, rfl⟩ : ∃ m', m = m' + 1 := ⟨m - 1, by omega⟩
      have h0 := (Tpv_ix hw).mp hu
      rw [el_none, c_src41_n]
      refine ⟨_, rfl, fun f hf => ?_⟩
      rw [b_or, bitO_n, b_0, decide_eq_false (show ¬ (f ∈ Tsb T e ∧ Tix T f < Tix T e) from fun z => by omega), Bool.or_false, Bool.and_false, Bool.or_false]
    | some q =>
      have hq := Tpv_lt hw he hu
      obtain ⟨q1, -, -, q4, q5⟩ := Tpv_some hw hu
      obtain ⟨s', e1, h1⟩ := ih q (i + 1) (s ||| ((1 : Int32) <<< (nI q &&& 31))) hq (by omega) (by omega)
      refine ⟨s', e1, fun f hf => ?_⟩
      rw [h1 f hf, b_or, b_one (by omega) hf, q4]
      by_cases c : f = q
      · subst c
        rw [decide_eq_true rfl, decide_eq_true hq, decide_eq_true (show f ∈ Tsb T e ∧ Tix T f < Tix T e from ⟨q1, by omega⟩)]
        cases bt s f <;> simp
      · have : (f ∈ Tsb T e ∧ Tix T f < Tix T q) ↔ (f ∈ Tsb T e ∧ Tix T f < Tix T e) := by
          refine ⟨fun z => ⟨z.1, by omega⟩, fun z => ⟨z.1, ?_⟩⟩
          have hne : Tix T f ≠ Tix T q := fun w => by
            have a1 := Tix_get hw f
            have a2 := Tix_get hw q
            rw [(Tsb_same hw z.1).2.2] at a1
            rw [q4] at a2
            rw [w, a2] at a1
            exact c (Option.some.inj a1).symm
          omega
        rw [decide_eq_false c, decide_eq_decide.mpr this, Bool.or_false]
theorem c_sources (hw : Tw T) (t : KT T ex K) (h : KA A ex K S) {c e : Nat} (hc : c < 4) (he : e < Tn T) : ∃ s, f_X5_sources (A 52 0) (some (A 0 e)) (nI c) S = some s ∧ ∀ f, f < 32 → bt s f = (decide (f < Tn T) && Trl T c e f) := by
  have h30 := hw.n30
  obtain ⟨ν, n1, n2, n3, n4⟩ := hw.rkb
  have hν := n1 e he
  have ht := Tix_30 hw he
  unfold f_X5_sources f_X5_sources_11 f_X5_sources_16 f_X5_sources_27 f_X5_sources_33
  rw [iq0 (by omega), iq1 (by omega), iq3 (by omega)]
  obtain rfl | rfl | rfl | rfl : c = 0 ∨ c = 1 ∨ c = 2 ∨ c = 3 := by omega
  · obtain ⟨s, e1, h1⟩ := c_src_up hw t h n3 4000 e 0 0 he (by omega) (by omega)
    rw [if_pos rfl, if_pos (show nI 0 = 0 from rfl)]
    refine ⟨s, e1, fun f hf => ?_⟩
    rw [h1 f hf, b_0]; rfl
  · have e1 := c_src41_up hw t h he (m := 3999) (i := 0) (n := 1) (s := 0) (by decide) (by decide)
    rw [c_src41_e (m := 3998) (by decide) (by decide)] at e1
    rw [if_neg (by decide), if_pos rfl, if_neg (by decide), if_neg (by decide)]
    refine ⟨_, e1, fun f hf => ?_⟩
    rw [b_or, b_0, Bool.false_or]
    unfold Trl
    rw [if_neg (by decide), if_pos rfl]
    cases hu : Tup T e with
    | none => rw [bitO_n, b_0, decide_eq_false (show ¬ (none : Option Nat) = some f from fun z => by cases z), Bool.and_false]
    | some q =>
      have hq := (hw.up hu).2
      show bt ((1 : Int32) <<< (nI q &&& 31)) f = _
      rw [b_one (by omega) hf]
      by_cases d : f = q
      · subst d; rw [decide_eq_true rfl, decide_eq_true hq, decide_eq_true rfl]; rfl
      · rw [decide_eq_false d, decide_eq_false (fun z => d (Option.some.inj z).symm), Bool.and_false]
  · have e1 := c_src41_pv hw t h he (m := 3999) (i := 0) (n := 1) (s := 0) (by decide) (by decide)
    rw [c_src41_e (m := 3998) (by decide) (by decide)] at e1
    rw [if_neg (by decide), if_neg (by decide), if_neg (by decide), if_neg (by decide)]
    refine ⟨_, e1, fun f hf => ?_⟩
    rw [b_or, b_0, Bool.false_or]
    unfold Trl
    rw [if_neg (by decide), if_neg (by decide), if_pos rfl]
    cases hu : Tpv T e with
    | none => rw [bitO_n, b_0, decide_eq_false (show ¬ (none : Option Nat) = some f from fun z => by cases z), Bool.and_false]
    | some q =>
      have hq := Tpv_lt hw he hu
      show bt ((1 : Int32) <<< (nI q &&& 31)) f = _
      rw [b_one (by omega) hf]
      by_cases d : f = q
      · subst d; rw [decide_eq_true rfl, decide_eq_true hq, decide_eq_true rfl]; rfl
      · rw [decide_eq_false d, decide_eq_false (fun z => d (Option.some.inj z).symm), Bool.and_false]
  · obtain ⟨s, e1, h1⟩ := c_src_pv hw t h 4000 e 0 0 he (by omega) (by omega)
    rw [if_neg (by decide), if_neg (by decide), if_neg (by decide), if_pos (show nI 3 = 3 from rfl)]
    refine ⟨s, e1, fun f hf => ?_⟩
    rw [h1 f hf, b_0]; rfl
theorem KP.rc52 (p : KP ex K) (h : KA A ex K S) : rc S (some (A 52 0)) 5 = some (A 52 0) := p.r5 h
theorem c_atS (hw : Tw T) (t : KT T ex K) (h : KA A ex K S) {e : Nat} (he : e < Tn T) : f_X10_at (A 50 0) (nI e) S = some (some (A 0 e)) := c_at hw t h he
theorem c_origins (hw : Tw T) (t : KT T ex K) (p9 : KP ex K) (h : KA A ex K S) {c : Nat} (hc : c < 4) (x : Int32) : ∃ s, f_X5_origins (A 52 0) x (nI c) S = some s ∧ ∀ e, e < 32 → bt s e = qAny (fun y => bt x y && (decide (e < Tn T) && Trl T c y e)) (Tn T) := by
  have h30 := hw.n30
  have key : ∀ d m y s, y + d = Tn T → d < m → (∀ e, e < 32 → bt s e = qAny (fun y => bt x y && (decide (e < Tn T) && Trl T c y e)) y) → ∃ s', f_X5_origins_5 (A 52 0) m x (nI c) s (nI y) S = some s' ∧ ∀ e, e < 32 → bt s' e = qAny (fun y => bt x y && (decide (e < Tn T) && Trl T c y e)) (Tn T) := by
    intro d
    induction d with
    | zero =>
      intro m y s hy hm hs
      obtain ⟨m, rfl⟩ : ∃ m', m = m' + 1 := ⟨m - 1, by omega⟩
      have hy : y = Tn T := by omega
      subst hy
      rw [f_X5_origins_5, p9.mtrees h, qqx, t.cnt h, qqx, if_pos (Int32.le_refl _)]
      exact ⟨s, rfl, hs⟩
    | succ d ih =>
      intro m y s hy hm hs
      obtain ⟨m, rfl⟩ : ∃ m', m = m' + 1 := ⟨m - 1, by omega⟩
      have hyn : y < Tn T := by omega
      rw [f_X5_origins_5, p9.mtrees h, qqx, t.cnt h, qqx, if_neg (nI_ge (by omega) (by omega)), qqx, t.r10 h, qqx, c_at hw t h hyn, qqx, if_neg (fun z => by cases z), c_ask _ (by omega)]
      unfold f_X5_origins_52
      rw [nI_1]
      by_cases cb : bt x y = true
      · obtain ⟨s1, e1, h1⟩ := c_sources hw t h hc hyn
        rw [if_pos cb, p9.r5 h, qqx, e1, qqx]
        refine ih m (y + 1) _ (by omega) (by omega) (fun e he => ?_)
        rw [b_or, hs e he, h1 e he]
        show _ = (qAny (fun y => bt x y && (decide (e < Tn T) && Trl T c y e)) y || (bt x y && (decide (e < Tn T) && Trl T c y e)))
        rw [cb, Bool.true_and]
      · rw [if_neg cb]
        refine ih m (y + 1) s (by omega) (by omega) (fun e he => ?_)
        rw [hs e he]
        show _ = (qAny (fun y => bt x y && (decide (e < Tn T) && Trl T c y e)) y || (bt x y && (decide (e < Tn T) && Trl T c y e)))
        rw [Bool.not_eq_true _ |>.mp cb, Bool.false_and, Bool.or_false]
  unfold f_X5_origins
  exact key (Tn T) 4000 0 0 (by omega) (by omega) (fun e _ => b_0 e)
theorem c_reached (hw : Tw T) (t : KT T ex K) (p9 : KP ex K) (h : KA A ex K S) {c : Nat} (hc : c < 4) (P Q : Nat → Bool) : f_X5_reached (A 52 0) (qqM Q (Tn T)) (nI c) (qqM P (Tn T)) S = some (qqM (fun e => Q e && qAny (fun f => P f && Trl T c e f) (Tn T)) (Tn T)) := by
  have h30 := hw.n30
  have key : ∀ d m e, e + d = Tn T → d < m → f_X5_reached_6 (A 52 0) m (qqM Q (Tn T)) (nI c) (qqM P (Tn T)) (qqM (fun e => Q e && qAny (fun f => P f && Trl T c e f) (Tn T)) e) (nI e) S = some (qqM (fun e => Q e && qAny (fun f => P f && Trl T c e f) (Tn T)) (Tn T)) := by
    intro d
    induction d with
    | zero =>
      intro m e he hm
      obtain ⟨m, rfl⟩ : ∃ m', m = m' + 1 := ⟨m - 1, by omega⟩
      have he : e = Tn T := by omega
      subst he
      rw [f_X5_reached_6, p9.mtrees h, qqx, t.cnt h, qqx, if_pos (Int32.le_refl _)]
    | succ d ih =>
      intro m e he hm
      obtain ⟨m, rfl⟩ : ∃ m', m = m' + 1 := ⟨m - 1, by omega⟩
      have hen : e < Tn T := by omega
      rw [f_X5_reached_6, p9.mtrees h, qqx, t.cnt h, qqx, if_neg (nI_ge (by omega) (by omega)), qqx, t.r10 h, qqx, c_at hw t h hen, qqx, if_neg (fun z => by cases z), c_ask _ (by omega), qqM_b h30 hen]
      unfold f_X5_reached_64
      rw [nI_1]
      have nx := ih m (e + 1) (by omega) (by omega)
      rw [← qq1_or] at nx
      have no : (Q e && qAny (fun f => P f && Trl T c e f) (Tn T)) = false → f_X5_reached_6 (A 52 0) m (qqM Q (Tn T)) (nI c) (qqM P (Tn T)) (qqM (fun e => Q e && qAny (fun f => P f && Trl T c e f) (Tn T)) e) (nI (e + 1)) S = some (qqM (fun e => Q e && qAny (fun f => P f && Trl T c e f) (Tn T)) (Tn T)) := by
        intro hz
        simp only [hz] at nx
        rw [show ∀ x : Int32, x ||| qq1 false e = x from fun x => or_0 x] at nx
        exact nx
      cases hq : Q e with
      | false => rw [if_neg (by decide)]; exact no (by rw [hq]; rfl)
      | true =>
        obtain ⟨s1, e1, h1⟩ := c_sources hw t h hc hen
        have hz : (s1 &&& qqM P (Tn T) = 0) ↔ qAny (fun f => P f && Trl T c e f) (Tn T) = false := by
          refine ⟨fun z => Bool.eq_false_iff.mpr (fun w => ?_), fun z => ?_⟩
          · obtain ⟨f, hf, hpf⟩ := qAny_is.mp w
            have : bt (s1 &&& qqM P (Tn T)) f = true := by
              rw [b_and, h1 f (by omega), qqM_b h30 hf, decide_eq_true hf]
              rw [Bool.and_eq_true] at hpf
              rw [hpf.1, hpf.2]; rfl
            rw [z, b_0] at this; cases this
          · apply b_ext
            intro f hf
            rw [b_and, h1 f hf, b_0]
            by_cases c9 : f < Tn T
            · rw [qqM_b h30 c9]
              cases hpf : (P f && Trl T c e f) with
              | true => rw [qAny_is.mpr ⟨f, c9, hpf⟩] at z; cases z
              | false => revert hpf; cases P f <;> cases Trl T c e f <;> simp
            · rw [decide_eq_false c9]; rfl
        rw [if_pos rfl, p9.r5 h, qqx, e1, qqx]
        cases ha : qAny (fun f => P f && Trl T c e f) (Tn T) with
        | false => rw [if_pos (hz.mpr ha)]; exact no (by rw [ha, Bool.and_false])
        | true =>
          rw [if_neg (fun z => by rw [hz.mp z] at ha; cases ha)]
          have hz : (Q e && qAny (fun f => P f && Trl T c e f) (Tn T)) = true := by rw [hq, ha]; rfl
          simp only [hz] at nx
          exact nx
  unfold f_X5_reached
  exact key (Tn T) 4000 0 (by omega) (by omega)
end CMT
