section QD
variable {T : qqT} {σ σ' : mS} {b ord : Bool} {e p i x f y : Nat}
def Bh (T : qqT) (x y : Nat) : Prop := y ∈ Tsb T x ∧ Tix T x < Tix T y
def Aft (T : qqT) (x e : Nat) : Prop := ∃ y, Bh T x y ∧ TA T y e = true
def Uset (T : qqT) (ord : Bool) (x e : Nat) : Prop := e < Tn T ∧ TA T x e = false ∧ (ord = true → ¬ Aft T x e)
theorem TA_e (hw : Tw T) {e x : Nat} (hx : x < Tn T) (h : TA T e x = false) : x ≠ e := fun z => by rw [z, TA_s hw (by rw [← z]; exact hx)] at h; cases h
theorem TA_q (hw : Tw T) {e x q : Nat} (hx : x < Tn T) (hq : Tup T x = some q) (h : TA T e x = false) : TA T e q = false := by
  rw [TA_u hw hx hq, Bool.or_eq_false_iff] at h; exact h.2
theorem TH_ind (hw : Tw T) {P : Nat → Prop} (hP : ∀ e q, e < Tn T → Tup T e = some q → P e → P q) : ∀ e, e < Tn T → P e → ∀ t, TH T e = some t → P t := by
  obtain ⟨rk, h1⟩ := hw.rkup
  intro e
  refine qqInd (st := Tup T) (μ := rk) (P := fun e => e < Tn T → P e → ∀ t, TH T e = some t → P t) ?_ e
  intro e ih he hp t ht
  cases hpp : Tp T e with
  | some q =>
    have hu := Tup_p hpp
    rw [TH_p hw hpp] at ht
    exact ih q hu (h1 e q hu) (hw.up hu).2 (hP e q he hu hp) t ht
  | none =>
    rw [TH_n hw he hpp] at ht
    exact hP e t he (Tup_h hw ht) hp
theorem Tis_out (hw : Tw T) (h : inH T b x p i) : ∀ e, e < Tn T → TA (Tis T b x p i) x e = false → TH (Tis T b x p i) e = TH T e ∧ TR (Tis T b x p i) e = TR T e ∧ ∀ f, TU (Tis T b x p i) f e = TU T f e := by
  have hw' := Tis_w hw h
  obtain ⟨rk, h1⟩ := hw'.rkup
  intro e
  refine qqInd (st := Tup (Tis T b x p i)) (μ := rk) (P := fun e => e < Tn T → TA (Tis T b x p i) x e = false → TH (Tis T b x p i) e = TH T e ∧ TR (Tis T b x p i) e = TR T e ∧ ∀ f, TU (Tis T b x p i) f e = TU T f e) ?_ e
  intro e ih he hb
  have hex := TA_e hw' he hb
  have eu : Tup (Tis T b x p i) e = Tup T e := by rw [Tis_up h, if_neg hex]
  have ep : Tp (Tis T b x p i) e = Tp T e := by rw [Tis_p, if_neg (fun z => hex z.1)]
  have eh : Th (Tis T b x p i) e = Th T e := by rw [Tis_h, if_neg (fun z => hex z.1)]
  refine ⟨?_, ?_, fun f => ?_⟩
  · cases hp : Tp T e with
    | some q =>
      have hu := Tup_p (ep.trans hp)
      rw [TH_p hw hp, TH_p hw' (ep.trans hp)]
      exact (ih q hu (h1 e q hu) (hw'.up hu).2 (TA_q hw' he hu hb)).1
    | none => rw [TH_n hw he hp, TH_n hw' he (ep.trans hp), eh]
  · cases hp : Tp T e with
    | some q =>
      have hu := Tup_p (ep.trans hp)
      rw [TR_p hw hp, TR_p hw' (ep.trans hp)]
      exact (ih q hu (h1 e q hu) (hw'.up hu).2 (TA_q hw' he hu hb)).2.1
    | none => rw [TR_n hw he hp, TR_n hw' he (ep.trans hp)]
  · rw [TU_eq hw he, TU_eq hw' he, eu]
    cases hu : Tup T e with
    | none => rfl
    | some q =>
      have hu' := eu.trans hu
      show ((q == f) || TU (Tis T b x p i) f q) = ((q == f) || TU T f q)
      rw [(ih q hu' (h1 e q hu') (hw'.up hu').2 (TA_q hw' he hu' hb)).2.2 f]
theorem TU_P (hw : Tw T) {P : Nat → Prop} (hP : ∀ e q, e < Tn T → Tup T e = some q → P e → P q) : ∀ e, e < Tn T → P e → ∀ f, TU T f e = true → P f := by
  obtain ⟨rk, h1⟩ := hw.rkup
  intro e
  refine qqInd (st := Tup T) (μ := rk) (P := fun e => e < Tn T → P e → ∀ f, TU T f e = true → P f) ?_ e
  intro e ih he hp f hf
  rw [TU_eq hw he] at hf
  cases hu : Tup T e with
  | none => rw [hu] at hf; cases hf
  | some q =>
    rw [hu] at hf
    have hf : ((q == f) || TU T f q) = true := hf
    have hpq := hP e q he hu hp
    rcases (Bool.or_eq_true _ _).mp hf with z | z
    · have : q = f := by simpa using z
      rw [← this]; exact hpq
    · exact ih q hu (h1 e q hu) (hw.up hu).2 hpq f z
theorem Uset_up (hw : Tw T) (q : Nat) (he : e < Tn T) (hu : Tup T e = some q) (hU : Uset T ord x e) : Uset T ord x q := by
  refine ⟨(hw.up hu).2, TA_q hw he hu hU.2.1, fun o z => hU.2.2 o ?_⟩
  obtain ⟨y, y1, y2⟩ := z
  exact ⟨y, y1, by rw [TA_u hw he hu, y2, Bool.or_true]⟩
theorem Tsb_up (hw : Tw T) {e f : Nat} (hf : f ∈ Tsb T e) : Tup T f = Tup T e := by
  obtain ⟨h1, h2, -⟩ := Tsb_same hw hf
  unfold Tup
  rw [h1, h2]
theorem Uset_sb (hw : Tw T) (ho : ord = true) (hx : x < Tn T) (hU : Uset T ord x e) (hf : f ∈ Tsb T e) (hi : Tix T f < Tix T e) : Uset T ord x f := by
  have hfn := Tsb_lt hw hU.1 hf
  have hse := (Tsb_same hw hf).2.2
  have nA : ¬ Aft T x f := fun z => by
    obtain ⟨y, ⟨y1, y2⟩, y3⟩ := z
    refine hU.2.2 ho ?_
    by_cases c : f = y
    · subst c
      refine ⟨e, ⟨?_, by omega⟩, TA_s hw hU.1⟩
      have s1 := (Tsb_same hw y1).2.2
      rw [← s1, hse]; exact Tsb_mem hw e
    · cases hu : Tup T f with
      | none => rw [TA_eq hw hfn, hu] at y3; exact absurd (of_decide_eq_true y3) c
      | some q =>
        rw [TA_u hw hfn hu, decide_eq_false c, Bool.false_or] at y3
        exact ⟨y, ⟨y1, y2⟩, by rw [TA_u hw hU.1 ((Tsb_up hw hf).symm.trans hu), y3, Bool.or_true]⟩
  refine ⟨hfn, ?_, fun _ => nA⟩
  cases hb : TA T x f with
  | false => rfl
  | true =>
    exfalso
    by_cases c : f = x
    · subst c
      exact hU.2.2 ho ⟨e, ⟨by rw [hse]; exact Tsb_mem hw e, hi⟩, TA_s hw hU.1⟩
    · cases hu : Tup T f with
      | none => rw [TA_eq hw hfn, hu] at hb; exact absurd (of_decide_eq_true hb) c
      | some q =>
        rw [TA_u hw hfn hu, decide_eq_false c, Bool.false_or] at hb
        have := hU.2.1
        rw [TA_u hw hU.1 ((Tsb_up hw hf).symm.trans hu), hb, Bool.or_true] at this
        cases this
theorem Tis_pos (hw : Tw T) (h : inH T b x p i) (he : e ≠ x) (hnb : ¬ Bh (Tis T b x p i) x e) : Tix (Tis T b x p i) e = Tix T e ∧ ∀ f, f ≠ x → Tix (Tis T b x p i) f < Tix (Tis T b x p i) e → (f ∈ Tsb (Tis T b x p i) e ↔ f ∈ Tsb T e) ∧ (f ∈ Tsb (Tis T b x p i) e → Tix (Tis T b x p i) f = Tix T f) := by
  have hw' := Tis_w hw h
  obtain ⟨s1, s2, s3⟩ := Tis_sb hw h
  have hil := h.2.2.2.2
  by_cases c : e ∈ Tls T b p
  · have t' := s1 e (Or.inr c)
    have t0 := s3 e c
    have tx := s1 x (Or.inl rfl)
    have ixx : Tix (Tis T b x p i) x = i := by
      refine Tix_at hw' (e := x) (k := i) ?_
      rw [tx, ins_get x i _ i hil, if_neg (by omega), if_pos rfl]
    have exb : e ∈ Tsb (Tis T b x p i) x := by rw [tx]; exact (ins_mem i _).mpr (Or.inr c)
    have lt : ∀ g, g ∈ Tls T b p → g ≠ x → Tix (Tis T b x p i) g ≤ i → Tix (Tis T b x p i) g = Tix T g := fun g hg hgx hgi => by
      have tg' := s1 g (Or.inr hg)
      have tg0 := s3 g hg
      have a := Tix_get hw' g
      rw [tg', ins_get x i _ _ hil] at a
      by_cases d : Tix (Tis T b x p i) g < i
      · rw [if_pos d] at a
        exact (Tix_at hw (e := g) (by rw [tg0]; exact a)).symm
      · rw [if_neg d, if_pos (by omega)] at a
        cases a; exact absurd rfl hgx
    have ei : Tix (Tis T b x p i) e ≤ i := by
      refine Nat.le_of_not_lt (fun z => hnb ⟨exb, by rw [ixx]; exact z⟩)
    refine ⟨lt e c he ei, fun f hf hlt => ?_⟩
    rw [t', t0]
    refine ⟨?_, fun z => ?_⟩
    · rw [ins_mem]
      exact ⟨fun z => z.resolve_left hf, Or.inr⟩
    · rw [ins_mem] at z
      exact lt f (z.resolve_left hf) hf (by omega)
  · have t' := s2 e he c
    have ix : ∀ g, g ∈ Tsb T e → g ≠ x → Tix (Tis T b x p i) g = Tix T g := fun g hg hgx => by
      have hgc : g ∉ Tls T b p := fun z => c (by
        have := s3 g z
        rw [(Tsb_same hw hg).2.2] at this
        rw [← this]; exact Tsb_mem hw e)
      unfold Tix
      rw [s2 g hgx hgc]
    refine ⟨ix e (Tsb_mem hw e) he, fun f hf _ => ?_⟩
    rw [t']
    exact ⟨Iff.rfl, fun z => ix f z hf⟩
theorem Tis_pair (hw : Tw T) (h : inH T b x p i) (hf : ∀ f, f ∈ pFd → σ'.1 f = σ.1 f) : pairU T (Tis T b x p i) σ σ' ord (Uset (Tis T b x p i) ord x) := by
  have hw' := Tis_w hw h
  have hxn : x < Tn T := h.1.1
  refine ⟨rfl, hf, fun e hU => ?_⟩
  have he : e < Tn T := hU.1
  obtain ⟨o1, o2, o3⟩ := Tis_out hw h e he hU.2.1
  have hex := TA_e hw' he hU.2.1
  have eu : Tup (Tis T b x p i) e = Tup T e := by rw [Tis_up h, if_neg hex]
  have lo : ∀ c f, c < 2 → Trl (Tis T b x p i) c e f = Trl T c e f ∧ (Trl T c e f = true → Uset (Tis T b x p i) ord x f) := fun c f hc => by
    by_cases c0 : c = 0
    · unfold Trl
      rw [if_pos c0, if_pos c0, o3 f]
      refine ⟨rfl, fun z => ?_⟩
      rw [← o3 f] at z
      exact TU_P hw' (P := Uset (Tis T b x p i) ord x) (fun e q he hu hP => Uset_up hw' q he hu hP) e he hU f z
    · have c1 : c = 1 := by omega
      unfold Trl
      rw [if_neg c0, if_neg c0, if_pos c1, if_pos c1, eu]
      refine ⟨rfl, fun z => ?_⟩
      rw [← eu] at z
      exact Uset_up hw' f he (of_decide_eq_true z) hU
  refine ⟨he, ⟨o1, by rw [o2]⟩, fun t ht => ?_, fun c f hc _ => lo c f hc, fun ho => ?_⟩
  · rw [← o1] at ht
    exact TH_ind hw' (P := Uset (Tis T b x p i) ord x) (fun e q he hu hP => Uset_up hw' q he hu hP) e he hU t ht
  · have hnb : ¬ Bh (Tis T b x p i) x e := fun z => hU.2.2 ho ⟨e, z, TA_s hw' he⟩
    obtain ⟨p1, p2⟩ := Tis_pos hw h hex hnb
    refine ⟨p1, fun c f hc hfn => ?_⟩
    by_cases c2 : c < 2
    · exact lo c f c2
    · by_cases c3 : c = 2
      · subst c3
        have pv : Tpv (Tis T b x p i) e = Tpv T e := by
          rw [(((Tis_nx hw h).2 e he hex).2), if_neg (fun z => hnb ?_)]
          have hi := h.2.2.2.2
          obtain ⟨s1, -, -⟩ := Tis_sb hw h
          have tx := s1 x (Or.inl rfl)
          have hm : e ∈ Tls T b p := List.mem_of_getElem? z
          have ixx : Tix (Tis T b x p i) x = i := by
            refine Tix_at hw' (e := x) (k := i) ?_
            rw [tx, ins_get x i _ i hi, if_neg (by omega), if_pos rfl]
          have ixe : Tix (Tis T b x p i) e = i + 1 := by
            refine Tix_at hw' (e := x) (k := i + 1) ?_
            rw [tx, ins_get x i _ _ hi, if_neg (by omega), if_neg (by omega)]
            exact z
          exact ⟨by rw [tx]; exact (ins_mem i _).mpr (Or.inr hm), by omega⟩
        show decide (Tpv (Tis T b x p i) e = some f) = decide (Tpv T e = some f) ∧ (decide (Tpv T e = some f) = true → _)
        rw [pv]
        refine ⟨rfl, fun z => ?_⟩
        rw [← pv] at z
        have := Tpv_some hw' (of_decide_eq_true z)
        exact Uset_sb hw' ho hxn hU this.1 (by omega)
      · have e3 : c = 3 := by omega
        subst e3
        show decide (f ∈ Tsb (Tis T b x p i) e ∧ Tix (Tis T b x p i) f < Tix (Tis T b x p i) e) = decide (f ∈ Tsb T e ∧ Tix T f < Tix T e) ∧ (decide (f ∈ Tsb T e ∧ Tix T f < Tix T e) = true → _)
        have iff : (f ∈ Tsb (Tis T b x p i) e ∧ Tix (Tis T b x p i) f < Tix (Tis T b x p i) e) ↔ (f ∈ Tsb T e ∧ Tix T f < Tix T e) := by
          constructor
          · intro z
            have hfx : f ≠ x := fun w => by
              subst w
              exact hnb ⟨by rw [(Tsb_same hw' z.1).2.2]; exact Tsb_mem hw' e, z.2⟩
            obtain ⟨q1, q2⟩ := p2 f hfx z.2
            have q2 := q2 z.1
            exact ⟨q1.mp z.1, by rw [← q2, ← p1]; exact z.2⟩
          · intro z
            have hfx : f ≠ x := fun w => by
              subst w
              have := (Tsb_same hw z.1)
              have hn : Tsb T f = [f] := Tsb_n h.2.1.1 h.2.1.2
              have : e ∈ Tsb T f := by rw [this.2.2]; exact Tsb_mem hw e
              rw [hn, List.mem_singleton] at this
              exact hex this
            obtain ⟨s1, s2, s3⟩ := Tis_sb hw h
            by_cases c : e ∈ Tls T b p
            · have t0 := s3 e c
              have t' := s1 e (Or.inr c)
              have hfl : f ∈ Tls T b p := by rw [← t0]; exact z.1
              have a := Tix_get hw f
              rw [s3 f hfl] at a
              have hi := h.2.2.2.2
              have tx := s1 x (Or.inl rfl)
              have ixx : Tix (Tis T b x p i) x = i := by
                refine Tix_at hw' (e := x) (k := i) ?_
                rw [tx, ins_get x i _ i hi, if_neg (by omega), if_pos rfl]
              have ei : Tix (Tis T b x p i) e ≤ i := Nat.le_of_not_lt (fun w => hnb ⟨by rw [tx]; exact (ins_mem i _).mpr (Or.inr c), by rw [ixx]; exact w⟩)
              have fx : Tix (Tis T b x p i) f = Tix T f := by
                refine Tix_at hw' (e := e) (k := Tix T f) ?_
                rw [t', ins_get x i _ _ hi, if_pos (by rw [p1] at ei; omega)]
                exact a
              exact ⟨by rw [t']; exact (ins_mem i _).mpr (Or.inr hfl), by rw [fx, p1]; exact z.2⟩
            · have t' := s2 e hex c
              have hfc : f ∉ Tls T b p := fun w => c (by
                have := s3 f w
                rw [(Tsb_same hw z.1).2.2] at this
                rw [← this]; exact Tsb_mem hw e)
              have fx : Tix (Tis T b x p i) f = Tix T f := by unfold Tix; rw [s2 f hfx hfc]
              exact ⟨by rw [t']; exact z.1, by rw [fx, p1]; exact z.2⟩
        refine ⟨decide_eq_decide.mpr iff, fun z => ?_⟩
        have z' := iff.mpr (of_decide_eq_true z)
        exact Uset_sb hw' ho hxn hU z'.1 z'.2
end QD
