section QL
variable {mm : Nat × Nat × Nat}
variable {T T' : qqT} {G G' : qqG} {σ σ' σ1 : mS} {hl dr dr' hl' : Bool} {e k n x b N s : Nat} {h : Option Nat}
theorem Tslot_pair (hw : Tw T) (hw' : Tw T') (hn : Tn T' = Tn T) {q : Nat} (ht : Tt T' q = Tt T q) (hz : ∀ z, z < Tn T → TH T z = some q → Tk T' z = Tk T z ∧ Ta T' z = Ta T z ∧ Tni T' z = Tni T z) (a : Int32) : Tslot T' q a = Tslot T q a := by
  obtain ⟨μ, h1⟩ := Tni_m hw
  have key : ∀ m z, μ z < m → z < Tn T → TH T z = some q → Tsl T' a z = Tsl T a z := by
    intro m
    induction m with
    | zero => intro z hm; omega
    | succ m ih =>
      intro z hm hzn hq
      obtain ⟨k1, k2, k3⟩ := hz z hzn hq
      rw [Tsl_eq hw a hzn, Tsl_eq hw' a (by omega), k1, k2, k3]
      by_cases c : Tk T z = true ∧ Ta T z = a
      · rw [if_pos c, if_pos c]
      · rw [if_neg c, if_neg c]
        cases hf : Tni T z with
        | none => rfl
        | some f =>
          have := h1 z f hzn hf
          exact ih f (by omega) this.1 (Tni_TH hw hzn hq hf)
  unfold Tslot
  rw [ht]
  cases hl : Tt T q with
  | nil => rfl
  | cons e es =>
    have hm : e ∈ Tt T q := by rw [hl]; exact List.mem_cons_self
    exact key (μ e + 1) e (by omega) (hw.tlt hm).1 (TH_h hw (hw.t hm))
theorem TB_no (hw : Tw T) {x y z : Nat} (hy : y < Tn T) (hs : Tsp T y = some z) (h : TB T x y = false) : z ≠ x ∧ TB T x z = false := by
  rw [TB_eq hw hy, hs] at h
  have h : ((z == x) || TB T x z) = false := h
  rw [Bool.or_eq_false_iff] at h
  exact ⟨by simpa using h.1, h.2⟩
theorem Tsp_eq9 (hw : Tw T) (hw' : Tw T') {y : Nat} (hp : Tp T' y = Tp T y) (hh : Th T' y = Th T y) (hs : ∀ p, Tp T y = some p → Ts T' p = Ts T p ∧ (Ts T p = true → Ta T' y = Ta T y ∧ Tslot T' p (Ta T y) = Tslot T p (Ta T y))) : Tsp T' y = Tsp T y := by
  cases h : Th T y with
  | some q => rw [Tsp_h h, Tsp_h (hh.trans h)]
  | none =>
    cases hp2 : Tp T y with
    | none => rw [Tsp_n hp2 h, Tsp_n (hp.trans hp2) (hh.trans h)]
    | some p =>
      obtain ⟨s1, s2⟩ := hs p hp2
      rw [Tsp_p hw hp2, Tsp_p hw' (hp.trans hp2), s1]
      by_cases c : Ts T p = true
      · rw [if_pos c, if_pos c, (s2 c).1, (s2 c).2]
      · rw [if_neg c, if_neg c]
def aP (T : qqT) (e : Nat) (x : Int32) (y : Nat) : Prop := y < Tn T ∧ (∀ q, Tp T e = some q → Ts T q = true → TB (Tat T e x) q y = false) ∧ ∀ h, TH T e = some h → TB (Tat T e x) h y = false
theorem aP_sp (hw : Tw T) {x : Int32} {y : Nat} (hp : aP T e x y) : Tsp (Tat T e x) y = Tsp T y ∧ ∀ z, Tsp T y = some z → aP T e x z := by
  have hw' : Tw (Tat T e x) := Tat_w hw
  obtain ⟨hy, p1, p2⟩ := hp
  have key : Tsp (Tat T e x) y = Tsp T y := by
    refine Tsp_eq9 hw hw' rfl rfl (fun p hpp => ⟨rfl, fun hs => ⟨?_, ?_⟩⟩)
    · show (if y = e then x else Ta T y) = Ta T y
      rw [if_neg (fun z => ?_)]
      subst z
      have := TB_up hw' y hy p (Tup_p hpp)
      rw [p1 p hpp hs] at this; cases this
    · refine Tslot_pair hw hw' rfl rfl (fun z hz hq => ⟨rfl, ?_, rfl⟩) _
      show (if z = e then x else Ta T z) = Ta T z
      rw [if_neg (fun w => ?_)]
      subst w
      have := TB_up hw' y hy p (Tup_p hpp)
      rw [p2 p hq] at this; cases this
  refine ⟨key, fun z hz => ⟨(Tsp_cases hw hz).2.1, fun q hq hs => ?_, fun h hh => ?_⟩⟩
  · exact (TB_no hw' hy (key.trans hz) (p1 q hq hs)).2
  · exact (TB_no hw' hy (key.trans hz) (p2 h hh)).2
theorem RT_at (hw : Tw T) (hr : RT T σ) (he : e < Tn T) (x : Int32) : RT (Tat T e x) (up σ 4 e x) := by
  have h30 := hw.n30
  obtain ⟨a1, a2, a3, a4, a5, a6, a7, a8, a9, a10⟩ := hr
  refine ⟨a1, fun z hz => by rw [up_o (by decide)]; exact a2 z hz, fun z hz => by rw [up_o (by decide)]; exact a3 z hz, fun z hz => by rw [up_o (by decide)]; exact a4 z hz, fun z hz => by rw [up_o (by decide)]; exact a5 z hz, fun z hz => by rw [up_o (by decide)]; exact a6 z hz, fun z k w hz => by rw [up_o (by decide)]; exact a7 z k w hz, fun z k w hz => by rw [up_o (by decide)]; exact a8 z k w hz, fun z hz => by rw [up_o (by decide)]; exact a9 z hz, fun z hz => ?_⟩
  show (up σ 4 e x).1 4 z = if z = e then x else Ta T z
  by_cases c : z = e
  · rw [c, up_ss, if_pos rfl]
  · rw [up_sn c, if_neg c]; exact a10 z hz
theorem qRw_at {x : Int32} {M : Nat → Int32} : ∀ k y, qRw (Tat T e x) σ M h s k y = qRw T σ M h s k y := by
  intro k
  induction k with
  | zero => intro y; rfl
  | succ k ih =>
    intro y
    show (qCp T σ M h s (k + 1) y && qAny (fun f => qRw (Tat T e x) σ M h s k f && Trl T (cO σ s (k + 1)) y f) (Tn T)) = (qCp T σ M h s (k + 1) y && qAny (fun f => qRw T σ M h s k f && Trl T (cO σ s (k + 1)) y f) (Tn T))
    rw [qAny_cg (g := fun f => qRw T σ M h s k f && Trl T (cO σ s (k + 1)) y f) (fun f _ => by rw [ih f])]
theorem qSv_at {x : Int32} {M : Nat → Int32} (y : Nat) : qSv (Tat T e x) σ M h s y = qSv T σ M h s y := by
  unfold qSv
  rw [show qRw (Tat T e x) σ M h s (nC σ s - 1) = qRw T σ M h s (nC σ s - 1) from funext (qRw_at _)]
  rfl
theorem qSet_at {x : Int32} : ∀ n, qSet (Tat T e x) σ h n = qSet T σ h n := by
  intro n
  induction n with
  | zero => rfl
  | succ n ih =>
    funext s
    show (if s = n then qqM (qSv (Tat T e x) σ (qSet (Tat T e x) σ h n) h n) (Tn T) else qSet (Tat T e x) σ h n s) = (if s = n then qqM (qSv T σ (qSet T σ h n) h n) (Tn T) else qSet T σ h n s)
    rw [ih, show qSv (Tat T e x) σ (qSet T σ h n) h n = qSv T σ (qSet T σ h n) h n from funext (fun y => qSv_at y)]
theorem qMs_at {x : Int32} : qMs (Tat T e x) σ h s = qMs T σ h s := by unfold qMs; rw [qSet_at]
theorem Q_at (J : J1 T G σ) (J' : J1 T' G' σ') (q : Q k mm hl dr T G σ) (p : P_at T G σ T' G' σ') : Q (k + 1) mm hl dr T' G' σ' := by
  obtain ⟨rfl, e, x, he, ⟨rfl, hm⟩ | ⟨rfl, σ4, hm, hm2⟩⟩ := p
  · have sb : sB [3] [81] σ (up (sf σ 81 0) 3 e x) := ⟨fun f hf => by rw [up_o (by simpa using hf)]; rfl, fun f hf => by rw [up_2, sf_o (by simpa using hf)]⟩
    obtain ⟨σ2, e2, m⟩ := r_markTest J.1.1 (J.1.2.1.sB sb (by decide) (by decide)) (J.1.2.2.ru.sB sb (by decide) (by decide)) he (b := 12) (by omega)
    rw [hm] at e2
    cases e2
    rw [sb.1 23 (by decide), sb.1 24 (by decide)] at m
    exact Q_feat J J' q (b := 12) (by omega) he ⟨by omega, fun f hf => sb.1 f (by revert f; decide), fun y hy => ⟨by rw [sb.1 1 (by decide)], by rw [up_sn hy]; rfl, by rw [sb.1 4 (by decide)]⟩, fun i hi hne => by rw [sb.1 1 (by decide)], fun z => absurd rfl z, fun _ => by rw [sb.1 4 (by decide)]⟩ (sb.wd (by simp) (by simp)) m
  · have hw := J.1.1
    have hw' : Tw (Tat T e x) := J'.1.1
    have h30 := hw.n30
    have sb : sB [4] [81] σ (up (sf σ 81 0) 4 e x) := ⟨fun f hf => by rw [up_o (by simpa using hf)]; rfl, fun f hf => by rw [up_2, sf_o (by simpa using hf)]⟩
    have rt0 : RT T (sf σ 81 0) := J.1.2.1.sB (L1 := []) (L2 := [81]) ⟨fun _ _ => rfl, fun f hf => sf_o (by simpa using hf)⟩ (by decide) (by decide)
    have rt1 := RT_at hw rt0 he x
    have tc : tcO (Tat T e x) (TH T e) (Tco T e) := tcO_of hw
    obtain ⟨σ2, e2, m1⟩ := r_markHosts hw' rt1 (p := Tp T e) (t := TH T e) (tc := Tco T e) (fun y hy => (hw.p hy).2.1) tc
    rw [hm] at e2
    cases e2
    obtain ⟨σ3, e3, m2⟩ := r_markTest hw' (m1.rt rt1) ((J.1.2.2.ru.sB sb (by decide) (by decide)).sB m1.sB (by decide) (by decide)) (e := e) he (b := 13) (by omega)
    rw [hm2] at e3
    cases e3
    rw [m1.sB.1 23 (by simp), m1.sB.1 24 (by simp), sb.1 23 (by decide), sb.1 24 (by decide)] at m2
    have s2 : sB [4] [49, 81] σ σ' := (sb.wd (by simp) (by simp)).tr ((m1.sB.wd (by simp) (by simp)).tr (m2.sB.wd (by simp) (by simp)))
    have h2 : ∀ y, y < Tn T → rEq σ σ' y ∧ σ'.1 46 y = σ.1 46 y := fun y hy => ⟨⟨fun p _ => by rw [s2.1 43 (by decide)], fun v _ => by rw [s2.1 44 (by decide), s2.1 45 (by decide)]; exact ⟨rfl, rfl⟩⟩, by rw [s2.1 46 (by decide)]⟩
    have e37 := s2.1 37 (by decide)
    have bc : bCh σ (up (sf σ 81 0) 4 e x) e 13 := ⟨by omega, fun f hf => sb.1 f (by revert f; decide), fun y hy => ⟨by rw [sb.1 1 (by decide)], by rw [sb.1 3 (by decide)], by rw [up_sn hy]; rfl⟩, fun i hi hne => by rw [sb.1 1 (by decide)], fun _ => by rw [sb.1 3 (by decide)], fun z => absurd rfl z⟩
    refine Q_edit J.1.1 J'.1.1 J.1.2.2.r40 q rfl (fun f hf => s2.1 f (by revert f; decide)) h2 (fun e he p hp => Or.inl (by rw [s2.1 55 (by decide)])) (fun f hf => s2.2 f (by revert f; decide)) (fun a ha => ?_) (fun z => ⟨z, fun a ha => ?_⟩) (fun y hy hd h48 h49 => ?_) (Or.inr (fun x _ h => h))
    · rw [Ldc_cg e37, Ldc_cg e37]; exact q.2.2.2.1.1 a ha
    · rw [Ldc_cg e37]; exact (q.2.2.2.2.2 z).1 a ha
    · have hd' : TD T y = true := hd
      obtain ⟨a1, a2⟩ := m2.at (T := Tat T e x) hy h30 hd h49
      obtain ⟨a3, a4⟩ := m1.at (T := Tat T e x) hy h30 hd a1
      rw [sb.2 49 (by decide)] at a3
      rw [s2.2 48 (by decide)] at h48
      unfold TMh at a4
      rw [Bool.or_eq_false_iff] at a4
      have ap : aP T e x y := by
        refine ⟨hy, fun q hq hs => ?_, fun z hz => ?_⟩
        · have := a4.1
          rw [hq] at this
          have this : (Ts T q && TB (Tat T e x) q y) = false := this
          rw [hs, Bool.true_and] at this
          exact this
        · have := a4.2
          rw [hz] at this
          exact this
      have hf : fEq G' σ σ' y := fEq.of (fun f hf => s2.1 f (by revert f; decide)) (s2.2 50 (by decide))
      have bits : ∀ r, r < Gr G' → bt (qMs (Tat T e x) σ' (Gsh G' (Gsf G' r)) (Gse G' r)) y = bt (qMs T σ (Gsh G' (Gsf G' r)) (Gse G' r)) y := fun r hr => by
        rw [qMs_at, qMs_cg (σ := up (sf σ 81 0) 4 e x) (σ' := σ') (fun f _ => (m2.sB.1 f (by simp)).trans (m1.sB.1 f (by simp)))]
        exact bit9 hw J q (by decide) he bc hy hd' a2 r hr
      refine ⟨hd', h48, a3, hf, ⟨fun r hr => ?_, fun r hr _ => rfl, rfl⟩, (aP_sp hw ap).1, ?_⟩
      · unfold apB
        rw [hS_74, hS_74, bits r hr]
        have : Lst (Tat T e x) G' (hS (Tat T e x) G' σ') r = Lst T G' (hS T G' σ) r := by unfold Lst; rw [hS_o, hS_o, s2.1 30 (by decide)]; rfl
        rw [this]
      · have : hsz (Tat T e x) σ' 0 y = hsz (Tat T e x) σ 0 y := hsz_rows hw' h2 hy
        rw [this]
        unfold hsz
        rw [Tho_keep hw hw' rfl (P := aP T e x) (fun z hz hp => aP_sp hw hp) y hy ap]
end QL
