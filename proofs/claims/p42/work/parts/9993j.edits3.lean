section QJ
variable {mm : Nat × Nat × Nat}
variable {T T' : qqT} {G G' : qqG} {σ σ' σ1 : mS} {hl dr dr' hl' : Bool} {e k n x b N s : Nat} {h : Option Nat}
theorem Q_pt (J : J1 T G σ) (J' : J1 T' G' σ') (q : Q k mm hl dr T G σ) (p : P_pt T G σ T' G' σ') : Q (k + 1) mm hl dr T' G' σ' := by
  obtain ⟨rfl, rfl, e, x, he, hm⟩ := p
  have h30 := J.1.1.n30
  have sb : sB [5] [81] σ (up (sf σ 81 0) 5 e x) := ⟨fun f hf => by rw [up_o (by simpa using hf)]; rfl, fun f hf => by rw [up_2, sf_o (by simpa using hf)]⟩
  obtain ⟨σ2, e2, m⟩ := r_mark J.1.1 (J.1.2.1.sB sb (by decide) (by decide)) ((1 : Int32) <<< (nI e &&& 31))
  rw [hm] at e2
  cases e2
  have s2 : sB [5] [49, 81] σ σ' := (sb.wd (by simp) (by simp)).tr (m.sB.wd (by simp) (by simp))
  have h2 : ∀ y, y < Tn T' → rEq σ σ' y ∧ σ'.1 46 y = σ.1 46 y := fun y hy => ⟨⟨fun p _ => by rw [s2.1 43 (by decide)], fun v _ => by rw [s2.1 44 (by decide), s2.1 45 (by decide)]; exact ⟨rfl, rfl⟩⟩, by rw [s2.1 46 (by decide)]⟩
  have e37 := s2.1 37 (by decide)
  refine Q_edit J.1.1 J'.1.1 J.1.2.2.r40 q rfl (fun f hf => s2.1 f (by revert f; decide)) h2 (fun e he p hp => Or.inl (by rw [s2.1 55 (by decide)])) (fun f hf => s2.2 f (by revert f; decide)) (fun a ha => ?_) (fun z => ⟨z, fun a ha => ?_⟩) (fun y hy hd h48 h49 => ?_) (Or.inr (fun x _ h => h))
  · rw [Ldc_cg e37, Ldc_cg e37]; exact q.2.2.2.1.1 a ha
  · rw [Ldc_cg e37]; exact (q.2.2.2.2.2 z).1 a ha
  · obtain ⟨m1, m2⟩ := m.at hy h30 hd h49
    rw [sb.2 49 (by decide)] at m1
    rw [s2.2 48 (by decide)] at h48
    rw [b_one (by omega) (by omega)] at m2
    have hye : y ≠ e := of_decide_eq_false m2
    refine ⟨hd, h48, m1, keep_T J.1.1 h2 hy (fEq.of (fun f hf => s2.1 f (by revert f; decide)) (s2.2 50 (by decide))) (fun r hr => ?_)⟩
    refine qMs_pt (x := e) J.1.1 J.2.1.2.2.2 J.2.1.1 (fun f hf => s2.1 f (by revert f; decide)) (fun z hz => ?_) (Gse G' r) (J.1.2.2.se hr) y hy (Or.inr hye)
    rw [m.sB.1 5 (by simp), up_sn hz]; rfl
theorem Q_al (J : J1 T G σ) (J' : J1 T' G' σ') (q : Q k mm hl dr T G σ) (p : P_al T G σ T' G' σ') : Q (k + 1) mm hl dr T' G' σ' := by
  obtain ⟨rfl, rfl, σ1, sb, hm⟩ := p
  have hs := mAll J'.1.1 J'.1.2.1 hm
  subst hs
  have f1 : ∀ f, f ∉ [30, 34, 35] → (sf σ1 49 (qqM (TD T') (Tn T'))).1 f = σ.1 f := fun f hf => sb.1 f hf
  have e37 := f1 37 (by decide)
  refine Q_all J J' q rfl rfl (fun f hf => f1 f (by revert f; decide)) (fun f hf => f1 f (by revert f; decide)) (fun a ha => ?_) (fun z => ⟨z, fun a ha => ?_⟩) (fun f hf => ?_) (mAll_m J.1.1)
  · rw [Ldc_cg e37, Ldc_cg e37]; exact q.2.2.2.1.1 a ha
  · rw [Ldc_cg e37]; exact (q.2.2.2.2.2 z).1 a ha
  · rw [sf_o (fun z => by rw [z] at hf; revert hf; decide), sb.2 f (by revert f; decide), sf_o (fun z => by rw [z] at hf; revert hf; decide)]
theorem Q_sd (J : J1 T G σ) (J' : J1 T' G' σ') (q : Q k mm hl dr T G σ) (p : P_sd T G σ T' G' σ') : Q (k + 1) mm hl dr T' G' σ' := by
  obtain ⟨rfl, e, he, rfl, hm⟩ := p
  have hs := mAll J'.1.1 J'.1.2.1 hm
  subst hs
  have f1 : ∀ f, f ≠ 8 → (sf (up (sf σ 81 0) 8 e 1) 49 (qqM (TD (Tsh T e)) (Tn (Tsh T e)))).1 f = σ.1 f := fun f hf => (up_o hf : (up (sf σ 81 0) 8 e 1).1 f = (sf σ 81 0).1 f)
  have e37 := f1 37 (by decide)
  refine Q_all J J' q rfl rfl (fun f hf => f1 f (fun z => by rw [z] at hf; revert hf; decide)) (fun f hf => f1 f (fun z => by rw [z] at hf; revert hf; decide)) (fun a ha => ?_) (fun z => ⟨z, fun a ha => ?_⟩) (fun f hf => ?_) (mAll_m J'.1.1)
  · rw [Ldc_cg e37, Ldc_cg e37]; exact q.2.2.2.1.1 a ha
  · rw [Ldc_cg e37]; exact (q.2.2.2.2.2 z).1 a ha
  · rw [sf_o (fun z => by rw [z] at hf; revert hf; decide), up_2, sf_o (fun z => by rw [z] at hf; revert hf; decide)]
theorem Q_mall {L1 L2 : List Nat} (J : J1 T G σ) (J' : J1 T G' (sf σ1 49 (qqM (TD T) (Tn T)))) (q : Q k mm hl dr T G σ) (hG : Gs G' = Gs G) (sb : sB L1 L2 (sf σ 81 0) σ1) (h1 : ∀ f, f ∈ [14, 15, 16, 17, 18, 19, 20, 21, 22, 23, 24, 25, 37, 43, 55] → f ∉ L1) (h2 : ∀ f, f ∈ [51, 52, 53] → f ∉ L2) : Q (k + 1) mm hl dr T G' (sf σ1 49 (qqM (TD T) (Tn T))) := by
  have f1 : ∀ f, f ∉ L1 → (sf σ1 49 (qqM (TD T) (Tn T))).1 f = σ.1 f := fun f hf => sb.1 f hf
  have e37 := f1 37 (h1 37 (by decide))
  refine Q_all J J' q rfl hG (fun f hf => f1 f (h1 f (by revert f; decide))) (fun f hf => f1 f (h1 f (by revert f; decide))) (fun a ha => ?_) (fun z => ⟨z, fun a ha => ?_⟩) (fun f hf => ?_) (mAll_m J.1.1)
  · rw [Ldc_cg e37, Ldc_cg e37]; exact q.2.2.2.1.1 a ha
  · rw [Ldc_cg e37]; exact (q.2.2.2.2.2 z).1 a ha
  · rw [sf_o (fun z => by rw [z] at hf; revert hf; decide), sb.2 f (h2 f hf), sf_o (fun z => by rw [z] at hf; revert hf; decide)]
theorem Q_sh (J : J1 T G σ) (J' : J1 T' G' σ') (q : Q k mm hl dr T G σ) (p : P_sh T G σ T' G' σ') : Q (k + 1) mm hl dr T' G' σ' := by
  obtain ⟨rfl, h, σw, rfl, sb, rfl⟩ := p
  exact Q_mall J J' q rfl sb (by decide) (by decide)
theorem Q_ru (J : J1 T G σ) (J' : J1 T' G' σ') (q : Q k mm hl dr T G σ) (p : P_ru T G σ T' G' σ') : Q (k + 1) mm hl dr T' G' σ' := by
  obtain ⟨rfl, f, s, σw, -, -, -, rfl, sb, rfl⟩ := p
  exact Q_mall J J' q rfl sb (by decide) (by decide)
theorem mkRow27 {x val : Int32} {τ σ' : mS} (e : f_markRow_27 x τ = some (val, σ')) : σ' = τ := by
  unfold f_markRow_27 at e
  cases hd : f_declared x τ with
  | none => rw [hd] at e; cases e
  | some w => rw [hd, qqx] at e; cases e; rfl
theorem Q_rw {pp : Int32} (J : J1 T G σ) (J' : J1 T' G' σ') (q : Q k mm hl dr T G σ) (p : P_rw T G σ pp T' G' σ') (h10 : pp ≠ 10 ∧ pp ≠ 11) (h6 : hl' = false → hl = false ∧ pp ≠ 6) : Q (k + 1) mm hl' dr T' G' σ' := by
  obtain ⟨rfl, rfl, a, σ1, val, va, sb, hch, hm⟩ := p
  have h30 := J.1.1.n30
  have a70 := va.lt J.1.1 J.1.2.2
  have h40 := J.1.2.2.r40
  have dc : ∀ i, pp ≠ nI i → i < 15 → i ≠ 3 → i ≠ 4 → ∀ a', a' < 70 → Ldc σ1 i a' = Ldc σ i a' := fun i hi hi15 i3 i4 a' ha' => by
    unfold Ldc
    by_cases c : σ1.1 37 (16 * a' + i) = σ.1 37 (16 * a' + i)
    · rw [c]
    · obtain ⟨q, q1, q2, q3⟩ := hch 37 _ c
      have : q = i := by omega
      subst this
      rcases q3 with z | ⟨-, z⟩
      · exact absurd z.symm hi
      · omega
  have hE : ∀ a', a' < 70 → Ldc σ1 10 a' = false ∧ Ldc σ1 11 a' = false := fun a' ha' => by
    rw [dc 10 h10.1 (by decide) (by decide) (by decide) a' ha', dc 11 h10.2 (by decide) (by decide) (by decide) a' ha']
    exact q.2.2.2.1.1 a' ha'
  have hH : hl' = false → hl = false ∧ ∀ a', a' < 70 → Ldc σ1 6 a' = false := fun z => ⟨(h6 z).1, fun a' ha' => by
    rw [dc 6 (h6 z).2 (by decide) (by decide) (by decide) a' ha']
    exact (q.2.2.2.2.2 (h6 z).1).1 a' ha'⟩
  unfold f_markRow at hm
  by_cases c : a < 40
  · rw [if_neg (by rw [show (640 : Int32) = nI 640 from rfl, nI_leE (by decide) (by omega)]; omega)] at hm
    cases hma : f_markAll σ1 with
    | none => rw [hma] at hm; cases hm
    | some τ =>
      rw [hma, qqx] at hm
      have := mkRow27 hm
      subst this
      have hs := mAll J'.1.1 J'.1.2.1 hma
      subst hs
      have f1 : ∀ f, f ∉ [37, 38, 39, 40, 41, 42] → (sf σ1 49 (qqM (TD T') (Tn T'))).1 f = σ.1 f := fun f hf => sb.1 f hf
      refine Q_all J J' q rfl rfl (fun f hf => f1 f (by revert f; decide)) (fun f hf => f1 f (by revert f; decide)) hE hH (fun f hf => ?_) (mAll_m J.1.1)
      rw [sf_o (fun z => by rw [z] at hf; revert hf; decide), sb.2 f (by simp), sf_o (fun z => by rw [z] at hf; revert hf; decide)]
  · have va' : a - 40 < Tn T' := by unfold VR at va; omega
    rw [if_pos (by rw [show (640 : Int32) = nI 640 from rfl, nI_leE (by decide) (by omega)]; omega), show nI (16 * a) = nI (16 * a + 0) from rfl, dv16 a70 (by decide), qqx, show (40 : Int32) = nI 40 from rfl, pk_sub (by omega)] at hm
    have rt1 : RT T' σ1 := (J.1.2.1.sB (L1 := []) (L2 := [81]) (σ' := sf σ 81 0) ⟨fun _ _ => rfl, fun f hf => sf_o (by simpa using hf)⟩ (by decide) (by decide)).sB sb (by decide) (by decide)
    obtain ⟨σ2, e2, m⟩ := r_mark J.1.1 rt1 ((1 : Int32) <<< (nI (a - 40) &&& 31))
    rw [e2, qqx] at hm
    have := mkRow27 hm
    subst this
    have s2 : sB [37, 38, 39, 40, 41, 42] [49, 81] σ σ' := ⟨fun f hf => (m.sB.1 f (by simp)).trans (sb.1 f hf), fun f hf => (m.sB.2 f (fun z => hf (by simp at z; simp [z]))).trans ((sb.2 f (by simp)).trans (sf_o (fun z => hf (by simp [z]))))⟩
    have h2 : ∀ y, y < Tn T' → rEq σ σ' y ∧ σ'.1 46 y = σ.1 46 y := fun y hy => ⟨⟨fun p _ => by rw [s2.1 43 (by decide)], fun v _ => by rw [s2.1 44 (by decide), s2.1 45 (by decide)]; exact ⟨rfl, rfl⟩⟩, by rw [s2.1 46 (by decide)]⟩
    have e37 : σ'.1 37 = σ1.1 37 := m.sB.1 37 (by simp)
    refine Q_edit J.1.1 J'.1.1 J.1.2.2.r40 q rfl (fun f hf => s2.1 f (by revert f; decide)) h2 (fun e he p hp => Or.inl (by rw [s2.1 55 (by decide)])) (fun f hf => s2.2 f (by revert f; decide)) (fun a' ha' => by rw [Ldc_cg e37, Ldc_cg e37]; exact hE a' ha') (fun z => ⟨(hH z).1, fun a' ha' => by rw [Ldc_cg e37]; exact (hH z).2 a' ha'⟩) (fun y hy hd h48 h49 => ?_) (Or.inr (fun x _ h => h))
    obtain ⟨m1, m2⟩ := m.at hy h30 hd h49
    rw [sb.2 49 (by simp), sf_o (by decide)] at m1
    rw [s2.2 48 (by decide)] at h48
    rw [b_one (by omega) (by omega)] at m2
    have hye : y ≠ a - 40 := of_decide_eq_false m2
    refine ⟨hd, h48, m1, keep_T J.1.1 h2 hy ⟨⟨fun a' _ => by rw [s2.1 20 (by decide)], fun f hf => s2.1 f (by revert f; decide)⟩, fun a' ha' p hp f hf => ?_, s2.2 50 (by decide)⟩ (fun r hr => ?_)⟩
    · rw [m.sB.1 f (by simp)]
      refine Classical.byContradiction fun hne => ?_
      obtain ⟨q', q1, q2, -⟩ := hch f _ hne
      unfold rwE at ha'
      omega
    · rw [qMs_cg (σ := σ) (σ' := σ') (fun f hf => s2.1 f (by revert f; decide))]
theorem Q_ag (J : J1 T G σ) (q : Q k mm hl dr T G σ) (ag : sAg (Gs G) σ σ') (h3 : ∀ s, s < Gs G → σ'.1 20 s = σ.1 20 s ∧ σ'.1 23 s = σ.1 23 s ∧ σ'.1 24 s = σ.1 24 s ∧ σ'.1 25 s = σ.1 25 s) (hf : ∀ f, f ∈ [27, 29, 30, 34, 35, 37, 38, 39, 40, 41, 42, 43, 44, 45, 46, 55] → σ'.1 f = σ.1 f) (hg : ∀ f, f ∈ [48, 49, 50, 51, 52, 53] → σ'.2 f = σ.2 f) (d1 : σ'.1 22 30 = 1 → σ'.1 21 30 < 0) (d2 : dr' = false → σ'.1 22 30 = 0 ∧ σ'.1 21 30 < 0) : Q (k + 1) mm hl dr' T G σ' := by
  have hw := J.1.1
  have h30 := hw.n30
  have h2 : ∀ y, y < Tn T → rEq σ σ' y ∧ σ'.1 46 y = σ.1 46 y := fun y hy => ⟨⟨fun p _ => by rw [hf 43 (by decide)], fun v _ => by rw [hf 44 (by decide), hf 45 (by decide)]; exact ⟨rfl, rfl⟩⟩, by rw [hf 46 (by decide)]⟩
  have e37 := hf 37 (by decide)
  have nd : ndB T σ' = ndB T σ := by unfold ndB; rw [hg 48 (by decide), hg 49 (by decide)]
  have kp : ∀ y, y < Tn T → keepE T T G σ σ' y := fun y hy => keep_T hw h2 hy ⟨⟨fun a ha => (h3 _ (J.1.2.2.se ha)).1, fun f hx => hf f (by revert f; decide)⟩, fun a _ p _ f hx => by rw [hf f (by revert f; decide)], hg 50 (by decide)⟩ (fun r hr => by rw [sAg_qMs ag J.2.1.1 (J.1.2.2.se hr)])
  obtain ⟨⟨q1, q2, q3⟩, q4, q5, ⟨q6, q7⟩, ⟨a, b, c, q8, q9, q10, q11, q12, q13⟩, q14⟩ := q
  refine ⟨⟨fun s hs => ag.fq J.2.1.2.2.2 J.2.1.1 (fun s hs => (h3 s hs).2) hs (q1 s hs), d1, d2⟩, fun e he hd h48 h49 => ?_, fun hz e he hd => ?_, ⟨fun a ha => by rw [Ldc_cg e37, Ldc_cg e37]; exact q6 a ha, fun e he p hp => by rw [hf 55 (by decide)]; exact q7 e he p hp⟩, ⟨a, b, c, by rw [hg 51 (by decide)]; exact q8, by rw [hg 52 (by decide)]; exact q9, by rw [hg 53 (by decide)]; exact q10, by omega, by omega, q13⟩, fun z => ⟨fun a ha => by rw [Ldc_cg e37]; exact (q14 z).1 a ha, fun e he => by rw [hf 43 (by decide)]; exact (q14 z).2 e he⟩⟩
  · rw [hg 48 (by decide)] at h48
    rw [hg 49 (by decide)] at h49
    exact cons_keep J.1.2.2.r40 (kp e he) (h2 e he).1 (fun y hy => (h2 y (Tsp_cases hw hy).2.1).1) (fun _ => by rw [hf 43 (by decide)]) (q4 e he hd h48 h49)
  · rw [nd] at hz
    refine size_keep hw hw he he J.1.2.2.r40 (fun x => Iff.rfl) (fun x hx => ?_) (h2 e he).1 (h2 e he).2 (by rw [hf 43 (by decide)]) (q5 hz e he hd)
    have := kp x (Tsp_cases hw hx).1
    exact ⟨this.1, this.2.1⟩
end QJ
