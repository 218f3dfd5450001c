section RDB
variable {T : qqT} {G : qqG} {L : qqL} {A : kA} {ex : Nat → Nat → Prop} {K K' : kS} {S : cS} {σ σ' : mS} {v v' : Nat} {PI PR : Nat → Nat → Nat → Prop}
theorem J0.kf (j : J0 T G L ex K σ v) (b : kB PI PR K K') (h1 : ∀ k i j, PI k i j → ¬ dTI k i j ∧ ¬ dCI k i j ∧ ¬ dNI k i j ∧ ¬ (6 ≤ k ∧ k ≤ 10) ∧ ¬ (k = 49 ∧ i = 0 ∧ 10 ≤ j ∧ j ≤ 13) ∧ ¬ (17 ≤ k ∧ k ≤ 33)) (h2 : ∀ k i j, PR k i j → ¬ dTR k i j ∧ ¬ dCR k i j ∧ ¬ dNR k i j ∧ ¬ (17 ≤ k ∧ k ≤ 33) ∧ ¬ (k = 52 ∧ j = 3)) (m : KMt T G ex K' σ v') : J0 T G L ex K' σ v' := by
  obtain ⟨t, ca, n, va, mk, ⟨-, s26⟩, d, fr⟩ := j
  exact ⟨t.kp b (fun k i j z => (h1 k i j z).1) (fun k i j z => (h2 k i j z).1), ca.kp b (fun k i j z => (h1 k i j z).2.1) (fun k i j z => (h2 k i j z).2.1), n.kp b (fun k i j z => (h1 k i j z).2.2.1) (fun k i j z => (h2 k i j z).2.2.1), va.kp b (fun k i j z => (h1 k i j z).2.2.2.1), mk.kp b (fun k i j z => (h1 k i j z).2.2.2.2.1), ⟨m, s26⟩, d.kp b (fun k i j z => (h1 k i j z).2.2.2.2.2) (fun k i j z => ⟨(h2 k i j z).2.2.2.1, (h2 k i j z).2.2.2.2⟩), fr⟩
theorem PRI_ok : ∀ k i j, PRI k i j → ¬ dTI k i j ∧ ¬ dCI k i j ∧ ¬ dNI k i j ∧ ¬ (6 ≤ k ∧ k ≤ 10) ∧ ¬ (k = 49 ∧ i = 0 ∧ 10 ≤ j ∧ j ≤ 13) ∧ ¬ (17 ≤ k ∧ k ≤ 33) := by
  intro k i j z
  unfold PRI SOI at z
  unfold dTI dCI dNI
  omega
theorem kIn.kp {A : kA} (h : kIn A ex K) (b : kB PI PR K K') (h1 : ∀ i j, ¬ PI 65 i j) : kIn A ex K' := h.keep b (fun q => h1 0 q)
def scM : List Nat := [71, 72, 76, 79]
theorem hits_both (hw : Tw T) (hA : KA A ex K S) (hin : kIn A ex K) (j : J0 T G L ex K σ v) (hv : v < 2 ^ 31) : ∃ S' K' σ', f_X1_prepare (A 58 0) S = some S' ∧ (f_ordered σ).bind (fun v1 => f_hits v1) = some σ' ∧ KA A ex K' S' ∧ kIn A ex K' ∧ J0 T G L ex K' σ' v ∧ KX T G A ex K' σ' ∧ RS T G σ' ∧ rowS 75 76 σ' (Tord T) ∧ hitS T G σ' ∧ sB scL scM σ σ' ∧ kB PRI F3 K K' := by
  obtain ⟨σ1, e1, b1, o1, p1⟩ := r_ordered hw j.1.2.2.2
  have rt1 : RT T σ1 := j.1.2.2.2.sB b1 (by decide) (by decide)
  have j1 : J0 T G L ex K σ1 v := j.scR (b1.wd (by decide) (by decide))
  obtain ⟨σ2, e2, b2', h2⟩ := r_hits hw rt1 j1.2.1.1 (fun s hs => (j1.2.2.2.2.2.1.1.1 s hs).2.2.2) j1.2.2.2.2.2.1.2
  have b12 : sB scL scM σ σ2 := (b1.wd (by decide) (by decide)).tr (b2'.wd (by decide) (by decide))
  obtain ⟨S3, K3, e3, h3, m3, b3, p3⟩ := c_prepare hw j.1.1 j.1.2.2.1 j.2.2.2.2.2.1.1 hv j.2.1.1 j.2.1.2.1 hA
  have j3 : J0 T G L ex K3 σ v := j.kf b3 PRI_ok (fun _ _ _ z => z.elim) m3
  have j4 : J0 T G L ex K3 σ2 v := j3.scR (b12.wd (fun _ h => h) (fun f hf => by revert f; decide))
  have in3 : kIn A ex K3 := hin.kp b3 (fun i j => by unfold PRI SOI; omega)
  have kpr : KPr T G K3 σ2 := KPr.of (σ := σ) hw h2 (fun f hf => b12.1 f (by revert f; decide)) p3
  have rs : RS T G σ2 := ⟨j4.1.2.2.2, j4.2.1.1, fun e he => by rw [b2'.1 77 (by decide)]; exact p1 e he⟩
  refine ⟨S3, K3, σ2, e3, by rw [e1]; exact e2, h3, in3, j4, ⟨⟨j4.2.1.1, j4.1.1.1, j4.1.1.2.1, j4.1.1.2.2.1, j4.2.1.2.1, kpr, j4.2.1.2.2.1⟩, j4.1.2.1, in3, j4.2.1.2.2.2.1⟩, rs, o1.sB b2' (by decide) (by decide), h2, b12, b3⟩
theorem FYI_ok : ∀ k i j, FYI k i j → ¬ dTI k i j ∧ ¬ dCI k i j ∧ ¬ dNI k i j ∧ ¬ (17 ≤ k ∧ k ≤ 33) := by
  intro k i j z
  unfold FYI FXI at z
  unfold dTI dCI dNI
  omega
theorem FXR_ok : ∀ k i j, FXR k i j → ¬ dTR k i j ∧ ¬ dCR k i j ∧ ¬ dNR k i j ∧ ¬ (17 ≤ k ∧ k ≤ 33) ∧ ¬ (k = 52 ∧ j = 3) := by
  intro k i j z
  unfold FXR at z
  unfold dTR dCR dNR
  omega
theorem flush_both (hw : Tw T) (hA : KA A ex K S) (hin : kIn A ex K) (j : J0 T G L ex K σ v) (hv : v < 2 ^ 31) : ∃ S1 S' K' σ', f_X1_prepare (A 58 0) S = some S1 ∧ f_X11_flush (A 49 0) S1 = some S' ∧ rc S1 (some (A 49 0)) 11 = some (A 49 0) ∧ f_flush σ = some σ' ∧ KA A ex K' S' ∧ kIn A ex K' ∧ J0 T G L ex K' σ' v ∧ (K'.1 49 0 10 = 0 ∧ σ'.2 49 = 0) ∧ (∀ e, e < Tn T → TD T e = true → bt (σ'.2 48) e = true) ∧ (∀ k, k < L.1 → σ'.1 69 k = b2 (bt (K'.1 6 (L.2 k).1 4) (L.2 k).2.1)) ∧ ∀ f, f ∈ [54, 81] → σ'.2 f = σ.2 f := by
  obtain ⟨S1, K1, σ1, e1, e2, h1, in1, j1, x1, rs1, row1, -, b1, bk1⟩ := hits_both hw hA hin j hv
  obtain ⟨t, ca, n, va, mk, ⟨m, s26⟩, d, fr⟩ := id j1
  obtain ⟨o9, ho9, hoe⟩ := ca.2.2.2.2.2.2.1
  have hh9 := ca.2.2.2.2.2.2.2
  have hbig : ∀ i, 16 ≤ i → i < 32 → bt (gAl G σ1) i = false := fun i h16 h32 => Bool.eq_false_iff.mpr (fun z => by
    obtain ⟨r, hr, hb⟩ := (orF_bt _ i _).mp z
    have := (ca.2.2.2.2.1 (Gse G r) (ca.1.e hr).2).2.2.2 i h16 h32
    rw [this] at hb; cases hb)
  have O : FO T G L A ex o9 (bt (gAl G σ1) 15) K1 σ1 := ⟨⟨x1, t.1.2.2.2, n.2.1, t.2.2.1⟩, ⟨rs1, n.1, n.2.2.1, n.2.2.2.2.1, row1⟩, ⟨n.2.2.2.1, ho9, hh9⟩, va.1, va.2.1, mk.2.1, va.2.2.1, va.2.2.2, ⟨mk.2.2.1, mk.2.2.2.1, mk.2.2.2.2⟩⟩
  obtain ⟨σ2, S2, K2, f1, f2, h2, O2, z2, all2, lx2, sb2, kb2, ry2⟩ := F_flush hw h1 O (o8 := bt (gAl G σ1) 14) (by
    cases hc : bt (gAl G σ1) 15 with
    | true => rw [Bool.not_true, Bool.and_false, Bool.and_false]
    | false => rw [hoe hc]) (fun τ ht h36 => by
      have hu : RU τ (Gr G) (Gse G) := by
        have := ca.1.ru
        unfold RU at this ⊢
        rw [ht 33 (by decide), h36]
        exact this
      unfold rFl
      rw [r_flags hu, show (fun r => τ.1 25 (Gse G r)) = fun r => σ1.1 25 (Gse G r) by rw [ht 25 (by decide)]]
      exact congrArg some (fl2_of hbig))
  obtain ⟨⟨k1, k2, k3, k4⟩, ⟨k5, k6, k7, k8, k9⟩, ⟨k10, k11, k12⟩, k13, k14, k15, k16, k17, ⟨k18, k19, k20⟩⟩ := O2
  have g1 : ∀ f, f ∉ FSL → σ2.1 f = σ1.1 f := sb2.1
  have g2 : ∀ f, f ∉ [48, 49, 51, 52, 53, 79] → σ2.2 f = σ1.2 f := sb2.2
  have mk9 : kB FYI FXR K1 K2 := kb2
  refine ⟨S1, S2, K2, σ2, e1, f2, t.1.2.1.r11 h1, ?_, h2, k1.2.2.1, ⟨(t.kp kb2 (fun k i j z => (FYI_ok k i j z).1) (fun k i j z => (FXR_ok k i j z).1)).cg (fun f hf => g1 f (by revert f; decide)) (g2 13 (by decide)), (ca.kp kb2 (fun k i j z => (FYI_ok k i j z).2.1) (fun k i j z => (FXR_ok k i j z).2.1)).cg (fun f hf => g1 f (by revert f; decide)) (fun f hf => g2 f (by revert f; decide)), ⟨k6, k3, k7, k10, k8, n.2.2.2.2.2.kp kb2 (fun k i j z => (FYI_ok k i j z).2.2.1) (fun k i j z => (FXR_ok k i j z).2.2.1)⟩, ⟨k13, k14, k16, k17⟩, ⟨fun e _ hb => (by rw [z2.2, b_0] at hb; cases hb), k15, k18, k19, k20⟩, ⟨(m.keep kb2 (fun k i j z => by unfold FYI FXI at z; omega) (fun k i j z => by unfold FXR at z; omega)).cg (fun f hf => g1 f (by revert f; decide)), by rw [g2 26 (by decide)]; exact s26⟩, (d.kp kb2 (fun k i j z => (FYI_ok k i j z).2.2.2) (fun k i j z => ⟨(FXR_ok k i j z).2.2.2.1, (FXR_ok k i j z).2.2.2.2⟩)).cg (fun f hf => g1 f (by revert f; decide)), fr.cg (fun f hf => g1 f (by revert f; decide)) (fun e he h3 => ry2 e h3 he)⟩, z2, all2, lx2, fun f hf => (g2 f (by revert f; decide)).trans (b1.2 f (by revert f; decide))⟩
  unfold f_flush
  have e2' : (f_ordered σ).bind (fun v1 => (f_hits v1).bind (fun v2 => (f_docMask v2).bind (fun v3 => f_flush_23 4000 v3 0 0 0 0 v2))) = some σ2 := by
    cases ho : f_ordered σ with
    | none => rw [ho] at e2; cases e2
    | some τ =>
      rw [ho, qqx] at e2
      rw [qqx, e2, qqx, r_docMask hw rs1.1, qqx]
      exact f1
  exact e2'
theorem tell_both (hw : Tw T) (hL0 : L.1 = 0) {k2 : Int32 → mS → Option mS} {x1 : Int32} : ∀ (d k m1 m2 v : Nat) (K : kS) (S : cS) (σ : mS), k + d = L.1 → d < m1 → d < m2 → KA A ex K S → kIn A ex K → J0 T G L ex K σ v → v + d < 2 ^ 31 → (∀ i, k ≤ i → i < L.1 → σ.1 69 i = b2 (bt (K.1 6 (L.2 i).1 4) (L.2 i).2.1)) → ∃ S' K' σ' v', f_X11_tellListeners_2 (A 49 0) m2 (nI k) S = some S' ∧ f_read_20 k2 m1 x1 (nI k) σ = k2 (x1 + 1) σ' ∧ KA A ex K' S' ∧ kIn A ex K' ∧ J0 T G L ex K' σ' v' ∧ v ≤ v' ∧ v' ≤ v + d ∧ ∀ f, f ≠ 49 → σ'.2 f = σ.2 f := by
  have h30 := hw.n30
  intro d
  induction d with
  | zero =>
    intro k m1 m2 v K S σ hk hm1 hm2 hA hin j hv hlx
    obtain ⟨m1, rfl⟩ : ∃ m', m1 = m' + 1 := ⟨m1 - 1, by omega⟩
    obtain ⟨m2, rfl⟩ : ∃ m', m2 = m' + 1 := ⟨m2 - 1, by omega⟩
    have hk : k = L.1 := by omega
    subst hk
    have n := j.2.2.1
    refine ⟨S, K, σ, v, ?_, ?_, hA, hin, j, Nat.le_refl _, Nat.le_refl _, fun _ _ => rfl⟩
    · rw [f_X11_tellListeners_2, j.1.1.2.1.I49 hA, n.2.2.2.2.2.1, qqx, if_pos (Int32.le_refl _)]; rfl
    · rw [f_read_20, n.2.2.2.2.1.1, if_pos (Int32.le_refl _)]
  | succ d ih =>
    intro k m1 m2 v K S σ hk hm1 hm2 hA hin j hv hlx
    omega
def ndB (T : qqT) (σ : mS) : Bool := qAny (fun e => TD T e && (bt (σ.2 49) e || !bt (σ.2 48) e)) (Tn T)
theorem r_needs (hw : Tw T) (hr : RT T σ) : f_needs σ = some (b2 (ndB T σ)) := by
  have h30 := hw.n30
  unfold f_needs f_needs_24
  rw [r_docMask hw hr, qqx]
  have hz : (qqM (TD T) (Tn T) &&& (σ.2 49 ||| (σ.2 48 ^^^ (-1))) = 0) ↔ ndB T σ = false := by
    have hbit : ∀ e, e < 32 → bt (qqM (TD T) (Tn T) &&& (σ.2 49 ||| (σ.2 48 ^^^ (-1)))) e = (decide (e < Tn T) && (TD T e && (bt (σ.2 49) e || !bt (σ.2 48) e))) := fun e he => by
      rw [b_and, b_or, bt_not he, qqM_bt _ _ (by omega) e he, Bool.and_assoc]
    refine ⟨fun z => Bool.eq_false_iff.mpr (fun w => ?_), fun z => ?_⟩
    · obtain ⟨e, he, hb⟩ := qAny_is.mp w
      have := hbit e (by omega)
      rw [z, b_0, decide_eq_true he, hb] at this
      cases this
    · apply b_ext
      intro e he
      rw [hbit e he, b_0]
      by_cases c : e < Tn T
      · rw [decide_eq_true c, Bool.true_and]
        refine Bool.eq_false_iff.mpr (fun w => ?_)
        rw [show ndB T σ = true from qAny_is.mpr ⟨e, c, w⟩] at z; cases z
      · rw [decide_eq_false c]; rfl
  cases hn : ndB T σ with
  | false => rw [if_pos (hz.mpr hn)]; rfl
  | true => rw [if_neg (fun z => by rw [hz.mp z] at hn; cases hn)]; rfl
theorem c_due (hw : Tw T) (hA : KA A ex K S) (j : J0 T G L ex K σ v) : (K.1 49 0 10 &&& K.1 50 0 2 = 0) ↔ qAny (fun e => TD T e && bt (σ.2 49) e) (Tn T) = false := by
  have h30 := hw.n30
  have hbit : ∀ e, e < 32 → bt (K.1 49 0 10 &&& K.1 50 0 2) e = (decide (e < Tn T) && (TD T e && bt (σ.2 49) e)) := fun e he => by
    rw [b_and, j.1.1.2.2.1.2.1, qqM_bt _ _ (by omega) e he]
    by_cases c : e < Tn T
    · rw [decide_eq_true c, Bool.true_and, Bool.true_and]
      cases hd : TD T e with
      | true => rw [j.2.2.2.2.1.2.1 e c hd, Bool.and_true, Bool.true_and]
      | false => rw [Bool.and_false]; rfl
    · rw [decide_eq_false c, Bool.false_and, Bool.and_false]; rfl
  refine ⟨fun z => Bool.eq_false_iff.mpr (fun w => ?_), fun z => ?_⟩
  · obtain ⟨e, he, hb⟩ := qAny_is.mp w
    have := hbit e (by omega)
    rw [z, b_0, decide_eq_true he, hb] at this
    cases this
  · apply b_ext
    intro e he
    rw [hbit e he, b_0]
    by_cases c : e < Tn T
    · rw [decide_eq_true c, Bool.true_and]
      refine Bool.eq_false_iff.mpr (fun w => ?_)
      rw [qAny_is.mpr ⟨e, c, w⟩] at z; cases z
    · rw [decide_eq_false c]; rfl
theorem c_lacks (hw : Tw T) (hA : KA A ex K S) (j : J0 T G L ex K σ v) : f_X11_lacksValues (A 49 0) S = some (b2 (qAny (fun e => TD T e && !bt (σ.2 48) e) (Tn T))) := by
  have h30 := hw.n30
  have q := j.1.1
  have key : ∀ (R D : List Nat) (m : Nat), Tord T = D ++ R → R.length < m → (∀ e ∈ D, bt (σ.2 48) e = true) → f_X11_lacksValues_8 (A 49 0) m (el A R.head?) S = some (b2 (qAny (fun e => TD T e && !bt (σ.2 48) e) (Tn T))) := by
    intro R
    induction R with
    | nil =>
      intro D m ho hm hd
      obtain ⟨m, rfl⟩ : ∃ m', m = m' + 1 := ⟨m - 1, by omega⟩
      rw [List.append_nil] at ho
      rw [f_X11_lacksValues_8, if_pos (show el A ([] : List Nat).head? = none from rfl)]
      have : qAny (fun e => TD T e && !bt (σ.2 48) e) (Tn T) = false := Bool.eq_false_iff.mpr (fun w => by
        obtain ⟨e, he, hb⟩ := qAny_is.mp w
        rw [Bool.and_eq_true] at hb
        have := hd e (by rw [← ho]; exact Tord_mem hw e he hb.1)
        rw [this] at hb
        exact absurd hb.2 (by decide))
      rw [this]; rfl
    | cons e R ih =>
      intro D m ho hm hd
      obtain ⟨m, rfl⟩ : ∃ m', m = m' + 1 := ⟨m - 1, by omega⟩
      have hl : (e :: R).length = R.length + 1 := rfl
      obtain ⟨he, hD⟩ := Tord_is hw (show e ∈ Tord T by rw [ho]; exact List.mem_append_right _ List.mem_cons_self)
      show f_X11_lacksValues_8 (A 49 0) (m + 1) (some (A 0 e)) S = _
      rw [f_X11_lacksValues_8, if_neg (fun z => by cases z), q.1.g19 hA he, qqx, hA.I 6 9 (q.1.E he (by decide)) rfl, qqx, (j.2.2.2.1.1 e he).2.2.2.2.2, b2_i0]
      cases hb : bt (σ.2 48) e with
      | false =>
        rw [if_neg (by decide)]
        have : qAny (fun e => TD T e && !bt (σ.2 48) e) (Tn T) = true := qAny_is.mpr ⟨e, he, by rw [hD, hb]; rfl⟩
        rw [this]; rfl
      | true =>
        rw [if_pos rfl, g17 q.1 hA he (chS_ro (q.2.2.1.at hw ho)), qqx]
        exact ih (D ++ [e]) m (by rw [ho]; simp) (by omega) (fun y hy => by
          rcases List.mem_append.mp hy with z | z
          · exact hd y z
          · rw [List.mem_singleton.mp z]; exact hb)
  unfold f_X11_lacksValues
  rw [q.2.1.trees hA, qqx, q.1.top hA, qqx]
  obtain ⟨r, hr⟩ := Tord_head hw
  have := key (Tord T) [] 4000 rfl (by have := Tord_len hw; omega) (fun e he => by cases he)
  rw [hr] at this
  exact this
theorem ndB_split (T : qqT) (σ : mS) : ndB T σ = (qAny (fun e => TD T e && bt (σ.2 49) e) (Tn T) || qAny (fun e => TD T e && !bt (σ.2 48) e) (Tn T)) := by
  unfold ndB
  generalize Tn T = n
  induction n with
  | zero => rfl
  | succ n ih =>
    show (qAny _ n || (TD T n && (bt (σ.2 49) n || !bt (σ.2 48) n))) = ((qAny _ n || (TD T n && bt (σ.2 49) n)) || (qAny _ n || (TD T n && !bt (σ.2 48) n)))
    rw [ih]
    cases qAny (fun e => TD T e && bt (σ.2 49) e) n <;> cases qAny (fun e => TD T e && !bt (σ.2 48) e) n <;> cases TD T n <;> cases bt (σ.2 49) n <;> cases bt (σ.2 48) n <;> rfl
def kn48 (T : qqT) (σ : mS) : Prop := ∀ e, e < Tn T → TD T e = true → bt (σ.2 48) e = true
theorem kn48.of {T : qqT} {σ : mS} (h : ndB T σ = false) : kn48 T σ := fun e he hd => by
  cases hb : bt (σ.2 48) e with
  | true => rfl
  | false =>
    have : ndB T σ = true := qAny_is.mpr ⟨e, he, by rw [hd, hb]; simp⟩
    rw [this] at h; cases h
theorem read_both (hw : Tw T) (hL0 : L.1 = 0) (hA : KA A ex K S) (hin : kIn A ex K) (j : J0 T G L ex K σ v) (hv : v + 24 < 2 ^ 31) : ∃ S' K' σ' v', f_X11_read (A 49 0) S = some S' ∧ f_read σ = some σ' ∧ KA A ex K' S' ∧ kIn A ex K' ∧ J0 T G L ex K' σ' v' ∧ v ≤ v' ∧ v' ≤ v + 24 ∧ RS T G σ' ∧ rowS 75 76 σ' (Tord T) ∧ hitS T G σ' ∧ (∀ f, f ∈ [54, 81] → σ'.2 f = σ.2 f) ∧ kn48 T σ' := by
  have h30 := hw.n30
  have fin : ∀ (K1 : kS) (S1 : cS) (σ1 : mS) (v1 : Nat), KA A ex K1 S1 → kIn A ex K1 → J0 T G L ex K1 σ1 v1 → v ≤ v1 → v1 ≤ v + 24 → (∀ f, f ∈ [54, 81] → σ1.2 f = σ.2 f) → kn48 T σ1 → ∃ S' K' σ' v', some S1 = some S' ∧ f_read_90 σ1 = some σ' ∧ KA A ex K' S' ∧ kIn A ex K' ∧ J0 T G L ex K' σ' v' ∧ v ≤ v' ∧ v' ≤ v + 24 ∧ RS T G σ' ∧ rowS 75 76 σ' (Tord T) ∧ hitS T G σ' ∧ (∀ f, f ∈ [54, 81] → σ'.2 f = σ.2 f) ∧ kn48 T σ' := by
    intro K1 S1 σ1 v1 h1 in1 j1 hv1 hv2 h54 h48
    obtain ⟨-, -, σ2, -, e2, -, -, -, -, rs2, row2, hit2, sb2, -⟩ := hits_both hw h1 in1 j1 (by omega)
    refine ⟨S1, K1, σ2, v1, rfl, ?_, h1, in1, j1.scR (sb2.wd (fun _ h => h) (fun f hf => by revert f; decide)), hv1, hv2, rs2, row2, hit2, fun f hf => (sb2.2 f (by revert f; decide)).trans (h54 f hf), fun e he hd => by rw [sb2.2 48 (by decide)]; exact h48 e he hd⟩
    unfold f_read_90
    cases ho : f_ordered σ1 with
    | none => rw [ho] at e2; cases e2
    | some τ => rw [ho, qqx] at e2; rw [qqx, e2, qqx]
  have loop : ∀ (d i m1 m2 v1 : Nat) (K1 : kS) (S1 : cS) (σ1 : mS), i + d = 4 → d < m1 → d < m2 → KA A ex K1 S1 → kIn A ex K1 → J0 T G L ex K1 σ1 v1 → v ≤ v1 → v1 + 6 * d ≤ v + 24 → (∀ f, f ∈ [54, 81] → σ1.2 f = σ.2 f) → (i = 0 ∨ kn48 T σ1) → ∃ S' K' σ' v', f_X11_read_30 (A 49 0) m2 (b2 (ndB T σ1)) (nI i) S1 = some S' ∧ f_read_2 m1 (nI i) σ1 = some σ' ∧ KA A ex K' S' ∧ kIn A ex K' ∧ J0 T G L ex K' σ' v' ∧ v ≤ v' ∧ v' ≤ v + 24 ∧ RS T G σ' ∧ rowS 75 76 σ' (Tord T) ∧ hitS T G σ' ∧ (∀ f, f ∈ [54, 81] → σ'.2 f = σ.2 f) ∧ kn48 T σ' := by
    intro d
    induction d with
    | zero =>
      intro i m1 m2 v1 K1 S1 σ1 hi hm1 hm2 h1 in1 j1 hv1 hv2 h54 h48
      obtain ⟨m1, rfl⟩ : ∃ m', m1 = m' + 1 := ⟨m1 - 1, by omega⟩
      obtain ⟨m2, rfl⟩ : ∃ m', m2 = m' + 1 := ⟨m2 - 1, by omega⟩
      have hi : i = 4 := by omega
      subst hi
      rw [f_X11_read_30, if_pos (show (4 : Int32) ≤ nI 4 by decide), f_read_2, if_pos (show (4 : Int32) ≤ nI 4 by decide)]
      exact fin K1 S1 σ1 v1 h1 in1 j1 hv1 (by omega) h54 (h48.elim (fun z => by omega) id)
    | succ d ih =>
      intro i m1 m2 v1 K1 S1 σ1 hi hm1 hm2 h1 in1 j1 hv1 hv2 h54 h48
      obtain ⟨m1, rfl⟩ : ∃ m', m1 = m' + 1 := ⟨m1 - 1, by omega⟩
      obtain ⟨m2, rfl⟩ : ∃ m', m2 = m' + 1 := ⟨m2 - 1, by omega⟩
      rw [f_X11_read_30, if_neg (ge4 (by omega)), b2_i0, f_read_2, if_neg (ge4 (by omega)), r_needs hw j1.1.2.2.2, qqx, b2_i0]
      cases hn : ndB T σ1 with
      | false =>
        rw [if_neg (by decide), if_neg (by decide)]
        exact fin K1 S1 σ1 v1 h1 in1 j1 hv1 (by omega) h54 (kn48.of hn)
      | true =>
        obtain ⟨S2, S3, K3, σ3, e2, e3, e4, e5, h3, in3, j3, z3, all3, lx3, f3⟩ := flush_both hw h1 in1 j1 (by omega)
        have l6 := j3.2.2.1.2.2.2.2.1.2.1
        obtain ⟨S4, K4, σ4, v4, a1, a2, h4, in4, j4, a6, a7, a8⟩ := tell_both (k2 := f_read_2 m1) (x1 := nI i) hw hL0 L.1 0 4000 4000 v1 K3 S3 σ3 (by omega) (by omega) (by omega) h3 in3 j3 (by omega) (fun k _ hk => lx3 k hk)
        have a1' : f_X11_tellListeners_2 (A 49 0) 4000 0 S3 = some S4 := a1
        have a2' : f_read_20 (f_read_2 m1) 4000 (nI i) 0 σ3 = f_read_2 m1 (nI i + 1) σ4 := a2
        have due : ndB T σ4 = qAny (fun e => TD T e && bt (σ4.2 49) e) (Tn T) := by
          rw [ndB_split]
          have : qAny (fun e => TD T e && !bt (σ4.2 48) e) (Tn T) = false := Bool.eq_false_iff.mpr (fun w => by
            obtain ⟨e, he, hb⟩ := qAny_is.mp w
            rw [Bool.and_eq_true, a8 48 (by decide)] at hb
            rw [all3 e he hb.1] at hb
            exact absurd hb.2 (by decide))
          rw [this, Bool.or_false]
        have q1 := j1.1.1
        have q3 := j3.1.1
        have q4 := j4.1.1
        obtain ⟨S', K', σ', v', c1, c2, c3, c4, c5, c6, c7, c8⟩ := ih (i + 1) m1 m2 v4 K4 S4 σ4 (by omega) (by omega) (by omega) h4 in4 j4 (by omega) (by omega) (fun f hf => (a8 f (by revert f; decide)).trans ((f3 f hf).trans (h54 f hf))) (Or.inr (fun e he hd => by rw [a8 48 (by decide)]; exact all3 e he hd))
        refine ⟨S', K', σ', v', ?_, ?_, c3, c4, c5, c6, c7, c8⟩
        · rw [if_pos rfl, q1.2.1.cascade h1, qqx, q1.2.1.r1 h1, qqx, e2, qqx, e4, qqx, e3, qqx, q3.2.1.r11 h3, qqx]
          unfold f_X11_tellListeners f_X11_read_74
          rw [a1', qqx, q4.2.1.I49 h4, qqx, q4.2.1.trees h4, qqx, q4.2.1.I50 h4, qqx, nI_1]
          have hd := c_due hw h4 j4
          rw [due] at c1
          cases hq : qAny (fun e => TD T e && bt (σ4.2 49) e) (Tn T) with
          | false => rw [if_pos (hd.mpr hq)]; rw [hq] at c1; exact c1
          | true => rw [if_neg (fun z => by rw [hd.mp z] at hq; cases hq)]; rw [hq] at c1; exact c1
        · rw [if_pos rfl, e5, qqx, a2', nI_1]; exact c2
  have q := j.1.1
  have hd := c_due hw hA j
  obtain ⟨S', K', σ', v', c1, c2, c3⟩ := loop 4 0 4000 4000 v K S σ (by omega) (by decide) (by decide) hA hin j (Nat.le_refl _) (by omega) (fun _ _ => rfl) (Or.inl rfl)
  refine ⟨S', K', σ', v', ?_, c2, c3⟩
  unfold f_X11_read f_X11_read_22 f_X11_read_27
  rw [q.2.1.I49 hA, qqx, q.2.1.trees hA, qqx, q.2.1.I50 hA, qqx]
  rw [ndB_split] at c1
  cases hq : qAny (fun e => TD T e && bt (σ.2 49) e) (Tn T) with
  | true => rw [if_neg (fun z => by rw [hd.mp z] at hq; cases hq)]; rw [hq, Bool.true_or] at c1; exact c1
  | false =>
    rw [hq, Bool.false_or] at c1
    rw [if_pos (hd.mpr hq), q.2.1.r11 hA, qqx, c_lacks hw hA j, qqx, b2_i0]
    cases hl : qAny (fun e => TD T e && !bt (σ.2 48) e) (Tn T) with
    | true => rw [if_pos rfl]; rw [hl] at c1; exact c1
    | false => rw [if_neg (by decide)]; rw [hl] at c1; exact c1
end RDB
