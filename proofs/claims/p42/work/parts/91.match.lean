section MAT
variable {T : qqT} {G : qqG} {L : qqL} {A : kA} {ex : Nat → Nat → Prop} {K K' : kS} {S S' : cS} {σ σ' : mS} {v v' nw k : Nat}
theorem tr_cases (T : qqT) (h30 : Tn T ≤ 30) (x : Int32) : (∃ h : Option Nat, (∀ q, h = some q → q < Tn T ∧ Ts T q = true) ∧ x = qqO h) ∨ (x ≠ -1 ∧ ((∃ e, e < Tn T ∧ x = nI e ∧ Ts T e = false) ∨ ¬ (0 ≤ x ∧ x < nI (Tn T)))) := by
  by_cases hm : x = -1
  · exact Or.inl ⟨none, (fun _ z => by cases z), hm⟩
  · rcases ix_cases x (n := Tn T) (by omega) with ⟨e, he, rfl⟩ | hx
    · cases hs : Ts T e with
      | true => exact Or.inl ⟨some e, (fun q z => by cases z; exact ⟨he, hs⟩), rfl⟩
      | false => exact Or.inr ⟨hm, Or.inl ⟨e, he, rfl, hs⟩⟩
    · exact Or.inr ⟨hm, Or.inr hx⟩
theorem nI_m1 {q : Nat} (h : q < 2 ^ 31) : ¬ nI q = -1 := fun z => nI_pos h (by rw [z]; decide)
theorem r_isTreeY (hw : Tw T) (rt : RT T σ) {h : Option Nat} (hh : ∀ q, h = some q → q < Tn T ∧ Ts T q = true) : f_isTree (qqO h) σ = some 1 := by
  have h30 := hw.n30
  unfold f_isTree f_isTree_23 f_isTree_27 f_isTree_28
  cases h with
  | none => rw [if_pos (show qqO none = -1 from rfl)]; rfl
  | some q =>
    obtain ⟨h1, h2⟩ := hh q rfl
    rw [qqO_some, if_neg (nI_m1 (by omega)), r_isElement rt hw, qqx, if_dt (nI_inn h1 (by omega)), rd_8 (by omega), qqx, rt.2.2.2.1 q (by omega), h2, if_pos (show b2 true = 1 from rfl)]
    rfl
theorem r_isTreeN (hw : Tw T) (rt : RT T σ) {x : Int32} (hm : x ≠ -1) (hx : (∃ e, e < Tn T ∧ x = nI e ∧ Ts T e = false) ∨ ¬ (0 ≤ x ∧ x < nI (Tn T))) : f_isTree x σ = some 0 := by
  have h30 := hw.n30
  unfold f_isTree f_isTree_23 f_isTree_27 f_isTree_28
  rw [if_neg hm, r_isElement rt hw, qqx]
  rcases hx with ⟨e, he, rfl, hs⟩ | hx
  · rw [if_dt (nI_inn he (by omega)), rd_8 (by omega), qqx, rt.2.2.2.1 e (by omega), hs, if_neg (by decide)]
    rfl
  · rw [if_df hx]
    rfl
theorem c_atT (hw : Tw T) (t : KT T ex K) (hA : KA A ex K S) {h : Option Nat} (hh : ∀ q, h = some q → q < Tn T ∧ Ts T q = true) : f_X10_at (A 50 0) (qqO h) S = some (el A h) := by
  cases h with
  | none => exact c_atN hw t hA (x := -1) (fun z => absurd z.1 (by decide))
  | some q => exact c_at hw t hA (hh q rfl).1
theorem c_hasTreeY (hw : Tw T) (q : KQ T ex K) (hA : KA A ex K S) {h : Option Nat} (hh : ∀ q, h = some q → q < Tn T ∧ Ts T q = true) : f_X10_hasTree (A 50 0) (qqO h) S = some 1 := by
  have h30 := hw.n30
  unfold f_X10_hasTree f_X10_hasTree_22 f_X10_hasTree_26 f_X10_hasTree_27
  rw [hA.Rc 50 10 (q.2.1.x (by decide) (by decide) (by decide)) rfl, qqx, c_atT hw q.1 hA hh, qqx]
  cases h with
  | none => rw [if_pos (show qqO none = -1 from rfl)]; rfl
  | some e =>
    obtain ⟨h1, h2⟩ := hh e rfl
    rw [qqO_some, if_neg (nI_m1 (by omega)), el_some, if_neg (fun z => by cases z), q.1.gs hA h1, qqx, h2, if_neg (by decide)]
    rfl
theorem c_hasTreeN (hw : Tw T) (q : KQ T ex K) (hA : KA A ex K S) {x : Int32} (hm : x ≠ -1) (hx : (∃ e, e < Tn T ∧ x = nI e ∧ Ts T e = false) ∨ ¬ (0 ≤ x ∧ x < nI (Tn T))) : f_X10_hasTree (A 50 0) x S = some 0 := by
  unfold f_X10_hasTree f_X10_hasTree_22 f_X10_hasTree_26 f_X10_hasTree_27
  rw [hA.Rc 50 10 (q.2.1.x (by decide) (by decide) (by decide)) rfl, qqx]
  rcases hx with ⟨e, he, rfl, hs⟩ | hx
  · rw [c_at hw q.1 hA he, qqx, if_neg hm, if_neg (fun z => by cases z), q.1.gs hA he, qqx, hs, if_pos (show b2 false = 0 from rfl)]
    rfl
  · rw [c_atN hw q.1 hA hx, qqx, if_neg hm, if_pos rfl]
    rfl
theorem c_refB0 (S : cS) : f_X11_refuseBounds 0 S = some (.inr (), S) := by
  unfold f_X11_refuseBounds; rw [if_pos rfl]
theorem c_refB1 (S : cS) : f_X11_refuseBounds 1 S = some (.inl 2, S) := by
  unfold f_X11_refuseBounds; rw [if_neg (by decide)]
theorem r_isSel (j : J0 T G L ex K σ v) (x : Int32) : f_isSel x σ = some (b2 (decide (0 ≤ x ∧ x < nI (Gs G)))) := by
  have hg := j.2.2.2.2.2.1.1.2.2.2.1
  unfold f_isSel
  rw [j.2.2.2.2.2.1.2, r_in0 x (n := Gs G) (by omega) rfl, qqx, rz_b2]
theorem c_selY (j : J0 T G L ex K σ v) (hA : KA A ex K S) {s : Nat} (hs : s < Gs G) : f_X11_selectorAt (A 49 0) (nI s) S = some (.inr (some (A 17 s)), S) := by
  have q := j.1.1
  have m := j.2.2.2.2.2.1.1
  unfold f_X11_selectorAt
  rw [q.2.1.matcher hA, qqx, q.2.1.r5 hA, qqx, c_selectorAt q.2.1 hA m.2.2.1 m.2.2.2.1 hs (m.1 s hs).2.2.1, qqx, if_neg (fun z => by cases z)]
theorem c_selN (j : J0 T G L ex K σ v) (hA : KA A ex K S) {x : Int32} (hx : ¬ (0 ≤ x ∧ x < nI (Gs G))) : f_X11_selectorAt (A 49 0) x S = some (.inl 2, S) := by
  have q := j.1.1
  have m := j.2.2.2.2.2.1.1
  unfold f_X11_selectorAt
  rw [q.2.1.matcher hA, qqx, q.2.1.r5 hA, qqx, show f_X5_selectorAt (A 52 0) x S = some none from ?_, qqx, if_pos rfl]
  unfold f_X5_selectorAt
  by_cases h0 : x < 0
  · rw [if_pos h0]; rfl
  · rw [if_neg h0, q.2.1.I52 hA, m.2.2.1, qqx, if_pos (Int32.not_lt.mp (fun z => hx ⟨Int32.not_lt.mp h0, z⟩))]; rfl
theorem JW.look (hk : k < 60000) (w : JW k T G L A ex K v nw S σ) {s : Nat} (hs : s < Gs G) {h : Option Nat} (hh : ∀ q, h = some q → q < Tn T ∧ Ts T q = true) : ∃ S' K' σ', f_X5_setOf (A 52 0) (some (A 17 s)) (el A h) S = some (qMs T σ h s, S') ∧ f_look (qqO h) (sf σ 81 0) = some σ' ∧ σ'.1 73 s = qMs T σ h s ∧ KA A ex K' S' ∧ J0 T G L ex K' σ' v ∧ σ'.2 81 = 0 ∧ ∀ n, S'.2 ≤ n → JP (pf T G σ (P_sc T G σ)) (k + 1) (S'.1, n) σ' := by
  obtain ⟨⟨hw, hA, hin⟩, h49, ⟨hv, -, -⟩, j⟩ := id w
  have j0 := j.scR (scR_sf σ 0)
  obtain ⟨t, ca, n, va, mk, ⟨m, s26⟩, d, fr⟩ := id j
  obtain ⟨S', K', e1, h1, m1, b1⟩ := c_setOf hw t.1 t.2.2.1 m (by omega) hA hs (h := h) (fun q z => (hh q z).1)
  obtain ⟨σ', e2, b2', h2⟩ := r_look hw j0.1.2.2.2 (h := h) (fun q z => (hh q z).1) (fun s hs => (j0.2.2.2.2.2.1.1.1 s hs).2.2.2) j0.2.2.2.2.2.1.2 m.2.2.2.1
  have j1 : J0 T G L ex K' σ v := j.kf b1 (fun k i j z => PRI_ok k i j (Or.inl z)) (fun _ _ _ z => z.elim) m1
  have j2 : J0 T G L ex K' σ' v := (j1.scR (scR_sf σ 0)).scR (b2'.wd (by decide) (by decide))
  refine ⟨S', K', σ', e1, e2, ?_, h1, j2, (b2'.2 81 (by decide)).trans rfl, w.to h1 (hin.kp b1 (fun i j => by unfold SOI; omega)) j2 (by omega) ((b2'.2 54 (by decide)).trans rfl) (Or.inr ⟨(b2'.2 81 (by decide)).trans rfl, rfl, rfl, (scE.of (scR_sf σ 0)).tr (scE.of (b2'.wd (by decide) (by decide)))⟩)⟩
  rw [h2 s hs, show qMs T (sf σ 81 0) h = qMs T σ h from qMs_cg (fun _ _ => rfl)]
theorem sq_allThat {T : qqT} {G : qqG} {L : qqL} {A : kA} {ex : Nat → Nat → Prop} {K : kS} {v nw k : Nat} {S : cS} {σ : mS} (hk : k < 60000) (w : JW k T G L A ex K v nw S σ) (a1 a2 : Int32) : sJR [2] lvN (JP (pf T G σ (P_sc T G σ)) (k + 1)) (f_X11_allThat 1 a1 a2 S) (f_allThat a1 a2 σ) := by
  obtain ⟨⟨hw, hA, hin⟩, h49, -, j⟩ := id w
  have h30 := hw.n30
  have q := j.1.1
  have rt := j.1.2.2.2
  have hg := j.2.2.2.2.2.1.1.2.2.2.1
  refine at49 (P := fun x => sJR [2] lvN (JP (pf T G σ (P_sc T G σ)) (k + 1)) (f_X11_allThat x a1 a2 S) (f_allThat a1 a2 σ)) h49 ?_
  unfold f_X11_allThat f_allThat f_allThat_21 f_allThat_22 f_X11_allThat_22
  rw [q.2.1.r11 hA, qqx, r_isSel j, qqx]
  rcases ix_cases a1 (n := Gs G) (by omega) with ⟨s, hs, rfl⟩ | hx
  · rw [c_selY j hA hs, qqx, if_dt (nI_inn hs (by omega))]
    show sJR _ _ _ ((gR S (some (A 49 0)) 11 0).bind _) _
    rw [q.2.1.trees hA, qqx]
    show sJR _ _ _ ((rc S (some (A 50 0)) 10).bind _) _
    rw [hA.Rc 50 10 (q.2.1.x (by decide) (by decide) (by decide)) rfl, qqx]
    rcases tr_cases T h30 a2 with ⟨h, hh, rfl⟩ | ⟨hm, hx⟩
    · obtain ⟨S', K', σ', e1, e2, e3, h1, j1, z1, z2⟩ := w.look hk hs hh
      rw [r_isTreeY hw rt hh, qqx, if_neg (by decide), r_holds0, qqx, if_pos rfl, e2, qqx, rd_73 (by omega), qqx, e3]
      show sJR _ _ _ ((f_X10_hasTree (A 50 0) (qqO h) S).bind _) _
      rw [c_hasTreeY hw q hA hh, qqx, if_neg (by decide), c_refB0, qqx]
      show sJR _ _ _ ((gR S (some (A 49 0)) 11 1).bind (fun v3 => (gR S (some (A 49 0)) 11 0).bind (fun v4 => (rc S v4 10).bind (fun v5 => (f_X10_at v5 (qqO h) S).bind (fun v6 => (rc S v3 5).bind (fun v7 => (f_X5_setOf v7 (some (A 17 s)) v6 S).bind _)))))) _
      rw [q.2.1.matcher hA, qqx, q.2.1.trees hA, qqx, hA.Rc 50 10 (q.2.1.x (by decide) (by decide) (by decide)) rfl, qqx, c_atT hw q.1 hA hh, qqx, q.2.1.r5 hA, qqx, e1, qqx]
      exact sJR.r rfl z1 z2
    · rw [r_isTreeN hw rt hm hx, qqx, if_pos rfl, r_holds1, qqx]
      show sJR _ _ _ ((f_X10_hasTree (A 50 0) a2 S).bind _) _
      rw [c_hasTreeN hw q hA hm hx, qqx, if_pos rfl, c_refB1, qqx]
      exact sJR.l rfl (w.no 1)
  · rw [c_selN j hA hx, qqx, if_df hx, r_holds1, qqx]
    exact sJR.l rfl (w.no 1)
end MAT
