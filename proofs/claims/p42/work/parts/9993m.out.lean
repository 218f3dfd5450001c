section QM
variable {mm : Nat × Nat × Nat}
variable {T T' : qqT} {G G' : qqG} {σ σ' σ1 : mS} {hl dr dr' hl' b : Bool} {e k n x p i N s : Nat} {h : Option Nat}
theorem TA_TB (hw : Tw T) {x : Nat} : ∀ z, z < Tn T → TA T x z = true → z = x ∨ TB T x z = true := by
  obtain ⟨rk, h1⟩ := hw.rkup
  intro z
  refine qqInd (st := Tup T) (μ := rk) (P := fun z => z < Tn T → TA T x z = true → z = x ∨ TB T x z = true) ?_ z
  intro z ih hz ha
  cases hu : Tup T z with
  | none => rw [TA_eq hw hz, hu] at ha; exact Or.inl (of_decide_eq_true ha)
  | some q =>
    rw [TA_u hw hz hu, Bool.or_eq_true] at ha
    rcases ha with h | h
    · exact Or.inl (of_decide_eq_true h)
    · have hb := TB_up hw z hz q hu
      rcases ih q hu (h1 z q hu) (hw.up hu).2 h with w | w
      · rw [← w]; exact Or.inr hb
      · exact Or.inr (TB_tr hw w z hz hb)
theorem TA_out (hw : Tw T) {x y : Nat} (hy : y < Tn T) (h1 : y ≠ x) (h2 : TB T x y = false) : TA T x y = false := by
  cases ha : TA T x y with
  | false => rfl
  | true =>
    rcases TA_TB hw y hy ha with z | z
    · exact absurd z h1
    · rw [z] at h2; cases h2
theorem TA_h (hw : Tw T) {x : Nat} {e t : Nat} (he : e < Tn T) (ha : TA T x e = false) (ht : TH T e = some t) : TA T x t = false :=
  TH_ind hw (P := fun z => TA T x z = false) (fun _ _ he hu hp => TA_q hw he hu hp) e he ha t ht
theorem TD_out (hw : Tw T) (h : inH T b x p i) : ∀ e, e < Tn T → TA (Tis T b x p i) x e = false → TD (Tis T b x p i) e = TD T e ∧ TL (Tis T b x p i) e = TL T e := by
  have hw' := Tis_w hw h
  obtain ⟨rk, -, h1⟩ := TH_rk hw
  intro e
  refine qqInd (st := fun e => if e < Tn T then TH T e else none) (μ := rk) (P := fun e => e < Tn T → TA (Tis T b x p i) x e = false → TD (Tis T b x p i) e = TD T e ∧ TL (Tis T b x p i) e = TL T e) ?_ e
  intro e ih he ha
  obtain ⟨o1, o2, -⟩ := Tis_out hw h e he ha
  rw [TD_eq hw he, TD_eq hw' he, TL_eq hw he, TL_eq hw' he, o1, o2]
  cases ht : TH T e with
  | none => exact ⟨rfl, rfl⟩
  | some q =>
    have hq := (TH_lt hw ht).1
    have := ih q (by rw [if_pos he]; exact ht) (h1 e q he ht) hq (TA_h hw' he ha (o1.trans ht))
    refine ⟨this.1, ?_⟩
    show TL (Tis T b x p i) q + 1 = TL T q + 1
    rw [this.2]
theorem TH_B (hw : Tw T) {x : Nat} : ∀ z, z < Tn T → TA T x z = true → TH T z = TH T x ∨ ∃ q, TH T z = some q ∧ TA T x q = true := by
  obtain ⟨rk, h1⟩ := hw.rkup
  intro z
  refine qqInd (st := Tup T) (μ := rk) (P := fun z => z < Tn T → TA T x z = true → TH T z = TH T x ∨ ∃ q, TH T z = some q ∧ TA T x q = true) ?_ z
  intro z ih hz ha
  by_cases c : z = x
  · rw [c]; exact Or.inl rfl
  · cases hu : Tup T z with
    | none => rw [TA_eq hw hz, hu] at ha; exact absurd (of_decide_eq_true ha) c
    | some w =>
      rw [TA_u hw hz hu, decide_eq_false c, Bool.false_or] at ha
      rcases Tup_cases hw hu with hp | ⟨hp, hh⟩
      · rw [TH_p hw hp]
        exact ih w hu (h1 z w hu) (hw.up hu).2 ha
      · exact Or.inr ⟨w, TH_h hw hh, ha⟩
theorem TH_x (hw' : Tw (Tis T b x p i)) (h : inH T b x p i) : TH (Tis T b x p i) x = if b = true then some p else TH (Tis T b x p i) p := by
  cases b with
  | true => rw [if_pos rfl]; exact TH_h hw' (by rw [Tis_h, if_pos ⟨rfl, rfl⟩])
  | false => rw [if_neg (by decide)]; exact TH_p hw' (by rw [Tis_p, if_pos ⟨rfl, rfl⟩])
theorem sib_TH (hw : Tw T) (h : inH T b x p i) {z : Nat} (hz : z ∈ Tls T b p) : TH (Tis T b x p i) z = TH (Tis T b x p i) x := by
  have hw' := Tis_w hw h
  have hzx : z ≠ x := fun w => Tls_no hw h (by rw [← w]; exact hz)
  rw [TH_x hw' h]
  cases b with
  | true =>
    rw [if_pos rfl]
    exact TH_h hw' (by rw [Tis_h, if_neg (fun w => hzx w.1)]; exact hw.t hz)
  | false =>
    rw [if_neg (by decide)]
    exact TH_p hw' (by rw [Tis_p, if_neg (fun w => hzx w.1)]; exact hw.c hz)
theorem pvI_mem {l : List Nat} {i z : Nat} (h : pvI l i = some z) : z ∈ l := by
  unfold pvI at h
  by_cases c : i = 0
  · rw [if_pos c] at h; cases h
  · rw [if_neg c] at h; exact List.mem_of_getElem? h
theorem Tnx_out (hw : Tw T) (h : inH T b x p i) {z : Nat} (hz : z < Tn T) (hzx : z ≠ x) (hq : TH (Tis T b x p i) z ≠ TH (Tis T b x p i) x) : Tnx (Tis T b x p i) z = Tnx T z := by
  rw [((Tis_nx hw h).2 z hz hzx).1, if_neg (fun w => hq (sib_TH hw h (pvI_mem w)))]
theorem Tcl_out (hw : Tw T) (h : inH T b x p i) : ∀ z, z < Tn T → TA (Tis T b x p i) x z = false → TH (Tis T b x p i) z ≠ TH (Tis T b x p i) x → Tcl (Tis T b x p i) z = Tcl T z := by
  have hw' := Tis_w hw h
  obtain ⟨rk, h1⟩ := hw.rkup
  intro z
  refine qqInd (st := Tup T) (μ := rk) (P := fun z => z < Tn T → TA (Tis T b x p i) x z = false → TH (Tis T b x p i) z ≠ TH (Tis T b x p i) x → Tcl (Tis T b x p i) z = Tcl T z) ?_ z
  intro z ih hz ha hq
  have hzx := TA_e hw' hz ha
  have ep : Tp (Tis T b x p i) z = Tp T z := by rw [Tis_p, if_neg (fun w => hzx w.1)]
  rw [Tcl_eq hw hz, Tcl_eq hw' hz, Tnx_out hw h hz hzx hq, ep]
  by_cases c : (Tnx T z).isSome = true
  · rw [if_pos c, if_pos c]
  · rw [if_neg c, if_neg c]
    cases hp : Tp T z with
    | none => rfl
    | some w =>
      have hu := Tup_p hp
      have hu' := Tup_p (ep.trans hp)
      exact ih w hu (h1 z w hu) (hw.up hu).2 (TA_q hw' hz hu' ha) (by rw [← TH_p hw' (ep.trans hp)]; exact hq)
theorem Tcl_TH (hw : Tw T) : ∀ z, z < Tn T → TH T (Tcl T z) = TH T z := fun z hz => by
  have := Tcl_is hw z hz
  unfold TH
  rw [this.2.2]
theorem Tcl_A (hw : Tw T) {x : Nat} : ∀ z, z < Tn T → TA T x z = false → TA T x (Tcl T z) = false := by
  obtain ⟨rk, h1⟩ := hw.rkup
  intro z
  refine qqInd (st := Tup T) (μ := rk) (P := fun z => z < Tn T → TA T x z = false → TA T x (Tcl T z) = false) ?_ z
  intro z ih hz ha
  rw [Tcl_eq hw hz]
  by_cases c : (Tnx T z).isSome = true
  · rw [if_pos c]; exact ha
  · rw [if_neg c]
    cases hp : Tp T z with
    | none => exact ha
    | some w => exact ih w (Tup_p hp) (h1 z w (Tup_p hp)) (hw.p hp).2.1 (TA_q hw hz (Tup_p hp) ha)
theorem Tni_out (hw : Tw T) (h : inH T b x p i) {z : Nat} (hz : z < Tn T) (ha : TA (Tis T b x p i) x z = false) (hq : TH (Tis T b x p i) z ≠ TH (Tis T b x p i) x) : Tni (Tis T b x p i) z = Tni T z := by
  have hw' := Tis_w hw h
  have hc : Tc (Tis T b x p i) z = Tc T z := by
    rw [Tis_c, if_neg (fun w => hq ?_)]
    rw [TH_x hw' h, w.1, w.2, if_neg (by decide)]
  have hcl := Tcl_out hw h z hz ha hq
  have hcn := (Tcl_is hw' z hz).1
  have hca := Tcl_A hw' z hz ha
  have hcq : TH (Tis T b x p i) (Tcl (Tis T b x p i) z) ≠ TH (Tis T b x p i) x := by rw [Tcl_TH hw' z hz]; exact hq
  have hnx := Tnx_out hw h hcn (TA_e hw' hcn hca) hcq
  unfold Tni
  rw [hc, hnx, hcl]
def iP (T' : qqT) (x y : Nat) : Prop := y < Tn T' ∧ y ≠ x ∧ TB T' x y = false ∧ ∀ t, TH T' x = some t → TB T' t y = false
theorem iP_sp (hw : Tw T) (h : inH T b x p i) {y : Nat} (hp : iP (Tis T b x p i) x y) : Tsp T y = Tsp (Tis T b x p i) y ∧ ∀ z, Tsp (Tis T b x p i) y = some z → iP (Tis T b x p i) x z := by
  have hw' := Tis_w hw h
  obtain ⟨hy, p1, p2, p3⟩ := hp
  have ha := TA_out hw' hy p1 p2
  have ep : Tp T y = Tp (Tis T b x p i) y := by rw [Tis_p, if_neg (fun w => p1 w.1)]
  have eh : Th T y = Th (Tis T b x p i) y := by rw [Tis_h, if_neg (fun w => p1 w.1)]
  refine ⟨Tsp_eq9 hw' hw ep eh (fun q hq => ⟨rfl, fun hs => ⟨rfl, ?_⟩⟩), fun z hz => ⟨(Tsp_cases hw' hz).2.1, (TB_no hw' hy hz p2).1, (TB_no hw' hy hz p2).2, fun t ht => (TB_no hw' hy hz (p3 t ht)).2⟩⟩
  have hqx : TH (Tis T b x p i) x ≠ some q := fun w => by
    have := TB_up hw' y hy q (Tup_p hq)
    rw [p3 q w] at this; cases this
  have hqa := TA_q hw' hy (Tup_p hq) ha
  refine Tslot_pair hw' hw rfl ?_ (fun z hz hzq => ?_) _
  · rw [Tis_t, if_neg (fun w => hqx ?_)]
    rw [TH_x hw' h, if_pos w.2, w.1]
  · have hza : TA (Tis T b x p i) x z = false := by
      cases hb : TA (Tis T b x p i) x z with
      | false => rfl
      | true =>
        rcases TH_B hw' z hz hb with w | ⟨q', w1, w2⟩
        · exact absurd (w.symm.trans hzq) hqx
        · rw [hzq] at w1; cases w1
          rw [hqa] at w2; cases w2
    exact ⟨rfl, rfl, (Tni_out hw h hz hza (by rw [hzq]; exact fun w => hqx w.symm)).symm⟩
theorem bit_host (hw : Tw T) (hN : N ≤ 30) (hs : ∀ s, s < N → RSl σ s s) (hsN : s < N) {q y : Nat} (hy : y < Tn T) (hb : bt (qMs T σ (some q) s) y = true) : y = q ∨ TH T y = some q ∨ ∃ t, TH T y = some t ∧ (t = q ∨ TH T t = some q) := by
  have h30 := hw.n30
  rw [qMs_eq (by omega) (hs s hsN), qqM_b h30 hy] at hb
  unfold qSv at hb
  have inn : ∀ f, f < Tn T → qRw T σ (qMs T σ (some q)) (some q) s (nC σ s - 1) f = true → f = q ∨ TH T f = some q := fun f hf w => by
    rcases (qRw_in hf w).2 with m | m
    · exact Or.inr (Tmb_TH.mp m)
    · cases m; exact Or.inl rfl
  by_cases c : σ.1 21 s < 0
  · rw [if_pos c] at hb
    rcases inn y hy hb with w | w
    · exact Or.inl w
    · exact Or.inr (Or.inl w)
  · rw [if_neg c, Bool.and_eq_true] at hb
    cases ht : TH T y with
    | none => rw [ht, qPt_n] at hb; exact absurd hb.2 (by decide)
    | some t =>
      rw [ht, qPt_s] at hb
      exact Or.inr (Or.inr ⟨t, rfl, inn t (TH_lt hw ht).1 hb.2⟩)
theorem host_out (hw : Tw T) {x q y : Nat} (hy : y < Tn T) (ha : TA T x y = false) (hb : y = q ∨ TH T y = some q ∨ ∃ t, TH T y = some t ∧ (t = q ∨ TH T t = some q)) : TA T x q = false := by
  rcases hb with rfl | hb | ⟨t, ht, rfl | ht2⟩
  · exact ha
  · exact TA_h hw hy ha hb
  · exact TA_h hw hy ha ht
  · exact TA_h hw (TH_lt hw ht).1 (TA_h hw hy ha ht) ht2
end QM
