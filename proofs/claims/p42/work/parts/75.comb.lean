def TU (T : qqT) (x e : Nat) : Bool := qqIt (fun _ => false) (fun e r => decide (Tup T e = some x) || r) (Tup T) 30 e
def Trl (T : qqT) (c e f : Nat) : Bool := if c = 0 then TU T f e else if c = 1 then decide (Tup T e = some f) else if c = 2 then decide (Tpv T e = some f) else decide (f ∈ Tsb T e ∧ Tix T f < Tix T e)
def Tmb (T : qqT) (h : Option Nat) (e : Nat) : Bool := match h with
  | none => decide (TR T e = 0)
  | some q => decide (TH T e = some q)
def inT (T : qqT) (h : Option Nat) (e : Nat) : Prop := e < Tn T ∧ (Tmb T h e = true ∨ h = some e)
section CB
variable {T : qqT} {σ : mS} {h : Option Nat}
theorem TU_eq (hw : Tw T) {x e : Nat} (he : e < Tn T) : TU T x e = match Tup T e with
    | none => false
    | some y => (y == x) || TU T x y := by
  obtain ⟨rk, h1⟩ := hw.rkup
  have h2 := qqIt_eq (fin := fun _ => false) (f := fun e r => decide (Tup T e = some x) || r) (st := Tup T) (μ := rk) hw.n30 (fun e q _ hs => ⟨(hw.up hs).2, h1 e q hs⟩) he
  unfold TU
  rw [h2]
  cases hs : Tup T e with
  | none => rfl
  | some y =>
    show (decide (some y = some x) || _) = ((y == x) || _)
    rw [show decide (some y = some x) = (y == x) by simp [Bool.beq_eq_decide_eq, Nat.beq_eq_true_eq, BEq.beq]]
theorem TU_rk (hw : Tw T) {ν : Nat → Nat} (hν : ∀ e q, Tup T e = some q → ν q < ν e) {x : Nat} : ∀ e, e < Tn T → TU T x e = true → x < Tn T ∧ ν x < ν e := by
  intro e
  refine qqInd (st := Tup T) (μ := ν) (P := fun e => e < Tn T → TU T x e = true → x < Tn T ∧ ν x < ν e) ?_ e
  intro e ih he hb
  rw [TU_eq hw he] at hb
  cases hs : Tup T e with
  | none => rw [hs] at hb; cases hb
  | some y =>
    rw [hs] at hb
    have hy := (hw.up hs).2
    have hr := hν e y hs
    have hb : ((y == x) || TU T x y) = true := hb
    rcases (Bool.or_eq_true _ _).mp hb with h1 | h1
    · have : y = x := by simpa using h1
      rw [← this]; exact ⟨hy, hr⟩
    · have := ih y hs hr hy h1
      exact ⟨this.1, by omega⟩
theorem Tmb_TH {q e : Nat} : Tmb T (some q) e = true ↔ TH T e = some q := by unfold Tmb; simp
theorem Tmb_R {e : Nat} : Tmb T none e = true ↔ TR T e = 0 := by unfold Tmb; simp
theorem inT_rk (hw : Tw T) {ν : Nat → Nat} (hν : ∀ e q, e < Tn T → TH T e = some q → ν q < ν e) {q f : Nat} (hf : inT T (some q) f) : ν q ≤ ν f := by
  rcases hf.2 with h1 | h1
  · exact Nat.le_of_lt (hν f q hf.1 (Tmb_TH.mp h1))
  · cases h1; exact Nat.le_refl _
def Tut (T : qqT) (h : Option Nat) (e : Nat) : Option Nat := match Tp T e with
  | some p => some p
  | none => match h with
    | none => none
    | some q => if Th T e = some q then some q else none
theorem qqO_m1 {o : Option Nat} (h : ∀ k, o = some k → k < 30) : (qqO o < 0) = (o = none) := qqO_neg (fun k hk => by have := h k hk; omega)
theorem r_up (hw : Tw T) (hr : RT T σ) (ht : σ.2 71 = qqO h) (hh : ∀ q, h = some q → q < Tn T) {e : Nat} (he : e < Tn T) : f_up (nI e) σ = some (qqO (Tut T h e)) := by
  have h30 := hw.n30
  unfold f_up f_up_45 f_up_46 Tut
  rw [hr.p (by omega), qqx, ht]
  cases hp : Tp T e with
  | some p => rw [if_neg (show ¬ qqO (some p) < 0 from nI_pos (by have := (hw.p30 hp).2; omega)), qqx]
  | none =>
    rw [if_pos (show qqO none < 0 from (show (-1 : Int32) < 0 by decide))]
    cases h with
    | none => rw [if_pos (show qqO none < 0 from (show (-1 : Int32) < 0 by decide))]; rfl
    | some q =>
      have hq := hh q rfl
      rw [if_neg (show ¬ qqO (some q) < 0 from nI_pos (by omega)), hr.h (by omega), qqx, qqO_some]
      have heq := qqO_eqn (o := Th T e) (x := q) (fun k hk => (hw.h30 hk).2) (by omega)
      by_cases c : Th T e = some q
      · rw [if_pos (heq.mpr c)]
        show some (nI q) = some (qqO (if Th T e = some q then some q else none))
        rw [if_pos c]; rfl
      · rw [if_neg (fun z => c (heq.mp z))]
        show some (-1 : Int32) = some (qqO (if Th T e = some q then some q else none))
        rw [if_neg c]; rfl
theorem Tut_lt (hw : Tw T) (hh : ∀ q, h = some q → q < Tn T) {e y : Nat} (hy : Tut T h e = some y) : y < Tn T := by
  unfold Tut at hy
  cases hp : Tp T e with
  | some p => rw [hp] at hy; cases hy; exact (hw.p hp).2.1
  | none =>
    rw [hp] at hy
    cases h with
    | none => cases hy
    | some q =>
      have hy : (if Th T e = some q then some q else none) = some y := hy
      by_cases c : Th T e = some q
      · rw [if_pos c] at hy; cases hy; exact hh _ rfl
      · rw [if_neg c] at hy; cases hy
theorem r_related_103 {f a : Nat} (hf : f < 30) (ha : a < 30) : f_related_103 (nI f) (nI a) σ = some (b2 (a == f)) := by
  unfold f_related_103 f_related_118 f_related_119
  by_cases c : a = f
  · subst c; rw [if_pos rfl, if_neg (nI_pos (by omega)), show (a == a) = true by simp]; rfl
  · rw [if_neg (by rw [nI_eqE (by omega) (by omega)]; exact c), show (a == f) = false by simpa using c]; rfl
theorem r_related_103n {f : Nat} (hf : f < 30) : f_related_103 (nI f) (-1) σ = some (b2 false) := by
  unfold f_related_103
  rw [if_neg (show ¬ (-1 : Int32) = nI f from fun z => by
    have := nI_pos (show f < 2 ^ 31 by omega)
    rw [← z] at this
    exact this (by decide))]
  rfl
theorem r_related_out (hw : Tw T) (hr : RT T σ) (ht : σ.2 71 = qqO h) (hh : ∀ q, h = some q → q < Tn T) {f : Nat} (hf : inT T h f) {ν : Nat → Nat} (h1 : ∀ e q, Tup T e = some q → ν q < ν e) (h2 : ∀ e q, e < Tn T → TH T e = some q → ν q < ν e) : ∀ m y, y < Tn T → (∃ q, h = some q ∧ ν y < ν q) → ν y + 1 < m → f_related_68 m 0 (nI f) (nI y) σ = some (b2 false) := by
  have h30 := hw.n30
  intro m
  induction m with
  | zero => intro y _ _ hm; omega
  | succ m ih =>
    intro y hy hq hm
    obtain ⟨q, rfl, hyq⟩ := hq
    have hqf := inT_rk hw h2 hf
    have hqn := hh q rfl
    have hfn := hf.1
    have hyf : y ≠ f := fun z => by rw [z] at hyq; omega
    have hyq2 : y ≠ q := fun z => by rw [z] at hyq; omega
    rw [f_related_68, if_pos rfl, if_neg (nI_pos (by omega)), if_neg (by rw [nI_eqE (by omega) (by omega)]; exact hyf), ht, qqO_some, if_neg (by rw [nI_eqE (by omega) (by omega)]; exact hyq2), r_up (h := some q) hw hr ht hh hy, qqx]
    unfold Tut
    cases hp : Tp T y with
    | some p =>
      have := h1 y p (Tup_p hp)
      exact ih p (hw.p hp).2.1 ⟨q, rfl, by omega⟩ (by omega)
    | none =>
      have hne : ¬ Th T y = some q := fun z => by
        have := h1 y q (Tup_h hw z)
        omega
      show f_related_68 m 0 (nI f) (qqO (if Th T y = some q then some q else none)) σ = _
      rw [if_neg hne]
      obtain ⟨m, rfl⟩ : ∃ m', m = m' + 1 := ⟨m - 1, by omega⟩
      rw [f_related_68, if_pos rfl, if_pos (show qqO none < 0 from (show (-1 : Int32) < 0 by decide))]
      exact r_related_103n (by omega)
theorem r_related_in (hw : Tw T) (hr : RT T σ) (ht : σ.2 71 = qqO h) (hh : ∀ q, h = some q → q < Tn T) {f : Nat} (hf : inT T h f) {ν : Nat → Nat} (h1 : ∀ e q, Tup T e = some q → ν q < ν e) (h2 : ∀ e q, e < Tn T → TH T e = some q → ν q < ν e) : ∀ m y, inT T h y → ν y + 1 < m → f_related_68 m 0 (nI f) (nI y) σ = some (b2 ((y == f) || TU T f y)) := by
  have h30 := hw.n30
  intro m
  induction m with
  | zero => intro y _ hm; omega
  | succ m ih =>
    intro y hy hm
    have hyn := hy.1
    have hfn := hf.1
    rw [f_related_68, if_pos rfl, if_neg (nI_pos (by omega))]
    by_cases c : y = f
    · subst c
      rw [if_pos rfl, r_related_103 (by omega) (by omega), show (y == y) = true by simp, Bool.true_or]
    rw [if_neg (by rw [nI_eqE (by omega) (by omega)]; exact c), show (y == f) = false by simpa using c, Bool.false_or]
    by_cases d : h = some y
    · subst d
      rw [ht, qqO_some, if_pos rfl, r_related_103 (by omega) (by omega), show (y == f) = false by simpa using c]
      have : TU T f y = false := Bool.eq_false_iff.mpr (fun z => by
        have a := (TU_rk hw h1 y hyn z).2
        have b := inT_rk hw h2 hf
        omega)
      rw [this]
    · have hmb : Tmb T h y = true := hy.2.resolve_right d
      have hne : ¬ nI y = σ.2 71 := by
        rw [ht]
        cases h with
        | none =>
          intro z
          have := nI_pos (show y < 2 ^ 31 by omega)
          rw [z] at this
          exact this (show (-1 : Int32) < 0 by decide)
        | some q => rw [qqO_some, nI_eqE (by omega) (by have := hh q rfl; omega)]; exact fun z => d (by rw [z])
      rw [if_neg hne, r_up hw hr ht hh hyn, qqx, TU_eq hw hyn]
      unfold Tut
      cases hp : Tp T y with
      | some p =>
        have hpn := (hw.p hp).2.1
        have hin : inT T h p := by
          refine ⟨hpn, Or.inl ?_⟩
          cases h with
          | none => rw [Tmb_R] at hmb ⊢; rw [← TR_p hw hp]; exact hmb
          | some q => rw [Tmb_TH] at hmb ⊢; rw [← TH_p hw hp]; exact hmb
        rw [Tup_p hp]
        have := h1 y p (Tup_p hp)
        exact ih p hin (by omega)
      | none =>
        cases h with
        | none =>
          rw [Tmb_R] at hmb
          rw [TR_n hw hyn hp] at hmb
          subst hmb
          rw [Tup_none hp hw.h0]
          obtain ⟨m, rfl⟩ : ∃ m', m = m' + 1 := ⟨m - 1, by omega⟩
          show f_related_68 (m + 1) 0 (nI f) (-1) σ = _
          rw [f_related_68, if_pos rfl, if_pos (by decide)]
          exact r_related_103n (by omega)
        | some q =>
          rw [Tmb_TH, TH_n hw hyn hp] at hmb
          rw [Tup_h hw hmb]
          show f_related_68 m 0 (nI f) (qqO (if Th T y = some q then some q else none)) σ = _
          rw [if_pos hmb]
          have := h1 y q (Tup_h hw hmb)
          exact ih q ⟨hh q rfl, Or.inr rfl⟩ (by omega)
theorem r_siblings (hw : Tw T) (hr : RT T σ) {e f : Nat} (he : e < Tn T) (hf : f < Tn T) : f_siblings (nI e) (nI f) σ = some (b2 (decide (((Tp T e).isSome = true ∧ Tp T e = Tp T f) ∨ ((Th T e).isSome = true ∧ Th T e = Th T f)))) := by
  have h30 := hw.n30
  have key : ∀ o1 o2 : Option Nat, (∀ k, o1 = some k → k < 30) → (∀ k, o2 = some k → k < 30) → ¬ qqO o1 < 0 → (qqO o1 = qqO o2) = (o1 = o2) := by
    intro o1 o2 h1 h2 h3
    cases o1 with
    | none => exact absurd (show qqO none < 0 from (show (-1 : Int32) < 0 by decide)) h3
    | some x =>
      rw [qqO_some]
      refine propext ⟨fun z => ?_, fun z => by rw [← z]; rfl⟩
      exact ((qqO_eqn (o := o2) (x := x) h2 (h1 x rfl)).mp z.symm).symm
  have hp : ∀ x k, Tp T x = some k → k < 30 := fun x k hk => (hw.p30 hk).2
  have hh : ∀ x k, Th T x = some k → k < 30 := fun x k hk => (hw.h30 hk).2
  have s24 : ¬ ((Tp T e).isSome = true ∧ Tp T e = Tp T f) → f_siblings_24 (nI e) (nI f) σ = some (b2 (decide (((Tp T e).isSome = true ∧ Tp T e = Tp T f) ∨ ((Th T e).isSome = true ∧ Th T e = Th T f)))) := by
    intro hn
    unfold f_siblings_24 f_siblings_52 f_siblings_48 f_siblings_53
    rw [hr.h (by omega), qqx]
    cases ho : Th T e with
    | none => rw [if_pos (show qqO none < 0 from (show (-1 : Int32) < 0 by decide)), decide_eq_false (fun z => z.elim hn (fun z => by cases z.1))]; rfl
    | some q =>
      have hq30 := hh e q ho
      have hnn : ¬ qqO (some q) < 0 := nI_pos (by omega)
      rw [if_neg hnn, qqx, hr.h (by omega), qqx]
      have hk := key (some q) (Th T f) (fun k hk => by cases hk; exact hq30) (hh f) hnn
      by_cases c : some q = Th T f
      · rw [if_pos (hk.mpr c), decide_eq_true (Or.inr ⟨rfl, c⟩)]; rfl
      · rw [if_neg (fun z => c (hk.mp z)), decide_eq_false (fun z => z.elim hn (fun z => c z.2))]; rfl
  unfold f_siblings f_siblings_48 f_siblings_53
  rw [hr.p (by omega), qqx]
  by_cases cn : qqO (Tp T e) < 0
  · rw [if_pos cn]
    rw [qqO_m1 (hp e)] at cn
    exact s24 (fun z => by rw [cn] at z; cases z.1)
  · rw [if_neg cn, qqx, hr.p (by omega), qqx]
    have hk := key (Tp T e) (Tp T f) (hp e) (hp f) cn
    have hsome : (Tp T e).isSome = true := by
      cases ho : Tp T e with
      | none => rw [ho] at cn; exact absurd (show qqO none < 0 from (show (-1 : Int32) < 0 by decide)) cn
      | some _ => rfl
    by_cases c : Tp T e = Tp T f
    · rw [if_pos (hk.mpr c), decide_eq_true (Or.inl ⟨hsome, c⟩)]; rfl
    · rw [if_neg (fun z => c (hk.mp z))]
      exact s24 (fun z => c z.2)
theorem sib_mem (hw : Tw T) {e f : Nat} (h : ((Tp T e).isSome = true ∧ Tp T e = Tp T f) ∨ ((Th T e).isSome = true ∧ Th T e = Th T f)) : f ∈ Tsb T e ∧ (Tsb T f = Tsb T e) := by
  rcases h with ⟨h1, h2⟩ | ⟨h1, h2⟩
  · cases hp : Tp T e with
    | none => rw [hp] at h1; cases h1
    | some p =>
      rw [hp] at h2
      have h3 := h2.symm
      rw [Tsb_p hp, Tsb_p h3]
      exact ⟨(hw.p h3).2.2, rfl⟩
  · cases hp : Th T e with
    | none => rw [hp] at h1; cases h1
    | some p =>
      rw [hp] at h2
      have h3 := h2.symm
      rw [Tsb_h hw hp, Tsb_h hw h3]
      exact ⟨(hw.h h3).2.2, rfl⟩
theorem mem_sib (hw : Tw T) {e f : Nat} (h : f ∈ Tsb T e) (hne : f ≠ e) : ((Tp T e).isSome = true ∧ Tp T e = Tp T f) ∨ ((Th T e).isSome = true ∧ Th T e = Th T f) := by
  have hs := Tsb_same hw h
  cases hp : Tp T e with
  | some p => exact Or.inl ⟨rfl, by rw [← hp]; exact hs.1.symm⟩
  | none =>
    cases hh : Th T e with
    | some q => exact Or.inr ⟨rfl, by rw [← hh]; exact hs.2.1.symm⟩
    | none => rw [Tsb_n hp hh] at h; exact absurd (List.mem_singleton.mp h) hne
theorem r_rel29 {c : Nat} (h2 : 2 ≤ c) (hc : c < 4) (y : Int32) : f_related_29 (nI c) y σ = some (b2 (if c = 2 then decide (y = 1) else decide (¬ y ≤ 0))) := by
  unfold f_related_29 f_related_60
  by_cases c2 : c = 2
  · subst c2
    rw [if_pos (by decide), if_pos rfl]
    by_cases d : y = 1
    · rw [if_pos d, decide_eq_true d]; rfl
    · rw [if_neg d, decide_eq_false d]; rfl
  · rw [if_neg (show ¬ nI c = 2 from fun z => c2 ((nI_is (by omega) (by decide)).mp z)), if_neg c2]
    by_cases d : y ≤ 0
    · rw [if_pos d, decide_eq_false (fun z => z d)]; rfl
    · rw [if_neg d, decide_eq_true d]; rfl
theorem Trl_2 {c e f : Nat} (h2 : 2 ≤ c) : Trl T c e f = if c = 2 then decide (Tpv T e = some f) else decide (f ∈ Tsb T e ∧ Tix T f < Tix T e) := by
  unfold Trl
  rw [if_neg (by omega), if_neg (by omega)]
theorem r_related (hw : Tw T) (hr : RT T σ) (ht : σ.2 71 = qqO h) (hh : ∀ q, h = some q → q < Tn T) {c e f : Nat} (hc : c < 4) (he : inT T h e) (hf : inT T h f) : f_related (nI c) (nI e) (nI f) σ = some (b2 (Trl T c e f)) := by
  have h30 := hw.n30
  have hen := he.1
  have hfn := hf.1
  obtain ⟨ν, n1, n2, n3, n4⟩ := hw.rkb
  unfold f_related
  by_cases cc : c ≤ 1
  · rw [if_pos (show nI c ≤ 1 from nI_le (b := 1) cc (by decide)), r_up hw hr ht hh hen, qqx]
    have climb : ∀ y, Tut T h e = some y → Tup T e = some y ∧ inT T h y ∨ (∃ q, h = some q ∧ ν y < ν q) := by
      intro y hy
      have hyn := Tut_lt hw hh hy
      unfold Tut at hy
      by_cases d : h = some e
      · right
        subst d
        cases hp : Tp T e with
        | some p => rw [hp] at hy; cases hy; exact ⟨e, rfl, n2 e _ hp⟩
        | none =>
          rw [hp] at hy
          have hy : (if Th T e = some e then some e else none) = some y := hy
          by_cases d2 : Th T e = some e
          · have := n3 e e (Tup_h hw d2); omega
          · rw [if_neg d2] at hy; cases hy
      · left
        have hmb := he.2.resolve_right d
        cases hp : Tp T e with
        | some p =>
          rw [hp] at hy; cases hy
          refine ⟨Tup_p hp, hyn, Or.inl ?_⟩
          cases h with
          | none => rw [Tmb_R] at hmb ⊢; rw [← TR_p hw hp]; exact hmb
          | some q => rw [Tmb_TH] at hmb ⊢; rw [← TH_p hw hp]; exact hmb
        | none =>
          rw [hp] at hy
          cases h with
          | none => cases hy
          | some q =>
            rw [Tmb_TH, TH_n hw hen hp] at hmb
            have hy : (if Th T e = some q then some q else none) = some y := hy
            rw [if_pos hmb] at hy
            cases hy
            exact ⟨Tup_h hw hmb, hyn, Or.inr rfl⟩
    have nclimb : Tut T h e = none → ∀ y, Tup T e = some y → h = some e := by
      intro hn y hy
      unfold Tut at hn
      cases hp : Tp T e with
      | some p => rw [hp] at hn; cases hn
      | none =>
        rw [hp] at hn
        rcases he.2 with hmb | hmb
        · cases h with
          | none =>
            rw [Tmb_R, TR_n hw hen hp] at hmb
            rw [hmb, Tup_none hw.p0 hw.h0] at hy
            cases hy
          | some q =>
            rw [Tmb_TH, TH_n hw hen hp] at hmb
            have hn : (if Th T e = some q then some q else none) = none := hn
            rw [if_pos hmb] at hn
            cases hn
        · exact hmb
    have nohost : h = some e → TU T f e = false ∧ ¬ Tup T e = some f := by
      intro hhe
      subst hhe
      have b := inT_rk hw n4 hf
      refine ⟨Bool.eq_false_iff.mpr (fun z => ?_), fun z => ?_⟩
      · have a := (TU_rk hw n3 e hen z).2; omega
      · have a := n3 e f z; omega
    by_cases c0 : c = 0
    · subst c0
      unfold Trl
      rw [if_pos rfl]
      cases hy : Tut T h e with
      | none =>
        rw [show qqO none = -1 from rfl]
        have : TU T f e = false := by
          cases hu : Tup T e with
          | none => rw [TU_eq hw hen, hu]
          | some y => exact (nohost (nclimb hy y hu)).1
        rw [this]
        show f_related_68 (3999 + 1) 0 (nI f) (-1) σ = _
        rw [f_related_68, if_pos rfl, if_pos (by decide)]
        exact r_related_103n (by omega)
      | some y =>
        have hyn := Tut_lt hw hh hy
        have hy30 := n1 y hyn
        rw [qqO_some]
        rcases climb y hy with ⟨hu, hin⟩ | ho
        · have := r_related_in hw hr ht hh hf n3 n4 4000 y hin (by omega)
          rw [TU_eq hw hen, hu]
          exact this
        · have h2 := ho
          obtain ⟨q, hq, hlt⟩ := h2
          have : TU T f e = false := by
            refine Bool.eq_false_iff.mpr (fun z => ?_)
            have hhe : h = some e := by
              rcases he.2 with hmb | hmb
              · exfalso
                subst hq
                unfold Tut at hy
                rw [Tmb_TH] at hmb
                cases hp : Tp T e with
                | some p =>
                  rw [hp] at hy; cases hy
                  rw [TH_p hw hp] at hmb
                  have := n4 _ q hyn hmb
                  omega
                | none =>
                  rw [hp] at hy
                  have hy : (if Th T e = some q then some q else none) = some y := hy
                  by_cases d2 : Th T e = some q
                  · rw [if_pos d2] at hy; cases hy; omega
                  · rw [if_neg d2] at hy; cases hy
              · exact hmb
            rw [(nohost hhe).1] at z; cases z
          rw [this]
          exact r_related_out hw hr ht hh hf n3 n4 4000 y hyn ho (by omega)
    · have c1 : c = 1 := by omega
      subst c1
      unfold Trl
      rw [if_neg (by decide), if_pos rfl]
      cases hy : Tut T h e with
      | none =>
        rw [show qqO none = -1 from rfl]
        have : ¬ Tup T e = some f := fun z => (nohost (nclimb hy f z)).2 z
        rw [decide_eq_false this]
        show f_related_68 (3999 + 1) 1 (nI f) (-1) σ = _
        rw [f_related_68, if_neg (by decide)]
        exact r_related_103n (by omega)
      | some y =>
        have hyn := Tut_lt hw hh hy
        rw [qqO_some]
        show f_related_68 (3999 + 1) 1 (nI f) (nI y) σ = _
        rw [f_related_68, if_neg (by decide), r_related_103 (by omega) (by omega)]
        rcases climb y hy with ⟨hu, hin⟩ | ho
        · rw [hu, show (y == f) = decide (some y = some f) by simp [Bool.beq_eq_decide_eq, Nat.beq_eq_true_eq, BEq.beq]]
        · obtain ⟨q, hq, hlt⟩ := ho
          subst hq
          have b := inT_rk hw n4 hf
          have hyf : y ≠ f := fun z => by rw [z] at hlt; omega
          have : ¬ Tup T e = some f := fun z => by
            have hhe : some q = some e := by
              rcases he.2 with hmb | hmb
              · exfalso
                rw [Tmb_TH] at hmb
                unfold Tut at hy
                cases hp : Tp T e with
                | some p =>
                  rw [hp] at hy; cases hy
                  rw [TH_p hw hp] at hmb
                  have := n4 _ q hyn hmb
                  omega
                | none =>
                  rw [hp] at hy
                  have hy : (if Th T e = some q then some q else none) = some y := hy
                  by_cases d2 : Th T e = some q
                  · rw [if_pos d2] at hy; cases hy; omega
                  · rw [if_neg d2] at hy; cases hy
              · exact hmb
            exact (nohost hhe).2 z
          rw [decide_eq_false this, show (y == f) = false by simpa using hyf]
  · rw [if_neg (show ¬ nI c ≤ 1 from nI_ge (a := 1) (b := c) (by omega) (by omega)), r_siblings hw hr hen hfn, qqx, b2_i0]
    rw [Trl_2 (by omega)]
    have te := Tix_30 hw hen
    have tf := Tix_30 hw hfn
    by_cases cs : ((Tp T e).isSome = true ∧ Tp T e = Tp T f) ∨ ((Th T e).isSome = true ∧ Th T e = Th T f)
    · obtain ⟨m1, m2⟩ := sib_mem hw cs
      rw [if_pos (decide_eq_true cs), r_placeOf hw hr hen, qqx, r_placeOf hw hr hfn, qqx, r_rel29 (by omega) hc]
      have hgf := Tix_get hw f
      rw [m2] at hgf
      by_cases c2 : c = 2
      · rw [if_pos c2, if_pos c2]
        have hiff : (nI (Tix T e) - nI (Tix T f) = 1) ↔ (Tpv T e = some f) := by
          refine ⟨fun z => ?_, fun z => ?_⟩
          · have h5 := congrArg Int32.toInt z
            rw [pk_sub_toInt (by omega) (by omega), show (1 : Int32).toInt = 1 by decide] at h5
            unfold Tpv
            rw [if_neg (by omega), show Tix T e - 1 = Tix T f by omega]
            exact hgf
          · have := (Tpv_some hw z).2.2.2.2
            refine Int32.toInt_inj.mp ?_
            rw [pk_sub_toInt (by omega) (by omega), show (1 : Int32).toInt = 1 by decide]
            omega
        rw [decide_eq_decide.mpr hiff]
      · rw [if_neg c2, if_neg c2]
        have hiff : ¬ (nI (Tix T e) - nI (Tix T f) ≤ 0) ↔ (f ∈ Tsb T e ∧ Tix T f < Tix T e) := by
          rw [Int32.le_iff_toInt_le, pk_sub_toInt (by omega) (by omega), show (0 : Int32).toInt = 0 by decide]
          exact ⟨fun z => ⟨m1, by omega⟩, fun z => by omega⟩
        rw [decide_eq_decide.mpr hiff]
    · rw [if_neg (by rw [decide_eq_true_eq]; exact cs), r_rel29 (by omega) hc]
      by_cases c2 : c = 2
      · rw [if_pos c2, if_pos c2]
        have : ¬ Tpv T e = some f := fun z => by
          have := Tpv_some hw z
          exact cs (mem_sib hw this.1 (fun w => by rw [w] at this; omega))
        rw [decide_eq_false this]; rfl
      · rw [if_neg c2, if_neg c2]
        have : ¬ (f ∈ Tsb T e ∧ Tix T f < Tix T e) := fun z => cs (mem_sib hw z.1 (fun w => by rw [w] at z; omega))
        rw [decide_eq_false this]; rfl
end CB
