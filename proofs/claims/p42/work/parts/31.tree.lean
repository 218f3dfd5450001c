abbrev qqT : Type := Nat × (Nat → Option Nat) × (Nat → Option Nat) × (Nat → List Nat) × (Nat → List Nat) × (Nat → Bool) × (Nat → Bool) × (Nat → Int32)
abbrev Tn (T : qqT) : Nat := T.1
abbrev Tp (T : qqT) : Nat → Option Nat := T.2.1
abbrev Th (T : qqT) : Nat → Option Nat := T.2.2.1
abbrev Tc (T : qqT) : Nat → List Nat := T.2.2.2.1
abbrev Tt (T : qqT) : Nat → List Nat := T.2.2.2.2.1
abbrev Ts (T : qqT) : Nat → Bool := T.2.2.2.2.2.1
abbrev Tk (T : qqT) : Nat → Bool := T.2.2.2.2.2.2.1
abbrev Ta (T : qqT) : Nat → Int32 := T.2.2.2.2.2.2.2
def Tw (T : qqT) : Prop :=
  (1 ≤ Tn T ∧ Tn T ≤ 30) ∧ (∀ e p, Tp T e = some p → e < Tn T ∧ p < Tn T ∧ e ∈ Tc T p) ∧ (∀ p e, e ∈ Tc T p → Tp T e = some p) ∧
  (∀ e h, Th T e = some h → e < Tn T ∧ h < Tn T ∧ e ∈ Tt T h) ∧ (∀ h e, e ∈ Tt T h → Th T e = some h) ∧
  (∀ p, (Tc T p).Nodup) ∧ (∀ h, (Tt T h).Nodup) ∧ (∀ e, Tp T e = none ∨ Th T e = none) ∧ (∀ e h, Th T e = some h → Ts T h = true) ∧
  (Tp T 0 = none ∧ Th T 0 = none) ∧ ∃ rk : Nat → Nat, (∀ e p, Tp T e = some p → rk p < rk e) ∧ (∀ e h, Th T e = some h → rk h < rk e)
section TW
variable {T : qqT}
theorem Tw.n1 (h : Tw T) : 1 ≤ Tn T := h.1.1
theorem Tw.n30 (h : Tw T) : Tn T ≤ 30 := h.1.2
theorem Tw.p (h : Tw T) {e p : Nat} (he : Tp T e = some p) : e < Tn T ∧ p < Tn T ∧ e ∈ Tc T p := h.2.1 e p he
theorem Tw.c (h : Tw T) {e p : Nat} (he : e ∈ Tc T p) : Tp T e = some p := h.2.2.1 p e he
theorem Tw.h (h : Tw T) {e p : Nat} (he : Th T e = some p) : e < Tn T ∧ p < Tn T ∧ e ∈ Tt T p := h.2.2.2.1 e p he
theorem Tw.t (h : Tw T) {e p : Nat} (he : e ∈ Tt T p) : Th T e = some p := h.2.2.2.2.1 p e he
theorem Tw.cd (h : Tw T) (p : Nat) : (Tc T p).Nodup := h.2.2.2.2.2.1 p
theorem Tw.td (h : Tw T) (p : Nat) : (Tt T p).Nodup := h.2.2.2.2.2.2.1 p
theorem Tw.ph (h : Tw T) (e : Nat) : Tp T e = none ∨ Th T e = none := h.2.2.2.2.2.2.2.1 e
theorem Tw.s (h : Tw T) {e p : Nat} (he : Th T e = some p) : Ts T p = true := h.2.2.2.2.2.2.2.2.1 e p he
theorem Tw.p0 (h : Tw T) : Tp T 0 = none := h.2.2.2.2.2.2.2.2.2.1.1
theorem Tw.h0 (h : Tw T) : Th T 0 = none := h.2.2.2.2.2.2.2.2.2.1.2
theorem Tw.rk (h : Tw T) : ∃ rk : Nat → Nat, (∀ e p, Tp T e = some p → rk p < rk e) ∧ (∀ e h, Th T e = some h → rk h < rk e) := h.2.2.2.2.2.2.2.2.2.2
theorem Tw.pn (h : Tw T) {e p : Nat} (he : Tp T e = some p) : Th T e = none := (h.ph e).resolve_left (by rw [he]; exact fun z => by cases z)
theorem Tw.clt (h : Tw T) {e p : Nat} (he : e ∈ Tc T p) : e < Tn T ∧ p < Tn T := ⟨(h.p (h.c he)).1, (h.p (h.c he)).2.1⟩
theorem Tw.tlt (h : Tw T) {e p : Nat} (he : e ∈ Tt T p) : e < Tn T ∧ p < Tn T := ⟨(h.h (h.t he)).1, (h.h (h.t he)).2.1⟩
theorem Tw.clen (h : Tw T) (p : Nat) : (Tc T p).length ≤ Tn T := qqPig _ _ (h.cd p) (fun _ hx => (h.clt hx).1)
theorem Tw.tlen (h : Tw T) (p : Nat) : (Tt T p).length ≤ Tn T := qqPig _ _ (h.td p) (fun _ hx => (h.tlt hx).1)
def Tup (T : qqT) (e : Nat) : Option Nat := match Tp T e with
  | some p => some p
  | none => Th T e
theorem Tup_p {e p : Nat} (h : Tp T e = some p) : Tup T e = some p := by unfold Tup; rw [h]
theorem Tup_h (hw : Tw T) {e p : Nat} (h : Th T e = some p) : Tup T e = some p := by
  unfold Tup
  rw [(hw.ph e).resolve_right (by rw [h]; exact fun z => by cases z)]
  exact h
theorem Tup_cases (h : Tw T) {e q : Nat} (hq : Tup T e = some q) : Tp T e = some q ∨ (Tp T e = none ∧ Th T e = some q) := by
  unfold Tup at hq
  cases hp : Tp T e with
  | some p => rw [hp] at hq; exact Or.inl hq
  | none => rw [hp] at hq; exact Or.inr ⟨rfl, hq⟩
theorem Tup_none {e : Nat} (h1 : Tp T e = none) (h2 : Th T e = none) : Tup T e = none := by
  unfold Tup
  rw [h1]
  exact h2
theorem Tw.up (h : Tw T) {e q : Nat} (hq : Tup T e = some q) : e < Tn T ∧ q < Tn T := by
  rcases Tup_cases h hq with h1 | ⟨_, h1⟩
  · exact ⟨(h.p h1).1, (h.p h1).2.1⟩
  · exact ⟨(h.h h1).1, (h.h h1).2.1⟩
theorem Tw.rkup (h : Tw T) : ∃ rk : Nat → Nat, ∀ e q, Tup T e = some q → rk q < rk e := by
  obtain ⟨rk, h1, h2⟩ := h.rk
  refine ⟨rk, fun e q hq => ?_⟩
  rcases Tup_cases h hq with h3 | ⟨_, h3⟩
  · exact h1 e q h3
  · exact h2 e q h3
def TR (T : qqT) (e : Nat) : Nat := qqIt (fun e => e) (fun _ r => r) (Tp T) 30 e
theorem TR_eq (h : Tw T) {e : Nat} (he : e < Tn T) : TR T e = match Tp T e with
    | none => e
    | some q => TR T q := by
  obtain ⟨rk, h1, -⟩ := h.rk
  exact qqIt_eq h.n30 (fun e q _ hs => ⟨(h.p hs).2.1, h1 e q hs⟩) he
theorem TR_p (h : Tw T) {e p : Nat} (hp : Tp T e = some p) : TR T e = TR T p := by
  rw [TR_eq h (h.p hp).1, hp]
theorem TR_n (h : Tw T) {e : Nat} (he : e < Tn T) (hp : Tp T e = none) : TR T e = e := by
  rw [TR_eq h he, hp]
theorem TR_top (h : Tw T) : ∀ e, e < Tn T → TR T e < Tn T ∧ Tp T (TR T e) = none := by
  obtain ⟨rk, h1, -⟩ := h.rk
  intro e
  refine qqInd (st := Tp T) (μ := rk) (P := fun e => e < Tn T → TR T e < Tn T ∧ Tp T (TR T e) = none) ?_ e
  intro e ih he
  cases hp : Tp T e with
  | none => rw [TR_n h he hp]; exact ⟨he, hp⟩
  | some q => rw [TR_p h hp]; exact ih q hp (h1 e q hp) (h.p hp).2.1
def TH (T : qqT) (e : Nat) : Option Nat := Th T (TR T e)
theorem TH_p (h : Tw T) {e p : Nat} (hp : Tp T e = some p) : TH T e = TH T p := by unfold TH; rw [TR_p h hp]
theorem TH_n (h : Tw T) {e : Nat} (he : e < Tn T) (hp : Tp T e = none) : TH T e = Th T e := by unfold TH; rw [TR_n h he hp]
theorem TH_h (h : Tw T) {e p : Nat} (hp : Th T e = some p) : TH T e = some p := by
  rw [TH_n h (h.h hp).1 ((h.ph e).resolve_right (by rw [hp]; exact fun z => by cases z)), hp]
theorem TH_lt (h : Tw T) {e p : Nat} (hp : TH T e = some p) : p < Tn T ∧ Ts T p = true := ⟨(h.h hp).2.1, h.s hp⟩
theorem TH_rk (h : Tw T) : ∃ rk : Nat → Nat, (∀ e q, Tup T e = some q → rk q < rk e) ∧ ∀ e q, e < Tn T → TH T e = some q → rk q < rk e := by
  obtain ⟨rk, h1, h2⟩ := h.rk
  refine ⟨rk, ?_, ?_⟩
  · intro e q hq
    rcases Tup_cases h hq with h3 | ⟨_, h3⟩
    · exact h1 e q h3
    · exact h2 e q h3
  · intro e
    refine qqInd (st := Tp T) (μ := rk) (P := fun e => ∀ q, e < Tn T → TH T e = some q → rk q < rk e) ?_ e
    intro e ih q he hq
    cases hp : Tp T e with
    | none => rw [TH_n h he hp] at hq; exact h2 e q hq
    | some p =>
      rw [TH_p h hp] at hq
      have a := ih p hp (h1 e p hp) q (h.p hp).2.1 hq
      have b := h1 e p hp
      omega
def TD (T : qqT) (e : Nat) : Bool := qqIt (fun e => decide (TR T e = 0)) (fun _ r => r) (TH T) 30 e
theorem TD_eq (h : Tw T) {e : Nat} (he : e < Tn T) : TD T e = match TH T e with
    | none => decide (TR T e = 0)
    | some q => TD T q := by
  obtain ⟨rk, -, h1⟩ := TH_rk h
  exact qqIt_eq h.n30 (fun e q he hs => ⟨(TH_lt h hs).1, h1 e q he hs⟩) he
def TL (T : qqT) (e : Nat) : Nat := qqIt (fun _ => 0) (fun _ r => r + 1) (TH T) 30 e
theorem TL_eq (h : Tw T) {e : Nat} (he : e < Tn T) : TL T e = match TH T e with
    | none => 0
    | some q => TL T q + 1 := by
  obtain ⟨rk, -, h1⟩ := TH_rk h
  exact qqIt_eq h.n30 (fun e q he hs => ⟨(TH_lt h hs).1, h1 e q he hs⟩) he
theorem TR_0 (h : Tw T) : TR T 0 = 0 := TR_n h (by have := h.n1; omega) h.p0
theorem TH_0 (h : Tw T) : TH T 0 = none := by unfold TH; rw [TR_0 h]; exact h.h0
theorem TD_0 (h : Tw T) : TD T 0 = true := by rw [TD_eq h (by have := h.n1; omega), TH_0 h]; simp [TR_0 h]
theorem TD_R (h : Tw T) {e : Nat} (he : e < Tn T) : TD T e = if TR T e = 0 then true else match Th T (TR T e) with
    | none => false
    | some q => TD T q := by
  rw [TD_eq h he]
  by_cases hr : TR T e = 0
  · have : TH T e = none := by unfold TH; rw [hr]; exact h.h0
    rw [this]; simp [hr]
  · show (match Th T (TR T e) with
      | none => decide (TR T e = 0)
      | some q => TD T q) = _
    rw [if_neg hr]
    cases Th T (TR T e) with
    | none => simp [hr]
    | some q => rfl
def Tsb (T : qqT) (e : Nat) : List Nat := match Tp T e with
  | some p => Tc T p
  | none => match Th T e with
    | some q => Tt T q
    | none => [e]
def Tix (T : qqT) (e : Nat) : Nat := (Tsb T e).idxOf e
def Tnx (T : qqT) (e : Nat) : Option Nat := (Tsb T e)[Tix T e + 1]?
def Tpv (T : qqT) (e : Nat) : Option Nat := if Tix T e = 0 then none else (Tsb T e)[Tix T e - 1]?
theorem Tsb_p {e p : Nat} (hp : Tp T e = some p) : Tsb T e = Tc T p := by unfold Tsb; rw [hp]
theorem Tsb_h (h : Tw T) {e p : Nat} (hp : Th T e = some p) : Tsb T e = Tt T p := by
  unfold Tsb
  rw [(h.ph e).resolve_right (by rw [hp]; exact fun z => by cases z), hp]
theorem Tsb_n {e : Nat} (hp : Tp T e = none) (hh : Th T e = none) : Tsb T e = [e] := by unfold Tsb; rw [hp, hh]
theorem Tsb_mem (h : Tw T) (e : Nat) : e ∈ Tsb T e := by
  cases hp : Tp T e with
  | some p => rw [Tsb_p hp]; exact (h.p hp).2.2
  | none =>
    cases hh : Th T e with
    | some q => rw [Tsb_h h hh]; exact (h.h hh).2.2
    | none => rw [Tsb_n hp hh]; exact List.mem_singleton.mpr rfl
theorem Tsb_nodup (h : Tw T) (e : Nat) : (Tsb T e).Nodup := by
  cases hp : Tp T e with
  | some p => rw [Tsb_p hp]; exact h.cd p
  | none =>
    cases hh : Th T e with
    | some q => rw [Tsb_h h hh]; exact h.td q
    | none => rw [Tsb_n hp hh]; simp
theorem Tsb_same (h : Tw T) {e f : Nat} (hf : f ∈ Tsb T e) : Tp T f = Tp T e ∧ Th T f = Th T e ∧ Tsb T f = Tsb T e := by
  cases hp : Tp T e with
  | some p =>
    rw [Tsb_p hp] at hf
    have h1 := h.c hf
    exact ⟨h1, by rw [h.pn h1, h.pn hp], by rw [Tsb_p h1, Tsb_p hp]⟩
  | none =>
    cases hh : Th T e with
    | some q =>
      rw [Tsb_h h hh] at hf
      have h1 := h.t hf
      exact ⟨(h.ph f).resolve_right (by rw [h1]; exact fun z => by cases z), h1, by rw [Tsb_h h h1, Tsb_h h hh]⟩
    | none =>
      rw [Tsb_n hp hh] at hf
      have := List.mem_singleton.mp hf
      subst this
      exact ⟨hp, hh, rfl⟩
theorem Tsb_lt (h : Tw T) {e f : Nat} (he : e < Tn T) (hf : f ∈ Tsb T e) : f < Tn T := by
  cases hp : Tp T e with
  | some p => rw [Tsb_p hp] at hf; exact (h.clt hf).1
  | none =>
    cases hh : Th T e with
    | some q => rw [Tsb_h h hh] at hf; exact (h.tlt hf).1
    | none => rw [Tsb_n hp hh] at hf; rw [List.mem_singleton.mp hf]; exact he
theorem Tix_lt (h : Tw T) (e : Nat) : Tix T e < (Tsb T e).length := List.idxOf_lt_length_of_mem (Tsb_mem h e)
theorem Tix_get (h : Tw T) (e : Nat) : (Tsb T e)[Tix T e]? = some e := by
  rw [List.getElem?_eq_getElem (Tix_lt h e)]
  exact congrArg some (List.getElem_idxOf (Tix_lt h e))
theorem Tsb_len (h : Tw T) {e : Nat} (he : e < Tn T) : (Tsb T e).length ≤ Tn T := qqPig _ _ (Tsb_nodup h e) (fun _ hx => Tsb_lt h he hx)
theorem Tix_30 (h : Tw T) {e : Nat} (he : e < Tn T) : Tix T e < 30 := by
  have := Tix_lt h e
  have := Tsb_len h he
  have := h.n30
  omega
theorem Tix_at (h : Tw T) {e f k : Nat} (hk : (Tsb T e)[k]? = some f) : Tix T f = k := by
  have hf : f ∈ Tsb T e := List.mem_of_getElem? hk
  have hs := (Tsb_same h hf).2.2
  unfold Tix
  rw [hs]
  obtain ⟨h1, h2⟩ := List.getElem?_eq_some_iff.mp hk
  rw [← h2]
  exact List.Nodup.idxOf_getElem (Tsb_nodup h e) k h1
theorem Tnx_some (h : Tw T) {e f : Nat} (hf : Tnx T e = some f) : f ∈ Tsb T e ∧ Tp T f = Tp T e ∧ Th T f = Th T e ∧ Tsb T f = Tsb T e ∧ Tix T f = Tix T e + 1 := by
  have h1 : f ∈ Tsb T e := List.mem_of_getElem? hf
  have h2 := Tsb_same h h1
  exact ⟨h1, h2.1, h2.2.1, h2.2.2, Tix_at h hf⟩
theorem Tpv_some (h : Tw T) {e f : Nat} (hf : Tpv T e = some f) : f ∈ Tsb T e ∧ Tp T f = Tp T e ∧ Th T f = Th T e ∧ Tsb T f = Tsb T e ∧ Tix T f + 1 = Tix T e := by
  unfold Tpv at hf
  by_cases h0 : Tix T e = 0
  · rw [if_pos h0] at hf; cases hf
  · rw [if_neg h0] at hf
    have h1 : f ∈ Tsb T e := List.mem_of_getElem? hf
    have h2 := Tsb_same h h1
    have h3 := Tix_at h hf
    exact ⟨h1, h2.1, h2.2.1, h2.2.2, by omega⟩
theorem Tnx_lt (h : Tw T) {e f : Nat} (he : e < Tn T) (hf : Tnx T e = some f) : f < Tn T := Tsb_lt h he (Tnx_some h hf).1
theorem Tpv_lt (h : Tw T) {e f : Nat} (he : e < Tn T) (hf : Tpv T e = some f) : f < Tn T := Tsb_lt h he (Tpv_some h hf).1
def Twt (T : qqT) (e : Nat) : Nat := if (Tp T e).isSome then Tix T e + 32 else Tix T e + 1
def TC (T : qqT) (e : Nat) : Nat × Nat := qqIt (fun _ => (0, 0)) (fun e r => (r.1 + Twt T e * 64 ^ (29 - r.2), r.2 + 1)) (Tup T) 30 e
theorem TC_up (h : Tw T) {e q : Nat} (hq : Tup T e = some q) : TC T e = ((TC T q).1 + Twt T e * 64 ^ (29 - (TC T q).2), (TC T q).2 + 1) := by
  obtain ⟨rk, h1⟩ := h.rkup
  have := qqIt_eq (fin := fun _ => (0, 0)) (f := fun e (r : Nat × Nat) => (r.1 + Twt T e * 64 ^ (29 - r.2), r.2 + 1)) h.n30 (fun e q _ hs => ⟨(h.up hs).2, h1 e q hs⟩) (h.up hq).1
  rw [hq] at this
  exact this
theorem TC_n (h : Tw T) {e : Nat} (he : e < Tn T) (hq : Tup T e = none) : TC T e = (0, 0) := by
  obtain ⟨rk, h1⟩ := h.rkup
  have := qqIt_eq (fin := fun _ => (0, 0)) (f := fun e (r : Nat × Nat) => (r.1 + Twt T e * 64 ^ (29 - r.2), r.2 + 1)) h.n30 (fun e q _ hs => ⟨(h.up hs).2, h1 e q hs⟩) he
  rw [hq] at this
  exact this
theorem TC_29 (h : Tw T) : ∀ e, e < Tn T → (TC T e).2 ≤ 29 := by
  obtain ⟨rk, h1⟩ := h.rkup
  obtain ⟨ν, h2, h3⟩ := qqRk (Tn T) rk
  have key : ∀ e, e < Tn T → (TC T e).2 ≤ ν e := by
    intro e
    refine qqInd (st := Tup T) (μ := rk) (P := fun e => e < Tn T → (TC T e).2 ≤ ν e) ?_ e
    intro e ih he
    cases hu : Tup T e with
    | none => rw [TC_n h he hu]; exact Nat.zero_le _
    | some q =>
      rw [TC_up h hu]
      have a := ih q hu (h1 e q hu) (h.up hu).2
      have b := h3 q e (h.up hu).2 he (h1 e q hu)
      show (TC T q).2 + 1 ≤ ν e
      omega
  intro e he
  have a := key e he
  have b := h2 e he
  have := h.n30
  omega
theorem Twt_lt (h : Tw T) {e : Nat} (he : e < Tn T) : 1 ≤ Twt T e ∧ Twt T e ≤ 62 := by
  have := Tix_30 h he
  unfold Twt
  split <;> omega
def TC9 (T : qqT) (e : Nat) : Nat := (TC T e).1 + 64 ^ (30 - (TC T e).2)
theorem TC_in (h : Tw T) {e q : Nat} (hq : Tup T e = some q) : (TC T q).1 < (TC T e).1 ∧ TC9 T e ≤ TC9 T q := by
  have hd := TC_29 h q (h.up hq).2
  have hw := Twt_lt h (h.up hq).1
  have hp : 0 < 64 ^ (29 - (TC T q).2) := Nat.pow_pos (by decide)
  have e1 : 64 ^ (30 - (TC T q).2) = 64 * 64 ^ (29 - (TC T q).2) := by
    rw [show 30 - (TC T q).2 = (29 - (TC T q).2) + 1 by omega, Nat.pow_succ, Nat.mul_comm]
  unfold TC9
  rw [TC_up h hq]
  show (TC T q).1 < (TC T q).1 + Twt T e * 64 ^ (29 - (TC T q).2) ∧ (TC T q).1 + Twt T e * 64 ^ (29 - (TC T q).2) + 64 ^ (30 - ((TC T q).2 + 1)) ≤ (TC T q).1 + 64 ^ (30 - (TC T q).2)
  rw [e1, show 30 - ((TC T q).2 + 1) = 29 - (TC T q).2 by omega]
  generalize 64 ^ (29 - (TC T q).2) = z at hp ⊢
  have h1 : 1 * z ≤ Twt T e * z := Nat.mul_le_mul_right z hw.1
  have h2 : Twt T e * z ≤ 62 * z := Nat.mul_le_mul_right z hw.2
  omega
def Tan (T : qqT) (x e : Nat) : Prop := ∃ k : Nat, qqIt (fun e => e) (fun _ r => r) (Tup T) k e = x
theorem Tan_rf (x : Nat) : Tan T x x := ⟨0, rfl⟩
theorem Tan_up {x e q : Nat} (hq : Tup T e = some q) (h : Tan T x q) : Tan T x e := by
  obtain ⟨k, hk⟩ := h
  refine ⟨k + 1, ?_⟩
  show (match Tup T e with
    | none => e
    | some q => qqIt (fun e => e) (fun _ r => r) (Tup T) k q) = x
  rw [hq]
  exact hk
theorem Tan_in (h : Tw T) {x : Nat} : ∀ e, Tan T x e → (TC T x).1 ≤ (TC T e).1 ∧ TC9 T e ≤ TC9 T x := by
  intro e ⟨k, hk⟩
  induction k generalizing e with
  | zero =>
    have : e = x := hk
    subst this
    exact ⟨Nat.le_refl _, Nat.le_refl _⟩
  | succ k ih =>
    have hk : (match Tup T e with
      | none => e
      | some q => qqIt (fun e => e) (fun _ r => r) (Tup T) k q) = x := hk
    cases hu : Tup T e with
    | none =>
      rw [hu] at hk
      have hk : e = x := hk
      subst hk
      exact ⟨Nat.le_refl _, Nat.le_refl _⟩
    | some q =>
      rw [hu] at hk
      have a := ih q hk
      have b := TC_in h hu
      omega
theorem TC9_pos (e : Nat) : (TC T e).1 < TC9 T e := by
  have : 0 < 64 ^ (30 - (TC T e).2) := Nat.pow_pos (by decide)
  unfold TC9
  omega
theorem TC_nx (h : Tw T) {e f : Nat} (he : e < Tn T) (hf : Tnx T e = some f) : TC9 T e ≤ (TC T f).1 := by
  obtain ⟨h1, h2, h3, h4, h5⟩ := Tnx_some h hf
  have hu : ∃ q, Tup T e = some q := by
    cases hp : Tp T e with
    | some p => exact ⟨p, Tup_p hp⟩
    | none =>
      cases hh : Th T e with
      | some q => exact ⟨q, Tup_h h hh⟩
      | none =>
        unfold Tnx at hf
        rw [Tsb_n hp hh] at hf
        have : Tix T e < 1 := by have := Tix_lt h e; rw [Tsb_n hp hh] at this; exact this
        rw [show Tix T e = 0 by omega] at hf
        cases hf
  obtain ⟨q, hu⟩ := hu
  have hu2 : Tup T f = some q := by
    unfold Tup at hu ⊢
    rw [h2, h3]
    exact hu
  have hw : Twt T f = Twt T e + 1 := by
    unfold Twt
    rw [h2, h5]
    split <;> omega
  have hd := TC_29 h q (h.up hu).2
  unfold TC9
  rw [TC_up h hu, TC_up h hu2]
  show (TC T q).1 + Twt T e * 64 ^ (29 - (TC T q).2) + 64 ^ (30 - ((TC T q).2 + 1)) ≤ (TC T q).1 + Twt T f * 64 ^ (29 - (TC T q).2)
  rw [show 30 - ((TC T q).2 + 1) = 29 - (TC T q).2 by omega, hw, Nat.add_mul]
  omega
def Tcl (T : qqT) (e : Nat) : Nat := qqIt (fun e => e) (fun _ r => r) (fun e => if (Tnx T e).isSome then none else Tp T e) 30 e
def Tni (T : qqT) (e : Nat) : Option Nat := match Tc T e with
  | c :: _ => some c
  | [] => Tnx T (Tcl T e)
theorem Tcl_eq (h : Tw T) {e : Nat} (he : e < Tn T) : Tcl T e = if (Tnx T e).isSome then e else match Tp T e with
    | none => e
    | some p => Tcl T p := by
  obtain ⟨rk, h1, -⟩ := h.rk
  have := qqIt_eq (fin := fun e => e) (f := fun (_ : Nat) (r : Nat) => r) (st := fun e => if (Tnx T e).isSome then none else Tp T e) (μ := rk) h.n30 (fun e q _ hs => by
    by_cases hc : (Tnx T e).isSome
    · rw [if_pos hc] at hs; cases hs
    · rw [if_neg hc] at hs
      exact ⟨(h.p hs).2.1, h1 e q hs⟩) he
  unfold Tcl
  rw [this]
  by_cases hc : (Tnx T e).isSome
  · rw [if_pos hc, if_pos hc]
  · rw [if_neg hc, if_neg hc]
    cases Tp T e <;> rfl
theorem Tcl_is (h : Tw T) : ∀ e, e < Tn T → Tcl T e < Tn T ∧ Tan T (Tcl T e) e ∧ TR T (Tcl T e) = TR T e := by
  obtain ⟨rk, h1, -⟩ := h.rk
  intro e
  refine qqInd (st := Tp T) (μ := rk) (P := fun e => e < Tn T → Tcl T e < Tn T ∧ Tan T (Tcl T e) e ∧ TR T (Tcl T e) = TR T e) ?_ e
  intro e ih he
  rw [Tcl_eq h he]
  by_cases hc : (Tnx T e).isSome
  · rw [if_pos hc]; exact ⟨he, Tan_rf e, rfl⟩
  · rw [if_neg hc]
    cases hp : Tp T e with
    | none => exact ⟨he, Tan_rf e, rfl⟩
    | some p =>
      have a := ih p hp (h1 e p hp) (h.p hp).2.1
      exact ⟨a.1, Tan_up (Tup_p hp) a.2.1, a.2.2.trans (TR_p h hp).symm⟩
theorem Tni_lt (h : Tw T) {e f : Nat} (he : e < Tn T) (hf : Tni T e = some f) : f < Tn T ∧ (TC T e).1 < (TC T f).1 := by
  unfold Tni at hf
  cases hc : Tc T e with
  | cons c cs =>
    rw [hc] at hf
    have hf : c = f := Option.some.inj hf
    subst hf
    have hm : c ∈ Tc T e := by rw [hc]; exact List.mem_cons_self
    exact ⟨(h.clt hm).1, (TC_in h (Tup_p (h.c hm))).1⟩
  | nil =>
    rw [hc] at hf
    have a := Tcl_is h e he
    have b := TC_nx h a.1 hf
    have c := (Tan_in h e a.2.1).2
    have d := TC9_pos (T := T) e
    exact ⟨Tnx_lt h a.1 hf, by omega⟩
theorem Tni_TH (h : Tw T) {e f q : Nat} (he : e < Tn T) (hq : TH T e = some q) (hf : Tni T e = some f) : TH T f = some q := by
  unfold Tni at hf
  cases hc : Tc T e with
  | cons c cs =>
    rw [hc] at hf
    have hf : c = f := Option.some.inj hf
    subst hf
    have hm : c ∈ Tc T e := by rw [hc]; exact List.mem_cons_self
    rw [TH_p h (h.c hm)]
    exact hq
  | nil =>
    rw [hc] at hf
    have a := Tcl_is h e he
    obtain ⟨b1, b2, b3, b4, b5⟩ := Tnx_some h hf
    have hx : TH T (Tcl T e) = some q := by unfold TH; rw [a.2.2]; exact hq
    cases hp : Tp T (Tcl T e) with
    | some p => rw [TH_p h (b2.trans hp)]; rw [TH_p h hp] at hx; exact hx
    | none =>
      rw [TH_n h a.1 hp] at hx
      rw [TH_h h (b3.trans hx)]
def Tsl (T : qqT) (a : Int32) (e : Nat) : Option Nat := qqIt (fun e => if Tk T e = true ∧ Ta T e = a then some e else none) (fun e r => if Tk T e = true ∧ Ta T e = a then some e else r) (Tni T) 30 e
def Tslot (T : qqT) (q : Nat) (a : Int32) : Option Nat := match Tt T q with
  | [] => none
  | e :: _ => Tsl T a e
theorem Tni_m (h : Tw T) : ∃ μ : Nat → Nat, ∀ e f, e < Tn T → Tni T e = some f → f < Tn T ∧ μ f < μ e := by
  refine ⟨fun e => TC9 T 0 + 64 ^ 64 - (TC T e).1, fun e f he hf => ?_⟩
  have a := Tni_lt h he hf
  have hb : ∀ e, e < Tn T → (TC T e).1 < 64 ^ 64 := by
    obtain ⟨rk, h1⟩ := h.rkup
    intro e
    have key : e < Tn T → TC9 T e ≤ 64 ^ 30 := by
      refine qqInd (st := Tup T) (μ := rk) (P := fun e => e < Tn T → TC9 T e ≤ 64 ^ 30) ?_ e
      intro e ih he
      cases hu : Tup T e with
      | none => unfold TC9; rw [TC_n h he hu]; exact Nat.le_of_ble_eq_true rfl
      | some q => exact Nat.le_trans (TC_in h hu).2 (ih q hu (h1 e q hu) (h.up hu).2)
    intro he
    have c := key he
    have d := TC9_pos (T := T) e
    have e9 : (64 : Nat) ^ 30 < 64 ^ 64 := Nat.pow_lt_pow_right (by decide) (by decide)
    omega
  have c := hb f a.1
  refine ⟨a.1, ?_⟩
  show TC9 T 0 + 64 ^ 64 - (TC T f).1 < TC9 T 0 + 64 ^ 64 - (TC T e).1
  generalize (64 : Nat) ^ 64 = z at c ⊢
  omega
theorem Tsl_eq (h : Tw T) (a : Int32) {e : Nat} (he : e < Tn T) : Tsl T a e = if Tk T e = true ∧ Ta T e = a then some e else match Tni T e with
    | none => none
    | some f => Tsl T a f := by
  obtain ⟨μ, h1⟩ := Tni_m h
  have := qqIt_eq (fin := fun e => if Tk T e = true ∧ Ta T e = a then some e else none) (f := fun e r => if Tk T e = true ∧ Ta T e = a then some e else r) (st := Tni T) (μ := μ) h.n30 (fun e q he hs => h1 e q he hs) he
  unfold Tsl
  rw [this]
  by_cases hc : Tk T e = true ∧ Ta T e = a
  · rw [if_pos hc]
    cases Tni T e with
    | none => simp [hc]
    | some f => simp [hc]
  · rw [if_neg hc]
    cases Tni T e with
    | none => simp [hc]
    | some f => simp [hc]
theorem Tsl_is (h : Tw T) {a : Int32} {q x : Nat} : ∀ e, e < Tn T → TH T e = some q → Tsl T a e = some x → x < Tn T ∧ TH T x = some q ∧ Tk T x = true ∧ Ta T x = a := by
  obtain ⟨μ, h1⟩ := Tni_m h
  have key : ∀ m e, μ e < m → e < Tn T → TH T e = some q → Tsl T a e = some x → x < Tn T ∧ TH T x = some q ∧ Tk T x = true ∧ Ta T x = a := by
    intro m
    induction m with
    | zero => intro e hm; omega
    | succ m ih =>
      intro e hm he hq hx
      rw [Tsl_eq h a he] at hx
      by_cases hc : Tk T e = true ∧ Ta T e = a
      · rw [if_pos hc] at hx; cases hx; exact ⟨he, hq, hc⟩
      · rw [if_neg hc] at hx
        cases hn : Tni T e with
        | none => rw [hn] at hx; cases hx
        | some f =>
          rw [hn] at hx
          have a := h1 e f he hn
          exact ih f (by omega) a.1 (Tni_TH h he hq hn) hx
  exact fun e => key (μ e + 1) e (by omega)
theorem Tslot_is (h : Tw T) {a : Int32} {q x : Nat} (hx : Tslot T q a = some x) : x < Tn T ∧ TH T x = some q ∧ Tk T x = true ∧ Ta T x = a := by
  unfold Tslot at hx
  cases ht : Tt T q with
  | nil => rw [ht] at hx; cases hx
  | cons e es =>
    rw [ht] at hx
    have hm : e ∈ Tt T q := by rw [ht]; exact List.mem_cons_self
    exact Tsl_is h e (h.tlt hm).1 (TH_h h (h.t hm)) hx
def Tsp (T : qqT) (e : Nat) : Option Nat := match Th T e with
  | some q => some q
  | none => match Tp T e with
    | none => none
    | some p => if Ts T p = true then (match Tslot T p (Ta T e) with
      | some s => some s
      | none => some p) else some p
theorem Tsp_h {e q : Nat} (hq : Th T e = some q) : Tsp T e = some q := by unfold Tsp; rw [hq]
theorem Tsp_n {e : Nat} (hp : Tp T e = none) (hh : Th T e = none) : Tsp T e = none := by unfold Tsp; rw [hh, hp]
theorem Tsp_p (h : Tw T) {e p : Nat} (hp : Tp T e = some p) : Tsp T e = if Ts T p = true then (match Tslot T p (Ta T e) with
      | some s => some s
      | none => some p) else some p := by unfold Tsp; rw [h.pn hp, hp]
theorem Tsp_0 (h : Tw T) : Tsp T 0 = none := Tsp_n h.p0 h.h0
theorem Tsp_cases (h : Tw T) {e x : Nat} (hx : Tsp T e = some x) : e < Tn T ∧ x < Tn T ∧ (Th T e = some x ∨ Tp T e = some x ∨ ∃ p, Tp T e = some p ∧ Ts T p = true ∧ TH T x = some p ∧ Tk T x = true ∧ Ta T x = Ta T e ∧ Tslot T p (Ta T e) = some x) := by
  cases hh : Th T e with
  | some q => rw [Tsp_h hh] at hx; cases hx; exact ⟨(h.h hh).1, (h.h hh).2.1, Or.inl rfl⟩
  | none =>
    cases hp : Tp T e with
    | none => rw [Tsp_n hp hh] at hx; cases hx
    | some p =>
      rw [Tsp_p h hp] at hx
      by_cases hs : Ts T p = true
      · rw [if_pos hs] at hx
        cases hl : Tslot T p (Ta T e) with
        | none => rw [hl] at hx; cases hx; exact ⟨(h.p hp).1, (h.p hp).2.1, Or.inr (Or.inl rfl)⟩
        | some s =>
          rw [hl] at hx
          cases hx
          have a := Tslot_is h hl
          exact ⟨(h.p hp).1, a.1, Or.inr (Or.inr ⟨p, rfl, hs, a.2.1, a.2.2.1, a.2.2.2, hl⟩)⟩
      · rw [if_neg hs] at hx; cases hx; exact ⟨(h.p hp).1, (h.p hp).2.1, Or.inr (Or.inl rfl)⟩
theorem TC_shadow (h : Tw T) {q : Nat} : ∀ e, e < Tn T → TH T e = some q → ∀ c, Tp T c = some q → (TC T e).1 < (TC T c).1 := by
  intro e he hq c hc
  have hr := TR_top h e he
  have hq' : Th T (TR T e) = some q := hq
  have han : ∀ e, e < Tn T → Tan T (TR T e) e := by
    obtain ⟨rk, h1, -⟩ := h.rk
    intro e
    refine qqInd (st := Tp T) (μ := rk) (P := fun e => e < Tn T → Tan T (TR T e) e) ?_ e
    intro e ih he
    cases hp : Tp T e with
    | none => rw [TR_n h he hp]; exact Tan_rf e
    | some p => rw [TR_p h hp]; exact Tan_up (Tup_p hp) (ih p hp (h1 e p hp) (h.p hp).2.1)
  have a := (Tan_in h e (han e he)).2
  have b := TC9_pos (T := T) e
  have hu := Tup_h h hq'
  have hu2 := Tup_p hc
  have hd := TC_29 h q (h.up hu).2
  have hw : Twt T (TR T e) + 1 ≤ Twt T c := by
    have := Tix_30 h hr.1
    unfold Twt
    rw [hr.2, hc]
    simp
    omega
  have e9 : TC9 T (TR T e) ≤ (TC T c).1 := by
    unfold TC9
    rw [TC_up h hu, TC_up h hu2]
    show (TC T q).1 + Twt T (TR T e) * 64 ^ (29 - (TC T q).2) + 64 ^ (30 - ((TC T q).2 + 1)) ≤ (TC T q).1 + Twt T c * 64 ^ (29 - (TC T q).2)
    rw [show 30 - ((TC T q).2 + 1) = 29 - (TC T q).2 by omega]
    generalize 64 ^ (29 - (TC T q).2) = z
    have := Nat.mul_le_mul_right z hw
    rw [Nat.add_mul] at this
    omega
  omega
theorem Tsp_m (h : Tw T) {e x : Nat} (hx : Tsp T e = some x) : (TC T x).1 < (TC T e).1 := by
  obtain ⟨he, hxn, h1 | h1 | ⟨p, h1, h2, h3, -⟩⟩ := Tsp_cases h hx
  · exact (TC_in h (Tup_h h h1)).1
  · exact (TC_in h (Tup_p h1)).1
  · exact TC_shadow h x hxn h3 e h1
theorem Tsp_D (h : Tw T) {e x : Nat} (hx : Tsp T e = some x) : TD T e = TD T x := by
  obtain ⟨he, hxn, h1 | h1 | ⟨p, h1, h2, h3, -⟩⟩ := Tsp_cases h hx
  · rw [TD_eq h he, TH_h h h1]
  · rw [TD_eq h he, TH_p h h1, TR_p h h1, ← TD_eq h hxn]
  · rw [TD_eq h he, TH_p h h1, TR_p h h1, ← TD_eq h (h.p h1).2.1, TD_eq h hxn, h3]
theorem TD_top (h : Tw T) {e : Nat} (he : e < Tn T) (hd : TD T e = true) (hs : Tsp T e = none) : e = 0 := by
  cases hh : Th T e with
  | some q => rw [Tsp_h hh] at hs; cases hs
  | none =>
    cases hp : Tp T e with
    | some p =>
      rw [Tsp_p h hp] at hs
      revert hs
      split
      · split <;> exact fun z => by cases z
      · exact fun z => by cases z
    | none =>
      rw [TD_eq h he, TH_n h he hp, hh, TR_n h he hp] at hd
      exact of_decide_eq_true hd
end TW
theorem qqDrop {α : Type} {l : List α} {k : Nat} {y : α} {r : List α} (h : l.drop k = y :: r) : l[k]? = some y ∧ l.drop (k + 1) = r ∧ k < l.length := by
  have hk : k < l.length := by
    rcases Nat.lt_or_ge k l.length with h1 | h1
    · exact h1
    · rw [List.drop_eq_nil_of_le h1] at h; cases h
  have h2 := List.drop_eq_getElem_cons hk
  rw [h] at h2
  injection h2 with h3 h4
  exact ⟨by rw [List.getElem?_eq_getElem hk, h3], h4.symm, hk⟩
theorem qqDrop0 {α : Type} {l : List α} {k : Nat} (h : l.drop k = []) : l.length ≤ k := by
  have := congrArg List.length h
  rw [List.length_drop] at this
  simp only [List.length_nil] at this
  omega
def Tfl (T : qqT) (x : Nat) (l : List Nat) : List Nat := l.filter (fun e => decide (Tsp T e = some x))
def Tfs (T : qqT) (x : Nat) : List Nat := match TH T x with
  | some q => if Tk T x = true then Tc T q else []
  | none => []
def Tfan (T : qqT) (x : Nat) : List Nat := Tfl T x (Tfs T x) ++ (Tfl T x (Tt T x) ++ Tfl T x (Tc T x))
def TordF (T : qqT) : Nat → List Nat → List Nat
  | 0, _ => []
  | _ + 1, [] => []
  | k + 1, x :: r => x :: TordF T k (Tfan T x ++ r)
def Tord (T : qqT) : List Nat := TordF T 30 [0]
def qqBf (l : List Nat) (a b : Nat) : Prop := ∃ u v w, l = u ++ a :: (v ++ b :: w)
section TO
variable {T : qqT}
theorem Tfl_mem {x e : Nat} {l : List Nat} : e ∈ Tfl T x l ↔ e ∈ l ∧ Tsp T e = some x := by
  unfold Tfl
  rw [List.mem_filter, decide_eq_true_iff]
theorem Tfs_mem (h : Tw T) {x e : Nat} (he : e ∈ Tfs T x) : ∃ q, TH T x = some q ∧ Tk T x = true ∧ Tp T e = some q := by
  unfold Tfs at he
  cases hq : TH T x with
  | none => rw [hq] at he; cases he
  | some q =>
    rw [hq] at he
    have he : e ∈ (if Tk T x = true then Tc T q else []) := he
    by_cases hk : Tk T x = true
    · rw [if_pos hk] at he; exact ⟨q, rfl, hk, h.c he⟩
    · rw [if_neg hk] at he; cases he
theorem Tfs_nodup (h : Tw T) (x : Nat) : (Tfs T x).Nodup := by
  unfold Tfs
  cases TH T x with
  | none => exact List.nodup_nil
  | some q =>
    show (if Tk T x = true then Tc T q else []).Nodup
    by_cases hk : Tk T x = true
    · rw [if_pos hk]; exact h.cd q
    · rw [if_neg hk]; exact List.nodup_nil
theorem Tfan_mem (h : Tw T) {x e : Nat} : e ∈ Tfan T x ↔ Tsp T e = some x := by
  unfold Tfan
  rw [List.mem_append, List.mem_append, Tfl_mem, Tfl_mem, Tfl_mem]
  refine ⟨fun z => z.elim (·.2) (fun z => z.elim (·.2) (·.2)), fun z => ?_⟩
  obtain ⟨he, hx, h1 | h1 | ⟨p, h1, h2, h3, h4, h5, -⟩⟩ := Tsp_cases h z
  · exact Or.inr (Or.inl ⟨(h.h h1).2.2, z⟩)
  · exact Or.inr (Or.inr ⟨(h.p h1).2.2, z⟩)
  · refine Or.inl ⟨?_, z⟩
    unfold Tfs
    rw [h3]
    show e ∈ (if Tk T x = true then Tc T p else [])
    rw [if_pos h4]
    exact (h.p h1).2.2
theorem TH_ne (h : Tw T) {x q : Nat} (hx : x < Tn T) (hq : TH T x = some q) : x ≠ q := by
  obtain ⟨ν, -, h2⟩ := TH_rk h
  intro e
  subst e
  have := h2 x x hx hq
  omega
theorem Tfan_nodup (h : Tw T) (x : Nat) (hx : x < Tn T) : (Tfan T x).Nodup := by
  unfold Tfan
  refine List.nodup_append.mpr ⟨(Tfs_nodup h x).filter _, List.nodup_append.mpr ⟨(h.td x).filter _, (h.cd x).filter _, ?_⟩, ?_⟩
  · intro a ha b hb e
    subst e
    have h1 := h.t (Tfl_mem.mp ha).1
    have h2 := h.c (Tfl_mem.mp hb).1
    rw [h.pn h2] at h1
    cases h1
  · intro a ha b hb e
    subst e
    obtain ⟨q, h1, h2, h3⟩ := Tfs_mem h (Tfl_mem.mp ha).1
    rcases List.mem_append.mp hb with hb | hb
    · have h4 := h.t (Tfl_mem.mp hb).1
      rw [h.pn h3] at h4
      cases h4
    · have h4 := h.c (Tfl_mem.mp hb).1
      rw [h3] at h4
      cases h4
      exact TH_ne h hx h1 rfl
def TI (T : qqT) (D P : List Nat) : Prop :=
  (D ++ P).Nodup ∧ (∀ x ∈ D ++ P, x < Tn T ∧ TD T x = true) ∧ 0 ∈ D ++ P ∧ (∀ x ∈ D ++ P, x ≠ 0 → ∃ y ∈ D, Tsp T x = some y) ∧
  (∀ y ∈ D, ∀ e, Tsp T e = some y → e ∈ D ++ P) ∧ (∀ A x B, D = A ++ x :: B → x ≠ 0 → ∃ y ∈ A, Tsp T x = some y) ∧
  (∀ e f, e ∈ D ++ P → Tpv T e = some f → Tsp T e = Tsp T f → qqBf (D ++ P) f e)
theorem TI_0 (h : Tw T) : TI T [] [0] := by
  refine ⟨by simp, ?_, by simp, ?_, fun y hy => (by cases hy), fun A x B he => ?_, ?_⟩
  · intro x hx
    have := List.mem_singleton.mp hx
    subst this
    exact ⟨by have := h.n1; omega, TD_0 h⟩
  · intro x hx h0
    exact absurd (List.mem_singleton.mp hx) h0
  · exact absurd he.symm (by simp)
  · intro e f he hf
    have := List.mem_singleton.mp he
    subst this
    have h1 := Tix_lt h 0
    rw [Tsb_n h.p0 h.h0] at h1
    have h2 : Tix T 0 < 1 := h1
    unfold Tpv at hf
    rw [if_pos (show Tix T 0 = 0 by omega)] at hf
    cases hf
theorem qqBf_mem {l : List Nat} {a b : Nat} (h : qqBf l a b) : a ∈ l ∧ b ∈ l := by
  obtain ⟨u, v, w, rfl⟩ := h
  simp
theorem qqBf_ins {A B : List Nat} {l : List Nat} {a b : Nat} (h : qqBf (A ++ B) a b) : qqBf (A ++ (l ++ B)) a b := by
  obtain ⟨u, v, w, e⟩ := h
  rcases List.append_eq_append_iff.mp e with ⟨c, h1, h2⟩ | ⟨c, h1, h2⟩
  · subst h1
    exact ⟨A ++ (l ++ c), v, w, by rw [h2]; simp⟩
  · cases c with
    | nil =>
      have h2 : a :: (v ++ b :: w) = B := h2
      subst h2
      exact ⟨A ++ l, v, w, by simp⟩
    | cons x c =>
      injection h2 with h3 h4
      subst h3
      rcases List.append_eq_append_iff.mp h4 with ⟨d, h5, h6⟩ | ⟨d, h5, h6⟩
      · cases d with
        | nil =>
          have h6 : b :: w = B := h6
          subst h6
          have h5 : c = v := by simpa using h5
          subst h5
          exact ⟨u, c ++ l, w, by rw [h1]; simp⟩
        | cons y d =>
          injection h6 with h7 h8
          subst h7
          subst h5
          exact ⟨u, v, d ++ (l ++ B), by rw [h1]; simp⟩
      · subst h5
        exact ⟨u, c ++ (l ++ d), w, by rw [h1, h6]; simp⟩
theorem qqBf_app {A B : List Nat} {a b : Nat} (h : qqBf A a b) : qqBf (A ++ B) a b := by
  obtain ⟨u, v, w, rfl⟩ := h
  exact ⟨u, v, w ++ B, by simp⟩
theorem qqBf_pre {A B : List Nat} {a b : Nat} (h : qqBf B a b) : qqBf (A ++ B) a b := by
  obtain ⟨u, v, w, rfl⟩ := h
  exact ⟨A ++ u, v, w, by simp⟩
theorem qqBf_fl {l : List Nat} {P : Nat → Bool} {a b : Nat} (h : qqBf l a b) (ha : P a = true) (hb : P b = true) : qqBf (l.filter P) a b := by
  obtain ⟨u, v, w, rfl⟩ := h
  exact ⟨u.filter P, v.filter P, w.filter P, by simp [List.filter_append, ha, hb]⟩
theorem qqBf_get {l : List Nat} {i : Nat} {a b : Nat} (ha : l[i]? = some a) (hb : l[i + 1]? = some b) : qqBf l a b := by
  obtain ⟨h1, h2⟩ := List.getElem?_eq_some_iff.mp ha
  obtain ⟨h3, h4⟩ := List.getElem?_eq_some_iff.mp hb
  refine ⟨l.take i, [], l.drop (i + 2), ?_⟩
  have e1 : l = l.take i ++ l.drop i := (List.take_append_drop i l).symm
  rw [List.drop_eq_getElem_cons h1, List.drop_eq_getElem_cons h3, h2, h4] at e1
  exact e1
theorem Tpv_bf (h : Tw T) {e f : Nat} (hf : Tpv T e = some f) : qqBf (Tsb T e) f e := by
  have h0 : Tix T e ≠ 0 := by
    intro h0
    unfold Tpv at hf
    rw [if_pos h0] at hf
    cases hf
  have h1 : (Tsb T e)[Tix T e - 1]? = some f := by
    unfold Tpv at hf
    rw [if_neg h0] at hf
    exact hf
  refine qqBf_get h1 ?_
  rw [show Tix T e - 1 + 1 = Tix T e by omega]
  exact Tix_get h e
theorem Tfan_bf (h : Tw T) {x e f : Nat} (he : Tsp T e = some x) (hf : Tpv T e = some f) (hs : Tsp T f = some x) : qqBf (Tfan T x) f e := by
  have hb := Tpv_bf h hf
  have key : ∀ l, Tsb T e = l → qqBf (Tfl T x l) f e := fun l hl => by
    rw [hl] at hb
    exact qqBf_fl hb (decide_eq_true hs) (decide_eq_true he)
  unfold Tfan
  obtain ⟨he9, hx9, h1 | h1 | ⟨p, h1, h2, h3, h4, h5, -⟩⟩ := Tsp_cases h he
  · exact qqBf_pre (qqBf_app (key _ (Tsb_h h h1)))
  · exact qqBf_pre (qqBf_pre (key _ (Tsb_p h1)))
  · refine qqBf_app (key _ ?_)
    rw [Tsb_p h1]
    unfold Tfs
    rw [h3]
    show Tc T p = if Tk T x = true then Tc T p else []
    rw [if_pos h4]
theorem TI_step (h : Tw T) {D r : List Nat} {x : Nat} (hI : TI T D (x :: r)) : TI T (D ++ [x]) (Tfan T x ++ r) := by
  obtain ⟨i1, i2, i3, i4, i5, i6, i7⟩ := hI
  have hxm : x ∈ D ++ x :: r := List.mem_append_right _ List.mem_cons_self
  have hx := i2 x hxm
  have hnd := List.nodup_append.mp i1
  have hxD : x ∉ D := fun hd => hnd.2.2 x hd x List.mem_cons_self rfl
  have hfx : ∀ e, e ∈ Tfan T x → e ∉ D ++ x :: r := by
    intro e he hm
    have h1 := (Tfan_mem h).mp he
    by_cases h0 : e = 0
    · subst h0; rw [Tsp_0 h] at h1; cases h1
    · obtain ⟨y, hy, h2⟩ := i4 e hm h0
      rw [h1] at h2
      cases h2
      exact hxD hy
  have hmem : ∀ e, e ∈ (D ++ [x]) ++ (Tfan T x ++ r) ↔ e ∈ D ++ x :: r ∨ e ∈ Tfan T x := by
    intro e
    simp only [List.mem_append, List.mem_cons, List.not_mem_nil, or_false]
    constructor
    · rintro ((a | a) | (a | a))
      · exact Or.inl (Or.inl a)
      · exact Or.inl (Or.inr (Or.inl a))
      · exact Or.inr a
      · exact Or.inl (Or.inr (Or.inr a))
    · rintro ((a | a | a) | a)
      · exact Or.inl (Or.inl a)
      · exact Or.inl (Or.inr a)
      · exact Or.inr (Or.inr a)
      · exact Or.inr (Or.inl a)
  refine ⟨?_, ?_, (hmem 0).mpr (Or.inl i3), ?_, ?_, ?_, ?_⟩
  · refine List.nodup_append.mpr ⟨List.nodup_append.mpr ⟨hnd.1, by simp, fun a ha b hb => ?_⟩, List.nodup_append.mpr ⟨Tfan_nodup h x hx.1, (List.nodup_cons.mp hnd.2.1).2, fun a ha b hb e => ?_⟩, fun a ha b hb e => ?_⟩
    · rw [List.mem_singleton.mp hb]
      intro e
      subst e
      exact hxD ha
    · subst e
      exact hfx a ha (List.mem_append_right _ (List.mem_cons_of_mem _ hb))
    · subst e
      rcases List.mem_append.mp hb with hb | hb
      · refine hfx a hb ?_
        rcases List.mem_append.mp ha with ha | ha
        · exact List.mem_append_left _ ha
        · rw [List.mem_singleton.mp ha]; exact hxm
      · rcases List.mem_append.mp ha with ha | ha
        · exact hnd.2.2 a ha a (List.mem_cons_of_mem _ hb) rfl
        · rw [List.mem_singleton.mp ha] at hb
          exact (List.nodup_cons.mp hnd.2.1).1 hb
  · intro e he
    rcases (hmem e).mp he with h1 | h1
    · exact i2 e h1
    · have h2 := (Tfan_mem h).mp h1
      exact ⟨(Tsp_cases h h2).1, (Tsp_D h h2).trans hx.2⟩
  · intro e he h0
    rcases (hmem e).mp he with h1 | h1
    · obtain ⟨y, hy, h2⟩ := i4 e h1 h0
      exact ⟨y, List.mem_append_left _ hy, h2⟩
    · exact ⟨x, List.mem_append_right _ (List.mem_singleton.mpr rfl), (Tfan_mem h).mp h1⟩
  · intro y hy e he
    refine (hmem e).mpr ?_
    rcases List.mem_append.mp hy with hy | hy
    · exact Or.inl (i5 y hy e he)
    · rw [List.mem_singleton.mp hy] at he
      exact Or.inr ((Tfan_mem h).mpr he)
  · intro A z B e hz
    rcases List.append_eq_append_iff.mp e with ⟨c, h1, h2⟩ | ⟨c, h1, h2⟩
    · cases c with
      | nil =>
        have h2 : [x] = z :: B := h2
        injection h2 with h3 h4
        subst h3
        have h1 : A = D := by simpa using h1
        subst h1
        exact i4 x hxm hz
      | cons y c =>
        have := congrArg List.length h2
        simp at this
    · cases c with
      | nil =>
        have h2 : z :: B = [x] := h2
        injection h2 with h3 h4
        subst h3
        have h1 : D = A := by simpa using h1
        subst h1
        exact i4 z hxm hz
      | cons y c =>
        injection h2 with h3 h4
        subst h3
        exact i6 A z c h1 hz
  · intro e f he hf hs
    rcases (hmem e).mp he with h1 | h1
    · have h2 := i7 e f h1 hf hs
      have h3 : (D ++ [x]) ++ (Tfan T x ++ r) = (D ++ [x]) ++ (Tfan T x ++ r) := rfl
      have h4 : qqBf ((D ++ [x]) ++ r) f e := by
        have : (D ++ [x]) ++ r = D ++ x :: r := by simp
        rw [this]
        exact h2
      exact qqBf_ins h4
    · have h2 := (Tfan_mem h).mp h1
      exact qqBf_pre (qqBf_app (Tfan_bf h h2 hf (hs.symm.trans h2)))
theorem TI_len {D P : List Nat} (hI : TI T D P) : (D ++ P).length ≤ Tn T := qqPig _ _ hI.1 (fun x hx => (hI.2.1 x hx).1)
theorem TI_run (h : Tw T) : ∀ k D P, TI T D P → D.length + k = 30 → TI T (D ++ TordF T k P) [] := by
  intro k
  induction k with
  | zero =>
    intro D P hI hk
    have h1 := TI_len hI
    have h2 := h.n30
    have h3 : P = [] := by
      rw [List.length_append] at h1
      cases P with
      | nil => rfl
      | cons a as => simp only [List.length_cons] at h1; omega
    subst h3
    show TI T (D ++ []) []
    rw [List.append_nil]
    exact hI
  | succ k ih =>
    intro D P hI hk
    cases P with
    | nil =>
      show TI T (D ++ []) []
      rw [List.append_nil]
      exact hI
    | cons x r =>
      have h1 := ih (D ++ [x]) (Tfan T x ++ r) (TI_step h hI) (by simp only [List.length_append, List.length_cons, List.length_nil]; omega)
      show TI T (D ++ x :: TordF T k (Tfan T x ++ r)) []
      rw [List.append_assoc] at h1
      exact h1
theorem Tord_I (h : Tw T) : TI T (Tord T) [] := TI_run h 30 [] [0] (TI_0 h) rfl
theorem Tord_nodup (h : Tw T) : (Tord T).Nodup := by have := (Tord_I h).1; rwa [List.append_nil] at this
theorem Tord_len (h : Tw T) : (Tord T).length ≤ 30 := by
  have := TI_len (Tord_I h)
  rw [List.append_nil] at this
  have := h.n30
  omega
theorem Tord_is (h : Tw T) {x : Nat} (hx : x ∈ Tord T) : x < Tn T ∧ TD T x = true := (Tord_I h).2.1 x (by rw [List.append_nil]; exact hx)
theorem Tord_0 (h : Tw T) : 0 ∈ Tord T := by have := (Tord_I h).2.2.1; rwa [List.append_nil] at this
theorem Tord_pre (h : Tw T) {A B : List Nat} {x : Nat} (e : Tord T = A ++ x :: B) (h0 : x ≠ 0) : ∃ y ∈ A, Tsp T x = some y := (Tord_I h).2.2.2.2.2.1 A x B e h0
theorem Tord_bf (h : Tw T) {e f : Nat} (he : e ∈ Tord T) (hf : Tpv T e = some f) (hs : Tsp T e = Tsp T f) : qqBf (Tord T) f e := by
  have := (Tord_I h).2.2.2.2.2.2 e f (by rw [List.append_nil]; exact he) hf hs
  rwa [List.append_nil] at this
theorem Tord_mem (h : Tw T) : ∀ e, e < Tn T → TD T e = true → e ∈ Tord T := by
  intro e
  refine qqInd (st := Tsp T) (μ := fun e => (TC T e).1) (P := fun e => e < Tn T → TD T e = true → e ∈ Tord T) ?_ e
  intro e ih he hd
  cases hs : Tsp T e with
  | none => rw [TD_top h he hd hs]; exact Tord_0 h
  | some x =>
    have hx := ih x hs (Tsp_m h hs) (Tsp_cases h hs).2.1 ((Tsp_D h hs).symm.trans hd)
    have := (Tord_I h).2.2.2.2.1 x hx e hs
    rwa [List.append_nil] at this
theorem Tord_head (h : Tw T) : ∃ r, Tord T = 0 :: r := ⟨TordF T 29 (Tfan T 0 ++ []), rfl⟩
end TO
