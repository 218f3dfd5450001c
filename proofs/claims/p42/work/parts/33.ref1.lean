def RT (T : qqT) (σ : mS) : Prop :=
  σ.2 13 = nI (Tn T) ∧ (∀ e, e < 30 → σ.1 6 e = qqO (Tp T e)) ∧ (∀ e, e < 30 → σ.1 7 e = qqO (Th T e)) ∧ (∀ e, e < 30 → σ.1 8 e = b2 (Ts T e)) ∧
  (∀ e, e < 30 → σ.1 10 e = nI (Tc T e).length) ∧ (∀ e, e < 30 → σ.1 12 e = nI (Tt T e).length) ∧
  (∀ e k x, (Tc T e)[k]? = some x → σ.1 9 (30 * e + k) = nI x) ∧ (∀ e k x, (Tt T e)[k]? = some x → σ.1 11 (30 * e + k) = nI x) ∧
  (∀ e, e < 30 → (σ.1 0 e = nI 7 ↔ Tk T e = true)) ∧ (∀ e, e < 30 → σ.1 4 e = Ta T e)
theorem nI_lit (n : Nat) : (OfNat.ofNat n : Int32) = nI n := rfl
theorem nI_lt0 {n : Nat} (h : n < 2 ^ 31) : (nI n < 0) = False := eq_false (nI_pos h)
theorem nI_eqE {a b : Nat} (ha : a < 2 ^ 31) (hb : b < 2 ^ 31) : (nI a = nI b) = (a = b) := propext (nI_eq ha hb)
theorem nI_leE {a b : Nat} (ha : a < 2 ^ 31) (hb : b < 2 ^ 31) : (nI a ≤ nI b) = (a ≤ b) := propext (nI_leI ha hb)
theorem nI_ltE {a b : Nat} (ha : a < 2 ^ 31) (hb : b < 2 ^ 31) : (nI a < nI b) = (a < b) := propext (nI_ltI ha hb)
section RT
variable {T : qqT} {σ : mS}
theorem RT.n (h : RT T σ) : σ.2 13 = nI (Tn T) := h.1
theorem RT.p (h : RT T σ) {e : Nat} (he : e < 30) : rd σ 6 (nI e) = some (qqO (Tp T e)) := by rw [rd_6 he, h.2.1 e he]
theorem RT.h (h : RT T σ) {e : Nat} (he : e < 30) : rd σ 7 (nI e) = some (qqO (Th T e)) := by rw [rd_7 he, h.2.2.1 e he]
theorem RT.s (h : RT T σ) {e : Nat} (he : e < 30) : rd σ 8 (nI e) = some (b2 (Ts T e)) := by rw [rd_8 he, h.2.2.2.1 e he]
theorem RT.cl (h : RT T σ) {e : Nat} (he : e < 30) : rd σ 10 (nI e) = some (nI (Tc T e).length) := by rw [rd_10 he, h.2.2.2.2.1 e he]
theorem RT.tl (h : RT T σ) {e : Nat} (he : e < 30) : rd σ 12 (nI e) = some (nI (Tt T e).length) := by rw [rd_12 he, h.2.2.2.2.2.1 e he]
theorem RT.c (h : RT T σ) {e k x : Nat} (he : e < 30) (hk : k < 30) (hx : (Tc T e)[k]? = some x) : rd σ 9 ((30 : Int32) * nI e + nI k) = some (nI x) := by
  rw [nI_lit 30, pk_mul, nI_add, rd_9 (by omega), h.2.2.2.2.2.2.1 e k x hx]
theorem RT.t (h : RT T σ) {e k x : Nat} (he : e < 30) (hk : k < 30) (hx : (Tt T e)[k]? = some x) : rd σ 11 ((30 : Int32) * nI e + nI k) = some (nI x) := by
  rw [nI_lit 30, pk_mul, nI_add, rd_11 (by omega), h.2.2.2.2.2.2.2.1 e k x hx]
theorem RT.c0 (h : RT T σ) {e x : Nat} {xs : List Nat} (he : e < 30) (hx : Tc T e = x :: xs) : rd σ 9 ((30 : Int32) * nI e) = some (nI x) := by
  have h1 := h.2.2.2.2.2.2.1 e 0 x (by rw [hx]; rfl)
  rw [nI_lit 30, pk_mul, rd_9 (by omega)]
  exact congrArg some h1
theorem RT.t0 (h : RT T σ) {e x : Nat} {xs : List Nat} (he : e < 30) (hx : Tt T e = x :: xs) : rd σ 11 ((30 : Int32) * nI e) = some (nI x) := by
  have h1 := h.2.2.2.2.2.2.2.1 e 0 x (by rw [hx]; rfl)
  rw [nI_lit 30, pk_mul, rd_11 (by omega)]
  exact congrArg some h1
theorem RT.k (h : RT T σ) {e : Nat} (he : e < 30) : ∃ v, rd σ 0 (nI e) = some v ∧ (v = nI 7 ↔ Tk T e = true) := ⟨σ.1 0 e, rd_0 he, h.2.2.2.2.2.2.2.2.1 e he⟩
theorem RT.a (h : RT T σ) {e : Nat} (he : e < 30) : rd σ 4 (nI e) = some (Ta T e) := by rw [rd_4 he, h.2.2.2.2.2.2.2.2.2 e he]
theorem Tw.p30 (hw : Tw T) {e p : Nat} (h : Tp T e = some p) : e < 30 ∧ p < 30 := by
  have := hw.n30
  have := hw.p h
  omega
theorem Tw.h30 (hw : Tw T) {e p : Nat} (h : Th T e = some p) : e < 30 ∧ p < 30 := by
  have := hw.n30
  have := hw.h h
  omega
theorem Tw.rkb (h : Tw T) : ∃ ν : Nat → Nat, (∀ e, e < Tn T → ν e < 30) ∧ (∀ e p, Tp T e = some p → ν p < ν e) ∧ (∀ e q, Tup T e = some q → ν q < ν e) ∧ ∀ e q, e < Tn T → TH T e = some q → ν q < ν e := by
  obtain ⟨rk, h1, h2⟩ := TH_rk h
  obtain ⟨ν, h3, h4⟩ := qqRk (Tn T) rk
  refine ⟨ν, fun e he => ?_, fun e p hp => ?_, fun e q hq => ?_, fun e q he hq => ?_⟩
  · have := h3 e he
    have := h.n30
    omega
  · exact h4 p e (h.p hp).2.1 (h.p hp).1 (h1 e p (Tup_p hp))
  · exact h4 q e (h.up hq).2 (h.up hq).1 (h1 e q hq)
  · exact h4 q e (TH_lt h hq).1 he (h2 e q he hq)
theorem qqO_lt {k : Nat} (h : k < 30) : (qqO (some k) < 0) = False := eq_false (nI_pos (by omega))
theorem qqO_lt0 : (qqO none < 0) = True := eq_true (by decide)
theorem r_root_2 (hw : Tw T) (hr : RT T σ) {ν : Nat → Nat} (hν : ∀ e p, Tp T e = some p → ν p < ν e) : ∀ m e, e < Tn T → ν e < m → f_root_2 m (nI e) σ = some (nI (TR T e)) := by
  intro m
  induction m with
  | zero => intro e _ h; omega
  | succ m ih =>
    intro e he hm
    have h30 := hw.n30
    rw [f_root_2, hr.p (by omega)]
    cases hp : Tp T e with
    | none =>
      simp only [qqb, qqO_lt0, if_true, TR_n hw he hp]
    | some p =>
      have := hν e p hp
      have hp9 := hw.p hp
      simp only [qqb, qqO_lt (show p < 30 by omega), if_false, TR_p hw hp]
      exact ih p hp9.2.1 (by omega)
theorem r_root (hw : Tw T) (hr : RT T σ) {e : Nat} (he : e < Tn T) : f_root (nI e) σ = some (nI (TR T e)) := by
  obtain ⟨ν, h1, h2, -⟩ := hw.rkb
  exact r_root_2 hw hr h2 4000 e he (by have := h1 e he; omega)
def Tco (T : qqT) (e : Nat) : Int32 := if TR T e = 0 then -1 else match TH T e with
  | none => -2
  | some q => nI q
theorem TH_30 (hw : Tw T) {e q : Nat} (h : TH T e = some q) : q < 30 := by
  have := (TH_lt hw h).1
  have := hw.n30
  omega
theorem r_treeOf (hw : Tw T) (hr : RT T σ) {e : Nat} (he : e < Tn T) : f_treeOf (nI e) σ = some (Tco T e) := by
  unfold f_treeOf
  have h30 := hw.n30
  have hR := TR_top hw e he
  rw [r_root hw hr he]
  simp only [qqb]
  unfold Tco
  by_cases h0 : TR T e = 0
  · rw [if_pos (by rw [h0]; rfl), if_pos h0]; rfl
  · rw [if_neg (by rw [← nI_0, nI_eqE (by omega) (by decide)]; exact h0), if_neg h0, hr.h (by omega)]
    cases hh : TH T e with
    | none =>
      have : Th T (TR T e) = none := hh
      simp only [this, qqb, qqO_lt0, if_true]
      rfl
    | some q =>
      have h9 : Th T (TR T e) = some q := hh
      have := (hw.h h9).2.1
      simp only [h9, qqb, qqO_lt (show q < 30 by omega), if_false]
      rfl
theorem Tco_neg (hw : Tw T) {e : Nat} : (Tco T e < 0) = (TH T e = none) := by
  unfold Tco
  by_cases h0 : TR T e = 0
  · rw [if_pos h0]
    have : TH T e = none := by unfold TH; rw [h0]; exact hw.h0
    simp [this]
  · rw [if_neg h0]
    cases hh : TH T e with
    | none => simp
    | some q => simp only [nI_lt0 (show q < 2 ^ 31 by have := TH_30 hw hh; omega)]; simp
theorem Tco_some {e q : Nat} (hw : Tw T) (h : TH T e = some q) : Tco T e = nI q := by
  unfold Tco
  have h0 : TR T e ≠ 0 := by
    intro h0
    unfold TH at h
    rw [h0, hw.h0] at h
    cases h
  rw [if_neg h0, h]
theorem Tco_m1 (hw : Tw T) {e : Nat} (he : e < Tn T) (h : TH T e = none) : (Tco T e = -1) = (TD T e = true) := by
  rw [TD_eq hw he, h]
  unfold Tco
  by_cases h0 : TR T e = 0
  · simp [h0]
  · simp [h0, h]
theorem r_inDoc_6 (hw : Tw T) (hr : RT T σ) {ν : Nat → Nat} (hν : ∀ e q, e < Tn T → TH T e = some q → ν q < ν e) : ∀ m e, e < Tn T → ν e < m → f_inDoc_6 m (Tco T e) σ = some (b2 (TD T e)) := by
  intro m
  induction m with
  | zero => intro e _ h; omega
  | succ m ih =>
    intro e he hm
    rw [f_inDoc_6]
    cases hh : TH T e with
    | none =>
      simp only [Tco_neg hw, hh, if_true]
      have h1 := Tco_m1 hw he hh
      by_cases hd : TD T e = true
      · rw [if_pos (h1.mpr hd), hd]; rfl
      · rw [if_neg (fun z => hd (h1.mp z)), Bool.not_eq_true _ |>.mp hd]; rfl
    | some q =>
      have h1 := hν e q he hh
      have h2 := TH_lt hw hh
      simp only [Tco_neg hw, hh]
      rw [if_neg (fun z => by cases z), Tco_some hw hh, r_treeOf hw hr h2.1]
      simp only [qqb]
      rw [ih q h2.1 (by omega), TD_eq hw he, hh]
theorem r_inDoc (hw : Tw T) (hr : RT T σ) {e : Nat} (he : e < Tn T) : f_inDoc (nI e) σ = some (b2 (TD T e)) := by
  obtain ⟨ν, h1, -, -, h2⟩ := hw.rkb
  unfold f_inDoc
  rw [r_treeOf hw hr he]
  exact r_inDoc_6 hw hr h2 4000 e he (by have := h1 e he; omega)
end RT
