section RT2
variable {T : qqT} {σ : mS}
theorem r_placeOf_11 (hw : Tw T) (hr : RT T σ) {e p : Nat} (hp : Tp T e = some p) : ∀ d m k, k + d = Tix T e → d < m → f_placeOf_11 m (nI e) (nI k) σ = some (nI (Tix T e)) := by
  intro d
  have hp9 := hw.p30 hp
  have hix := Tix_30 hw (hw.p hp).1
  induction d with
  | zero =>
    intro m k hk hm
    obtain ⟨m, rfl⟩ : ∃ m', m = m' + 1 := ⟨m - 1, by omega⟩
    have hk : k = Tix T e := by omega
    subst hk
    have hx := Tix_get hw e
    rw [Tsb_p hp] at hx
    rw [f_placeOf_11, hr.p hp9.1, hp]
    simp only [qqb, qqO_some]
    rw [hr.c hp9.2 (by omega) hx]
    simp only [qqb, if_true]
    rfl
  | succ d ih =>
    intro m k hk hm
    obtain ⟨m, rfl⟩ : ∃ m', m = m' + 1 := ⟨m - 1, by omega⟩
    have hlt : k < (Tsb T e).length := by have := Tix_lt hw e; omega
    obtain ⟨y, hy⟩ : ∃ y, (Tsb T e)[k]? = some y := ⟨_, List.getElem?_eq_getElem hlt⟩
    have hyk := Tix_at hw hy
    have hne : y ≠ e := by intro z; subst z; omega
    have hyn := Tsb_lt hw (hw.p hp).1 (List.mem_of_getElem? hy)
    have h30 := hw.n30
    rw [Tsb_p hp] at hy
    rw [f_placeOf_11, hr.p hp9.1, hp]
    simp only [qqb, qqO_some]
    rw [hr.c hp9.2 (by omega) hy]
    simp only [qqb]
    rw [if_neg (by rw [nI_eqE (by omega) (by omega)]; exact hne), nI_1]
    exact ih m (k + 1) (by omega) (by omega)
theorem r_placeOf_46 (hw : Tw T) (hr : RT T σ) {e p : Nat} (hp : Th T e = some p) : ∀ d m k, k + d = Tix T e → d < m → f_placeOf_46 m (nI e) (nI k) σ = some (nI (Tix T e)) := by
  intro d
  have hp9 := hw.h30 hp
  have hix := Tix_30 hw (hw.h hp).1
  induction d with
  | zero =>
    intro m k hk hm
    obtain ⟨m, rfl⟩ : ∃ m', m = m' + 1 := ⟨m - 1, by omega⟩
    have hk : k = Tix T e := by omega
    subst hk
    have hx := Tix_get hw e
    rw [Tsb_h hw hp] at hx
    rw [f_placeOf_46, hr.h hp9.1, hp]
    simp only [qqb, qqO_some]
    rw [hr.t hp9.2 (by omega) hx]
    simp only [qqb, if_true]
    rfl
  | succ d ih =>
    intro m k hk hm
    obtain ⟨m, rfl⟩ : ∃ m', m = m' + 1 := ⟨m - 1, by omega⟩
    have hlt : k < (Tsb T e).length := by have := Tix_lt hw e; omega
    obtain ⟨y, hy⟩ : ∃ y, (Tsb T e)[k]? = some y := ⟨_, List.getElem?_eq_getElem hlt⟩
    have hyk := Tix_at hw hy
    have hne : y ≠ e := by intro z; subst z; omega
    have hyn := Tsb_lt hw (hw.h hp).1 (List.mem_of_getElem? hy)
    have h30 := hw.n30
    rw [Tsb_h hw hp] at hy
    rw [f_placeOf_46, hr.h hp9.1, hp]
    simp only [qqb, qqO_some]
    rw [hr.t hp9.2 (by omega) hy]
    simp only [qqb]
    rw [if_neg (by rw [nI_eqE (by omega) (by omega)]; exact hne), nI_1]
    exact ih m (k + 1) (by omega) (by omega)
theorem Tix_n (hw : Tw T) {e : Nat} (hp : Tp T e = none) (hh : Th T e = none) : Tix T e = 0 := by
  have := Tix_lt hw e
  rw [Tsb_n hp hh] at this
  have : Tix T e < 1 := this
  omega
theorem Tnx_n (hw : Tw T) {e : Nat} (hp : Tp T e = none) (hh : Th T e = none) : Tnx T e = none := by
  unfold Tnx
  rw [Tsb_n hp hh, Tix_n hw hp hh]
  rfl
theorem r_placeOf_a (hw : Tw T) (hr : RT T σ) {e p : Nat} (hp : Tp T e = some p) : f_placeOf_11 4000 (nI e) (0 : Int32) σ = some (nI (Tix T e)) := by
  have hix := Tix_30 hw (hw.p hp).1
  exact nI_0 ▸ r_placeOf_11 hw hr hp (Tix T e) 4000 0 (by omega) (by omega)
theorem r_placeOf_b (hw : Tw T) (hr : RT T σ) {e p : Nat} (hp : Th T e = some p) : f_placeOf_46 4000 (nI e) (0 : Int32) σ = some (nI (Tix T e)) := by
  have hix := Tix_30 hw (hw.h hp).1
  exact nI_0 ▸ r_placeOf_46 hw hr hp (Tix T e) 4000 0 (by omega) (by omega)
theorem r_placeOf_c (hw : Tw T) (hr : RT T σ) {e p : Nat} (he : e < Tn T) (hp : Tp T e = some p) : f_placeOf (nI e) σ = some (nI (Tix T e)) := by
  have h30 := hw.n30
  unfold f_placeOf
  rw [hr.p (by omega), hp]
  have := hw.p30 hp
  rw [← r_placeOf_a hw hr hp]
  rw [qqb, if_neg (show ¬ qqO (some p) < 0 from nI_pos (by omega))]
theorem r_placeOf_d (hw : Tw T) (hr : RT T σ) {e p : Nat} (he : e < Tn T) (hp : Tp T e = none) (hh : Th T e = some p) : f_placeOf (nI e) σ = some (nI (Tix T e)) := by
  have h30 := hw.n30
  unfold f_placeOf
  rw [hr.p (by omega), hp]
  rw [qqb, if_pos (show qqO none < 0 by decide)]
  rw [hr.h (by omega), hh]
  have := hw.h30 hh
  rw [← r_placeOf_b hw hr hh]
  rw [qqb, if_neg (show ¬ qqO (some p) < 0 from nI_pos (by omega))]
theorem r_placeOf_e (hw : Tw T) (hr : RT T σ) {e : Nat} (he : e < Tn T) (hp : Tp T e = none) (hh : Th T e = none) : f_placeOf (nI e) σ = some (nI (Tix T e)) := by
  have h30 := hw.n30
  unfold f_placeOf
  rw [hr.p (by omega), hp]
  rw [qqb, if_pos (show qqO none < 0 by decide)]
  rw [hr.h (by omega), hh]
  rw [qqb, if_pos (show qqO none < 0 by decide), Tix_n hw hp hh]
  rfl
theorem r_placeOf (hw : Tw T) (hr : RT T σ) {e : Nat} (he : e < Tn T) : f_placeOf (nI e) σ = some (nI (Tix T e)) := by
  cases hp : Tp T e with
  | some p => exact r_placeOf_c hw hr he hp
  | none =>
    cases hh : Th T e with
    | some q => exact r_placeOf_d hw hr he hp hh
    | none => exact r_placeOf_e hw hr he hp hh
theorem r_sibling (hw : Tw T) (hr : RT T σ) {e : Nat} (he : e < Tn T) : f_sibling (nI e) σ = some (qqO (Tnx T e)) := by
  have h30 := hw.n30
  have hix := Tix_30 hw he
  unfold f_sibling
  rw [r_placeOf hw hr he]
  simp only [qqb, nI_1]
  rw [hr.p (by omega)]
  cases hp : Tp T e with
  | some p =>
    have h9 := hw.p30 hp
    have hl := hw.clen p
    simp only [qqb, qqO_some, nI_lt0 (show _ < 2 ^ 31 from Nat.lt_trans h9.2 (by decide)), if_false]
    rw [hr.cl h9.2]
    simp only [qqb, nI_leE (show (Tc T p).length < 2 ^ 31 by omega) (show Tix T e + 1 < 2 ^ 31 by omega)]
    by_cases hc : (Tc T p).length ≤ Tix T e + 1
    · rw [if_pos hc]
      have : Tnx T e = none := by unfold Tnx; rw [Tsb_p hp]; exact List.getElem?_eq_none hc
      rw [this]
      rfl
    · rw [if_neg hc]
      have hx : (Tc T p)[Tix T e + 1]? = some (Tc T p)[Tix T e + 1] := List.getElem?_eq_getElem (by omega)
      rw [hr.c h9.2 (by omega) hx]
      have : Tnx T e = some (Tc T p)[Tix T e + 1] := by unfold Tnx; rw [Tsb_p hp]; exact hx
      rw [this]
      rfl
  | none =>
    simp only [qqb, qqO_lt0, if_true]
    rw [hr.h (by omega)]
    cases hh : Th T e with
    | some q =>
      have h9 := hw.h30 hh
      have hl := hw.tlen q
      simp only [qqb, qqO_some, nI_lt0 (show _ < 2 ^ 31 from Nat.lt_trans h9.2 (by decide)), if_false]
      rw [hr.tl h9.2]
      simp only [qqb, nI_leE (show (Tt T q).length < 2 ^ 31 by omega) (show Tix T e + 1 < 2 ^ 31 by omega)]
      by_cases hc : (Tt T q).length ≤ Tix T e + 1
      · rw [if_pos hc]
        have : Tnx T e = none := by unfold Tnx; rw [Tsb_h hw hh]; exact List.getElem?_eq_none hc
        rw [this]
        rfl
      · rw [if_neg hc]
        have hx : (Tt T q)[Tix T e + 1]? = some (Tt T q)[Tix T e + 1] := List.getElem?_eq_getElem (by omega)
        rw [hr.t h9.2 (by omega) hx]
        have : Tnx T e = some (Tt T q)[Tix T e + 1] := by unfold Tnx; rw [Tsb_h hw hh]; exact hx
        rw [this]
        rfl
    | none =>
      simp only [qqb, qqO_lt0, if_true]
      rw [Tnx_n hw hp hh]
      rfl
theorem qqO_ge {o : Option Nat} (h : ∀ k, o = some k → k < 30) : (0 ≤ qqO o) = (o.isSome = true) := by
  cases o with
  | none => simp [qqO]
  | some k => simp [qqO, nI_pos' (show k < 2 ^ 31 by have := h k rfl; omega)]
theorem Tnx_30 (hw : Tw T) {e : Nat} (he : e < Tn T) : ∀ k, Tnx T e = some k → k < 30 := fun k hk => by
  have := Tnx_lt hw he hk
  have := hw.n30
  omega
theorem r_nextIn_43 (hw : Tw T) (hr : RT T σ) {e : Nat} (he : e < Tn T) : f_nextIn_43 (nI e) σ = some (qqO (Tnx T e)) := by
  have h30 := hw.n30
  unfold f_nextIn_43
  rw [if_pos (nI_pos' (by omega)), r_sibling hw hr he]
  rfl
theorem r_nextIn_21 (hw : Tw T) (hr : RT T σ) {ν : Nat → Nat} (hν : ∀ e p, Tp T e = some p → ν p < ν e) : ∀ m e, e < Tn T → ν e + 1 < m → f_nextIn_21 m (nI e) σ = some (qqO (Tnx T (Tcl T e))) := by
  intro m
  induction m with
  | zero => intro e _ h; omega
  | succ m ih =>
    intro e he hm
    have h30 := hw.n30
    rw [f_nextIn_21, if_neg (nI_pos (by omega)), r_sibling hw hr he]
    simp only [qqb, qqO_ge (Tnx_30 hw he)]
    rw [Tcl_eq hw he]
    by_cases hc : (Tnx T e).isSome = true
    · rw [if_pos hc, if_pos hc]
      exact r_nextIn_43 hw hr he
    · rw [if_neg hc, if_neg hc, hr.p (by omega)]
      simp only [qqb]
      cases hp : Tp T e with
      | some p =>
        have := hν e p hp
        exact ih p (hw.p hp).2.1 (by omega)
      | none =>
        obtain ⟨m, rfl⟩ : ∃ m', m = m' + 1 := ⟨m - 1, by omega⟩
        have hn : Tnx T e = none := by
          cases hx : Tnx T e with
          | none => rfl
          | some y => rw [hx] at hc; exact absurd rfl hc
        rw [f_nextIn_21, if_pos (show qqO none < 0 by decide)]
        unfold f_nextIn_43
        rw [if_neg (show ¬ 0 ≤ qqO none by decide)]
        show some (-1) = some (qqO (Tnx T e))
        rw [hn]
        rfl
theorem r_nextIn (hw : Tw T) (hr : RT T σ) {e : Nat} (he : e < Tn T) : f_nextIn (nI e) σ = some (qqO (Tni T e)) := by
  obtain ⟨ν, h1, h2, -⟩ := hw.rkb
  have h30 := hw.n30
  unfold f_nextIn Tni
  rw [hr.cl (by omega)]
  cases hc : Tc T e with
  | nil =>
    simp only [qqb, List.length_nil]
    rw [if_pos (by decide)]
    exact r_nextIn_21 hw hr h2 4000 e he (by have := h1 e he; omega)
  | cons x xs =>
    have hl := hw.clen e
    rw [hc] at hl
    simp only [List.length_cons] at hl
    simp only [qqb, List.length_cons]
    rw [if_neg (nI_nle (by omega) (by omega)), hr.c0 (by omega) hc]
    rfl
theorem r_slot_23 (hw : Tw T) (hr : RT T σ) {a : Int32} {ν : Nat → Nat} (hν : ∀ e f, e < Tn T → Tni T e = some f → f < Tn T ∧ ν f < ν e) : ∀ m e, e < Tn T → ν e + 1 < m → f_slot_23 m a (nI e) σ = some (qqO (Tsl T a e)) := by
  intro m
  induction m with
  | zero => intro e _ h; omega
  | succ m ih =>
    intro e he hm
    have h30 := hw.n30
    obtain ⟨v, hv, hk⟩ := hr.k (show e < 30 by omega)
    rw [f_slot_23, if_neg (nI_pos (by omega)), hv]
    simp only [qqb]
    have hnx : f_slot_48 (fun z0 z1 => f_slot_23 m z0 z1 σ) a (nI e) σ = some (qqO (match Tni T e with
        | none => none
        | some f => Tsl T a f)) := by
      unfold f_slot_48
      rw [r_nextIn hw hr he]
      simp only [qqb]
      cases hn : Tni T e with
      | none =>
        obtain ⟨m, rfl⟩ : ∃ m', m = m' + 1 := ⟨m - 1, by omega⟩
        rw [f_slot_23, if_pos (show qqO none < 0 by decide)]
        rfl
      | some f =>
        have := hν e f he hn
        exact ih f this.1 (by omega)
    rw [Tsl_eq hw a he, hr.a (by omega)]
    by_cases h7 : v = nI 7
    · have hk7 := hk.mp h7
      rw [if_pos (show v = (7 : Int32) from h7)]
      simp only [qqb]
      by_cases ha : Ta T e = a
      · rw [if_pos ha, if_pos ⟨hk7, ha⟩]
        rfl
      · rw [if_neg ha, if_neg (fun z => ha z.2)]
        exact hnx
    · rw [if_neg (show ¬ v = (7 : Int32) from h7), if_neg (fun z => h7 (hk.mpr z.1))]
      exact hnx
theorem r_slot (hw : Tw T) (hr : RT T σ) {q : Nat} (hq : q < Tn T) (a : Int32) : f_slot (nI q) a σ = some (qqO (Tslot T q a)) := by
  obtain ⟨μ, h1⟩ := Tni_m hw
  obtain ⟨ν, h2, h3⟩ := qqRk (Tn T) μ
  have h30 := hw.n30
  unfold f_slot Tslot
  rw [hr.tl (by omega)]
  cases hc : Tt T q with
  | nil =>
    simp only [qqb, List.length_nil]
    rw [if_pos (by decide)]
    unfold f_slot_22
    rw [show (4000 : Nat) = 3999 + 1 from rfl, f_slot_23, if_pos (by decide)]
    rfl
  | cons x xs =>
    have hl := hw.tlen q
    rw [hc] at hl
    simp only [List.length_cons] at hl
    have hx : x < Tn T := (hw.tlt (p := q) (by rw [hc]; exact List.mem_cons_self)).1
    simp only [qqb, List.length_cons]
    rw [if_neg (nI_nle (by omega) (by omega)), hr.t0 (by omega) hc]
    simp only [qqb]
    exact r_slot_23 hw hr (fun e f he hf => ⟨(h1 e f he hf).1, h3 f e (h1 e f he hf).1 he (h1 e f he hf).2⟩) 4000 x hx (by have := h2 x hx; omega)
theorem Tsp_lt (hw : Tw T) {e x : Nat} (h : Tsp T e = some x) : x < 30 := by
  have := (Tsp_cases hw h).2.1
  have := hw.n30
  omega
theorem r_shown (hw : Tw T) (hr : RT T σ) {e : Nat} (he : e < Tn T) : f_shown (nI e) σ = some (qqO (Tsp T e)) := by
  have h30 := hw.n30
  unfold f_shown
  rw [hr.h (by omega)]
  cases hh : Th T e with
  | some q =>
    simp only [qqb, qqO_lt (hw.h30 hh).2, if_false]
    rw [Tsp_h hh]
  | none =>
    simp only [qqb, qqO_lt0, if_true]
    rw [hr.p (by omega)]
    cases hp : Tp T e with
    | none =>
      simp only [qqb, qqO_lt0, if_true]
      rw [Tsp_n hp hh]
      rfl
    | some p =>
      have h9 := hw.p30 hp
      simp only [qqb, qqO_some, nI_lt0 (show _ < 2 ^ 31 from Nat.lt_trans h9.2 (by decide)), if_false]
      rw [hr.s h9.2, Tsp_p hw hp]
      simp only [qqb]
      simp only [b2_1]
      by_cases hs : Ts T p = true
      · rw [if_pos hs, if_pos hs, hr.a (by omega)]
        simp only [qqb]
        rw [r_slot hw hr (hw.p hp).2.1]
        simp only [qqb]
        cases hl : Tslot T p (Ta T e) with
        | none => rw [if_pos (by decide)]; rfl
        | some s => 
          have := (Tslot_is hw hl).1
          rw [if_neg (show ¬ qqO (some s) < 0 from nI_pos (by omega))]; rfl
      · rw [if_neg hs, if_neg hs]
        rfl
end RT2
