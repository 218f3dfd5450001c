theorem b2_i0 {α : Sort _} (b : Bool) (X Y : α) : (if b2 b = (0 : Int32) then X else Y) = if b = true then Y else X := by
  cases b
  · exact (if_pos rfl).trans (if_neg (by decide)).symm
  · exact (if_neg (by decide)).trans (if_pos rfl).symm
theorem b2_i1 {α : Sort _} (b : Bool) (X Y : α) : (if b2 b = (1 : Int32) then X else Y) = if b = true then X else Y := by
  cases b
  · exact (if_neg (by decide)).trans (if_neg (by decide)).symm
  · exact (if_pos rfl).trans (if_pos rfl).symm
section LZ
variable {T : qqT} {A : kA} {ex : Nat → Nat → Prop} {K : kS} {S : cS}
theorem c_nextInTree_14 (hw : Tw T) (t : KT T ex K) (h : KA A ex K S) {ν : Nat → Nat} (hν : ∀ e p, Tp T e = some p → ν p < ν e) : ∀ m e, e < Tn T → ν e + 1 < m → f_X10_nextInTree_14 (A 50 0) m (some (A 0 e)) S = some (el A (Tnx T (Tcl T e))) := by
  intro m
  induction m with
  | zero => intro e _ hm; omega
  | succ m ih =>
    intro e he hm
    rw [f_X10_nextInTree_14, if_neg (fun z => by cases z), t.g12 h he]
    simp only [qqb]
    rw [Tcl_eq hw he]
    cases hx : Tnx T e with
    | some y =>
      simp only [Option.isSome_some, if_true]
      rw [if_neg (fun z => by cases z), hx]
    | none =>
      rw [if_pos (el_none A), if_neg (by simp), t.g8 h he]
      simp only [qqb]
      cases hp : Tp T e with
      | some p =>
        have := hν e p hp
        exact ih p (hw.p hp).2.1 (by omega)
      | none =>
        obtain ⟨m, rfl⟩ : ∃ m', m = m' + 1 := ⟨m - 1, by omega⟩
        rw [f_X10_nextInTree_14, if_pos (el_none A)]
        show some none = some (el A (Tnx T e))
        rw [hx]
        rfl
theorem c_nextInTree (hw : Tw T) (t : KT T ex K) (h : KA A ex K S) {e : Nat} (he : e < Tn T) : f_X10_nextInTree (A 50 0) (some (A 0 e)) S = some (el A (Tni T e)) := by
  obtain ⟨ν, h1, h2, -⟩ := hw.rkb
  unfold f_X10_nextInTree Tni
  rw [t.g10 h he]
  simp only [qqb]
  cases hc : Tc T e with
  | nil =>
    rw [if_pos (show el A ([] : List Nat).head? = none from rfl)]
    exact c_nextInTree_14 hw t h h2 4000 e he (by have := h1 e he; omega)
  | cons x xs =>
    rw [if_neg (show ¬ el A (x :: xs).head? = none from fun z => by cases z)]
    rfl
theorem c_findShown_30 (hw : Tw T) (t : KT T ex K) (h : KA A ex K S) {e : Nat} (he : e < Tn T) {ν : Nat → Nat} (hν : ∀ e f, e < Tn T → Tni T e = some f → f < Tn T ∧ ν f < ν e) : ∀ m x, x < Tn T → ν x + 1 < m → f_X10_findShownParent_30 (A 50 0) m (some (A 0 e)) (some (A 0 x)) S = some (el A (match Tsl T (Ta T e) x with
    | some s => some s
    | none => Tp T e)) := by
  intro m
  induction m with
  | zero => intro x _ hm; omega
  | succ m ih =>
    intro x hx hm
    obtain ⟨v, hv, hk⟩ := t.gk h hx
    rw [f_X10_findShownParent_30, if_neg (fun z => by cases z), hv]
    simp only [qqb]
    have hnx : f_X10_findShownParent_56 (fun z0 z1 => f_X10_findShownParent_30 (A 50 0) m z0 z1 S) (A 50 0) (some (A 0 e)) (some (A 0 x)) S = some (el A (match (match Tni T x with
        | none => none
        | some f => Tsl T (Ta T e) f) with
        | some s => some s
        | none => Tp T e)) := by
      unfold f_X10_findShownParent_56
      rw [t.r10 h]
      simp only [qqb]
      rw [c_nextInTree hw t h hx]
      simp only [qqb]
      cases hn : Tni T x with
      | none =>
        obtain ⟨m, rfl⟩ : ∃ m', m = m' + 1 := ⟨m - 1, by omega⟩
        rw [f_X10_findShownParent_30, if_pos (el_none A), t.g8 h he]
        rfl
      | some f =>
        have := hν x f hx hn
        exact ih f this.1 (by omega)
    rw [Tsl_eq hw (Ta T e) hx]
    by_cases h7 : v = nI 7
    · have hk7 := hk.mp h7
      rw [if_pos (show v = (7 : Int32) from h7), t.ga h hx]
      simp only [qqb]
      rw [t.ga h he]
      simp only [qqb]
      by_cases ha : Ta T x = Ta T e
      · rw [if_pos ha, if_pos ⟨hk7, ha⟩]
        rfl
      · rw [if_neg ha, if_neg (fun z => ha z.2)]
        exact hnx
    · rw [if_neg (show ¬ v = (7 : Int32) from h7), if_neg (fun z => h7 (hk.mpr z.1))]
      exact hnx
theorem c_above (hw : Tw T) (t : KT T ex K) (h : KA A ex K S) {e : Nat} (he : e < Tn T) : f_X3_above (A 0 e) S = some (el A (Tup T e)) := by
  unfold f_X3_above Tup
  rw [t.g8 h he]
  simp only [qqb]
  cases hp : Tp T e with
  | some p =>
    first
      | (rw [if_neg (show ¬ el A (some p) = none from fun z => by cases z), t.g8 h he, hp]; rfl)
      | (rw [if_neg (show ¬ el A (some p) = none from fun z => by cases z)]; rfl)
  | none =>
    rw [if_pos (el_none A), t.g9 h he]
    rfl
theorem c_findShown (hw : Tw T) (t : KT T ex K) (h : KA A ex K S) {e : Nat} (he : e < Tn T) : f_X10_findShownParent (A 50 0) (some (A 0 e)) S = some (el A (Tsp T e)) := by
  have h17 : f_X10_findShownParent_17 (A 50 0) (some (A 0 e)) S = some (el A (Tup T e)) := by
    unfold f_X10_findShownParent_17
    rw [t.r3 h he]
    simp only [qqb]
    rw [c_above hw t h he]
    rfl
  unfold f_X10_findShownParent
  rw [t.g8 h he]
  simp only [qqb]
  cases hp : Tp T e with
  | none =>
    rw [if_pos (el_none A), h17]
    unfold Tup Tsp
    rw [hp]
    cases Th T e <;> rfl
  | some p =>
    have hp9 := hw.p hp
    rw [if_neg (show ¬ el A (some p) = none from fun z => by cases z)]
    simp only [qqb, el_some]
    rw [t.gs h hp9.2.1]
    simp only [qqb]
    rw [b2_i0, Tsp_p hw hp]
    by_cases hs : Ts T p = true
    · rw [if_pos hs, if_pos hs, t.g11 h hp9.2.1]
      simp only [qqb]
      unfold Tslot
      cases hc : Tt T p with
      | nil =>
        rw [show (4000 : Nat) = 3999 + 1 from rfl, f_X10_findShownParent_30, if_pos (show el A ([] : List Nat).head? = none from rfl), t.g8 h he, hp]
        rfl
      | cons x xs =>
        have hx : x < Tn T := (hw.tlt (p := p) (by rw [hc]; exact List.mem_cons_self)).1
        obtain ⟨μ, h1⟩ := Tni_m hw
        obtain ⟨ν, h2, h3⟩ := qqRk (Tn T) μ
        have := c_findShown_30 hw t h he (fun e f he hf => ⟨(h1 e f he hf).1, h3 f e (h1 e f he hf).1 he (h1 e f he hf).2⟩) 4000 x hx (by have := h2 x hx; have := hw.n30; omega)
        rw [hp] at this
        exact this
    · rw [if_neg hs, if_neg hs, h17]
      unfold Tup
      rw [hp]
end LZ
