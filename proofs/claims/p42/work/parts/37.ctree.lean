def el (A : kA) (x : Option Nat) : Option Nat := x.map (A 0)
def ro (k : Nat) (x : Option Nat) : Option (Nat × Nat) := x.map (fun e => (k, e))
theorem ro_kp (A : kA) (k : Nat) (x : Option Nat) : (ro k x).map (kp A) = x.map (A k) := by cases x <;> rfl
theorem el_kp (A : kA) (x : Option Nat) : (ro 0 x).map (kp A) = el A x := by cases x <;> rfl
theorem el_none (A : kA) : el A none = none := rfl
theorem el_some (A : kA) (e : Nat) : el A (some e) = some (A 0 e) := rfl
def KT (T : qqT) (ex : Nat → Nat → Prop) (K : kS) : Prop :=
  (∀ e, e < Tn T → (∀ k, k ≤ 10 → ex k e) ∧ K.1 0 e 0 = nI e ∧ K.1 0 e 7 = b2 (Ts T e) ∧ (K.1 0 e 1 = nI 7 ↔ Tk T e = true) ∧ K.1 0 e 5 = Ta T e ∧ K.2 0 e 8 = ro 0 (Tp T e) ∧ K.2 0 e 9 = ro 0 (Th T e) ∧ K.2 0 e 10 = ro 0 (Tc T e).head? ∧ K.2 0 e 11 = ro 0 (Tt T e).head? ∧ K.2 0 e 12 = ro 0 (Tnx T e) ∧ K.2 0 e 13 = ro 0 (Tpv T e) ∧ K.2 0 e 18 = some (1, e) ∧ K.2 0 e 19 = some (6, e) ∧ K.2 6 e 7 = some (10, e)) ∧
  (ex 50 0 ∧ ex 51 0 ∧ K.1 50 0 1 = nI (Tn T) ∧ K.2 50 0 0 = some (0, 0) ∧ K.2 50 0 4 = some (51, 0) ∧ ∀ e, e < Tn T → K.2 51 0 e = some (0, e))
section CT
variable {T : qqT} {A : kA} {ex : Nat → Nat → Prop} {K : kS} {S : cS}
theorem KT.E (t : KT T ex K) {e k : Nat} (he : e < Tn T) (hk : k ≤ 10) : ex k e := (t.1 e he).1 k hk
theorem KT.gn (t : KT T ex K) (h : KA A ex K S) {e : Nat} (he : e < Tn T) : gI S (some (A 0 e)) 3 0 = some (nI e) := by rw [h.I 0 3 (t.E he (by decide)) rfl, (t.1 e he).2.1]
theorem KT.gs (t : KT T ex K) (h : KA A ex K S) {e : Nat} (he : e < Tn T) : gI S (some (A 0 e)) 3 7 = some (b2 (Ts T e)) := by rw [h.I 0 3 (t.E he (by decide)) rfl, (t.1 e he).2.2.1]
theorem KT.gk (t : KT T ex K) (h : KA A ex K S) {e : Nat} (he : e < Tn T) : ∃ v, gI S (some (A 0 e)) 3 1 = some v ∧ (v = nI 7 ↔ Tk T e = true) := ⟨_, h.I 0 3 (t.E he (by decide)) rfl, (t.1 e he).2.2.2.1⟩
theorem KT.ga (t : KT T ex K) (h : KA A ex K S) {e : Nat} (he : e < Tn T) : gI S (some (A 0 e)) 3 5 = some (Ta T e) := by rw [h.I 0 3 (t.E he (by decide)) rfl, (t.1 e he).2.2.2.2.1]
theorem KT.g8 (t : KT T ex K) (h : KA A ex K S) {e : Nat} (he : e < Tn T) : gR S (some (A 0 e)) 3 8 = some (el A (Tp T e)) := by rw [h.R 0 3 (t.E he (by decide)) rfl, (t.1 e he).2.2.2.2.2.1, el_kp]
theorem KT.g9 (t : KT T ex K) (h : KA A ex K S) {e : Nat} (he : e < Tn T) : gR S (some (A 0 e)) 3 9 = some (el A (Th T e)) := by rw [h.R 0 3 (t.E he (by decide)) rfl, (t.1 e he).2.2.2.2.2.2.1, el_kp]
theorem KT.g10 (t : KT T ex K) (h : KA A ex K S) {e : Nat} (he : e < Tn T) : gR S (some (A 0 e)) 3 10 = some (el A (Tc T e).head?) := by rw [h.R 0 3 (t.E he (by decide)) rfl, (t.1 e he).2.2.2.2.2.2.2.1, el_kp]
theorem KT.g11 (t : KT T ex K) (h : KA A ex K S) {e : Nat} (he : e < Tn T) : gR S (some (A 0 e)) 3 11 = some (el A (Tt T e).head?) := by rw [h.R 0 3 (t.E he (by decide)) rfl, (t.1 e he).2.2.2.2.2.2.2.2.1, el_kp]
theorem KT.g12 (t : KT T ex K) (h : KA A ex K S) {e : Nat} (he : e < Tn T) : gR S (some (A 0 e)) 3 12 = some (el A (Tnx T e)) := by rw [h.R 0 3 (t.E he (by decide)) rfl, (t.1 e he).2.2.2.2.2.2.2.2.2.1, el_kp]
theorem KT.g13 (t : KT T ex K) (h : KA A ex K S) {e : Nat} (he : e < Tn T) : gR S (some (A 0 e)) 3 13 = some (el A (Tpv T e)) := by rw [h.R 0 3 (t.E he (by decide)) rfl, (t.1 e he).2.2.2.2.2.2.2.2.2.2.1, el_kp]
theorem KT.g18 (t : KT T ex K) (h : KA A ex K S) {e : Nat} (he : e < Tn T) : gR S (some (A 0 e)) 3 18 = some (some (A 1 e)) := by rw [h.R 0 3 (t.E he (by decide)) rfl, (t.1 e he).2.2.2.2.2.2.2.2.2.2.2.1]; rfl
theorem KT.g19 (t : KT T ex K) (h : KA A ex K S) {e : Nat} (he : e < Tn T) : gR S (some (A 0 e)) 3 19 = some (some (A 6 e)) := by rw [h.R 0 3 (t.E he (by decide)) rfl, (t.1 e he).2.2.2.2.2.2.2.2.2.2.2.2.1]; rfl
theorem KT.g67 (t : KT T ex K) (h : KA A ex K S) {e : Nat} (he : e < Tn T) : gR S (some (A 6 e)) 9 7 = some (some (A 10 e)) := by rw [h.R 6 9 (t.E he (by decide)) rfl, (t.1 e he).2.2.2.2.2.2.2.2.2.2.2.2.2]; rfl
theorem KT.r3 (t : KT T ex K) (h : KA A ex K S) {e : Nat} (he : e < Tn T) : rc S (some (A 0 e)) 3 = some (A 0 e) := h.Rc 0 3 (t.E he (by decide)) rfl
theorem KT.r9 (t : KT T ex K) (h : KA A ex K S) {e : Nat} (he : e < Tn T) : rc S (some (A 6 e)) 9 = some (A 6 e) := h.Rc 6 9 (t.E he (by decide)) rfl
theorem KT.r10 (t : KT T ex K) (h : KA A ex K S) : rc S (some (A 50 0)) 10 = some (A 50 0) := h.Rc 50 10 t.2.1 rfl
theorem KT.cnt (t : KT T ex K) (h : KA A ex K S) : gI S (some (A 50 0)) 10 1 = some (nI (Tn T)) := by rw [h.I 50 10 t.2.1 rfl, t.2.2.2.1]
theorem KT.top (t : KT T ex K) (h : KA A ex K S) : gR S (some (A 50 0)) 10 0 = some (some (A 0 0)) := by rw [h.R 50 10 t.2.1 rfl, t.2.2.2.2.1]; rfl
theorem KT.els (t : KT T ex K) (h : KA A ex K S) : gR S (some (A 50 0)) 10 4 = some (some (A 51 0)) := by rw [h.R 50 10 t.2.1 rfl, t.2.2.2.2.2.1]; rfl
theorem KT.elt (t : KT T ex K) (h : KA A ex K S) {e : Nat} (he : e < Tn T) (h30 : e < 30) : aR S (some (A 51 0)) 33 (nI e) = some (some (A 0 e)) := by rw [h.AR 51 33 30 t.2.2.1 rfl h30, t.2.2.2.2.2.2 e he]; rfl
theorem KT.eq (t : KT T ex K) (h : KA A ex K S) {e f : Nat} (he : e < Tn T) (hf : f < Tn T) : (A 0 e = A 0 f) = (e = f) := by rw [h.inj (t.E he (by decide)) (t.E hf (by decide))]; simp
theorem el_eq (t : KT T ex K) (h : KA A ex K S) {x y : Option Nat} (hx : ∀ e, x = some e → e < Tn T) (hy : ∀ e, y = some e → e < Tn T) : (el A x = el A y) = (x = y) := by
  cases x with
  | none => cases y <;> simp [el]
  | some a => cases y with
    | none => simp [el]
    | some b => simp only [el_some, Option.some.injEq]; exact t.eq h (hx a rfl) (hy b rfl)
theorem el_nn (x : Option Nat) : (el A x = none) = (x = none) := by cases x <;> simp [el]
theorem c_at (hw : Tw T) (t : KT T ex K) (h : KA A ex K S) {e : Nat} (he : e < Tn T) : f_X10_at (A 50 0) (nI e) S = some (some (A 0 e)) := by
  have h30 := hw.n30
  unfold f_X10_at
  rw [if_neg (nI_pos (by omega)), t.cnt h]
  simp only [qqb]
  rw [if_neg (nI_ge he (by omega)), if_neg (show ¬ (30 : Int32) ≤ nI e from nI_ge (show e < 30 by omega) (by decide)), t.els h]
  simp only [qqb]
  rw [t.elt h he (by omega)]
  rfl
theorem c_atN (hw : Tw T) (t : KT T ex K) (h : KA A ex K S) {x : Int32} (hx : ¬ (0 ≤ x ∧ x < nI (Tn T))) : f_X10_at (A 50 0) x S = some none := by
  have h30 := hw.n30
  unfold f_X10_at
  by_cases h0 : x < 0
  · rw [if_pos h0]; rfl
  · rw [if_neg h0, t.cnt h]
    simp only [qqb]
    have : nI (Tn T) ≤ x := by
      refine Int32.not_lt.mp (fun z => hx ⟨Int32.not_lt.mp h0, z⟩)
    rw [if_pos this]
    rfl
theorem Tpv_ix (hw : Tw T) {e : Nat} : (Tpv T e = none) ↔ Tix T e = 0 := by
  constructor
  · intro hn
    by_cases h0 : Tix T e = 0
    · exact h0
    · unfold Tpv at hn
      rw [if_neg h0] at hn
      have h1 := Tix_lt hw e
      have := List.getElem?_eq_none_iff.mp hn
      omega
  · intro h0
    unfold Tpv
    rw [if_pos h0]
theorem c_placeBehind_4 (hw : Tw T) (t : KT T ex K) (h : KA A ex K S) : ∀ d m c f, f < Tn T → Tix T f = d → d + 1 < m → f_X10_placeBehind_4 (A 50 0) m (nI c) (some (A 0 f)) S = some (nI (c + d + 1)) := by
  intro d
  induction d with
  | zero =>
    intro m c f hf hd hm
    obtain ⟨m, rfl⟩ : ∃ m', m = m' + 2 := ⟨m - 2, by omega⟩
    rw [f_X10_placeBehind_4, if_neg (fun z => by cases z), t.g13 h hf]
    simp only [qqb]
    rw [(Tpv_ix hw).mpr hd, f_X10_placeBehind_4, if_pos (el_none A), nI_1]
  | succ d ih =>
    intro m c f hf hd hm
    obtain ⟨m, rfl⟩ : ∃ m', m = m' + 1 := ⟨m - 1, by omega⟩
    rw [f_X10_placeBehind_4, if_neg (fun z => by cases z), t.g13 h hf]
    simp only [qqb]
    cases hp : Tpv T f with
    | none => have := (Tpv_ix hw).mp hp; omega
    | some g =>
      have hg := Tpv_some hw hp
      rw [el_some, nI_1, ih m (c + 1) g (Tpv_lt hw hf hp) (by omega) (by omega)]
      rw [show c + 1 + d + 1 = c + (d + 1) + 1 by omega]
theorem c_placeBehind (hw : Tw T) (t : KT T ex K) (h : KA A ex K S) {f : Nat} (hf : f < Tn T) : f_X10_placeBehind (A 50 0) (some (A 0 f)) S = some (nI (Tix T f + 2)) := by
  have := Tix_30 hw hf
  have h1 := c_placeBehind_4 hw t h (Tix T f) 4000 1 f hf rfl (by omega)
  rw [show 1 + Tix T f + 1 = Tix T f + 2 by omega] at h1
  exact h1
theorem c_topOf_4 (hw : Tw T) (t : KT T ex K) (h : KA A ex K S) {ν : Nat → Nat} (hν : ∀ e p, Tp T e = some p → ν p < ν e) : ∀ m e (y : Option Nat), e < Tn T → ν e + 1 < m → f_X10_topOf_4 (A 50 0) m y (some (A 0 e)) S = some (some (A 0 (TR T e))) := by
  intro m
  induction m with
  | zero => intro e y _ hm; omega
  | succ m ih =>
    intro e y he hm
    rw [f_X10_topOf_4, if_neg (fun z => by cases z), t.g8 h he]
    simp only [qqb]
    cases hp : Tp T e with
    | none =>
      obtain ⟨m, rfl⟩ : ∃ m', m = m' + 1 := ⟨m - 1, by omega⟩
      rw [f_X10_topOf_4, if_pos (el_none A), TR_n hw he hp]
    | some p =>
      have := hν e p hp
      rw [el_some, TR_p hw hp]
      exact ih p _ (hw.p hp).2.1 (by omega)
theorem c_topOf (hw : Tw T) (t : KT T ex K) (h : KA A ex K S) {e : Nat} (he : e < Tn T) : f_X10_topOf (A 50 0) (some (A 0 e)) S = some (some (A 0 (TR T e))) := by
  obtain ⟨ν, h1, h2, -⟩ := hw.rkb
  exact c_topOf_4 hw t h h2 4000 e _ he (by have := h1 e he; omega)
def LI (k _i j : Nat) : Prop := (k = 0 ∧ j = 14) ∨ (k = 1 ∧ j = 12) ∨ (k = 50 ∧ (j = 2 ∨ j = 3)) ∨ (k = 6 ∧ (j = 1 ∨ j = 4)) ∨ k = 10
def LR (k _i j : Nat) : Prop := k = 0 ∧ (j = 15 ∨ j = 16 ∨ j = 17)
theorem KT.keep {PI PR : Nat → Nat → Nat → Prop} {K' : kS} (t : KT T ex K) (b : kB PI PR K K') (h1 : ∀ i, ¬ PI 0 i 0 ∧ ¬ PI 0 i 1 ∧ ¬ PI 0 i 5 ∧ ¬ PI 0 i 7 ∧ ¬ PI 50 i 1) (h2 : ∀ i, (∀ j, 8 ≤ j → j ≤ 13 → ¬ PR 0 i j) ∧ ¬ PR 0 i 18 ∧ ¬ PR 0 i 19 ∧ ¬ PR 6 i 7 ∧ ¬ PR 50 i 0 ∧ ¬ PR 50 i 4 ∧ ∀ j, ¬ PR 51 i j) : KT T ex K' := by
  refine ⟨fun e he => ?_, ?_⟩
  · have := t.1 e he
    rw [b.1 0 e 0 (h1 e).1, b.1 0 e 1 (h1 e).2.1, b.1 0 e 5 (h1 e).2.2.1, b.1 0 e 7 (h1 e).2.2.2.1, b.2 0 e 8 ((h2 e).1 8 (by decide) (by decide)), b.2 0 e 9 ((h2 e).1 9 (by decide) (by decide)), b.2 0 e 10 ((h2 e).1 10 (by decide) (by decide)), b.2 0 e 11 ((h2 e).1 11 (by decide) (by decide)), b.2 0 e 12 ((h2 e).1 12 (by decide) (by decide)), b.2 0 e 13 ((h2 e).1 13 (by decide) (by decide)), b.2 0 e 18 (h2 e).2.1, b.2 0 e 19 (h2 e).2.2.1, b.2 6 e 7 (h2 e).2.2.2.1]
    exact this
  · have := t.2
    refine ⟨this.1, this.2.1, ?_, ?_, ?_, fun e he => ?_⟩
    · rw [b.1 50 0 1 (h1 0).2.2.2.2]; exact this.2.2.1
    · rw [b.2 50 0 0 (h2 0).2.2.2.2.1]; exact this.2.2.2.1
    · rw [b.2 50 0 4 (h2 0).2.2.2.2.2.1]; exact this.2.2.2.2.1
    · rw [b.2 51 0 e ((h2 0).2.2.2.2.2.2 e)]; exact this.2.2.2.2.2 e he
theorem KT.lay {K' : kS} (t : KT T ex K) (b : kB LI LR K K') : KT T ex K' := t.keep b (fun i => by simp [LI]) (fun i => ⟨fun j h1 h2 => by simp [LR]; omega, by simp [LR]⟩)
end CT
