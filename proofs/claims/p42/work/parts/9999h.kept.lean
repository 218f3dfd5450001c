def k8 (a : Int32) (o : Option mS) : Prop := ∀ s, o = some s → s.2 81 = a
def k9 (a : Int32) (o : Option (Int32 × mS)) : Prop := ∀ r, o = some r → r.2.2 81 = a
theorem k8.b {α : Type} {a : Int32} {x : Option α} {f : α → Option mS} (h : ∀ v, x = some v → k8 a (f v)) : k8 a (x.bind f) := fun r e => by
  obtain ⟨v, hv, e⟩ := ob e
  exact h v hv r e
theorem k9.b {α : Type} {a : Int32} {x : Option α} {f : α → Option (Int32 × mS)} (h : ∀ v, x = some v → k9 a (f v)) : k9 a (x.bind f) := fun r e => by
  obtain ⟨v, hv, e⟩ := ob e
  exact h v hv r e
theorem k8.i {a : Int32} {c : Prop} [Decidable c] {x y : Option mS} (h : k8 a x) (k : k8 a y) : k8 a (if c then x else y) := by
  by_cases hc : c
  · rw [if_pos hc]; exact h
  · rw [if_neg hc]; exact k
theorem k9.i {a : Int32} {c : Prop} [Decidable c] {x y : Option (Int32 × mS)} (h : k9 a x) (k : k9 a y) : k9 a (if c then x else y) := by
  by_cases hc : c
  · rw [if_pos hc]; exact h
  · rw [if_neg hc]; exact k
theorem k8.s {a : Int32} {σ : mS} (h : σ.2 81 = a) : k8 a (some σ) := fun r e => by cases e; exact h
theorem k9.s {a v : Int32} {σ : mS} (h : σ.2 81 = a) : k9 a (some (v, σ)) := fun r e => by cases e; exact h
theorem k9.z {a v : Int32} {σ : mS} (h : σ.2 81 = a) : k9 a (rzw v σ) := by
  unfold rzw
  exact k9.i (k9.s h) (fun r e => by cases e)
theorem k8.n {a : Int32} : k8 a none := fun r e => by cases e
theorem k8_wr {a : Int32} {σ : mS} (h : σ.2 81 = a) {f : Nat} {i v : Int32} : k8 a (wr σ f i v) := by
  unfold wr
  exact k8.i k8.n (k8.s h)
theorem k8_mark {a : Int32} {σ : mS} (h : σ.2 81 = a) {x : Int32} : k8 a (f_mark x σ) := by
  unfold f_mark
  exact k8.b fun v _ => k8.s ((sf_o (by decide)).trans h)
theorem k8_markAll {a : Int32} {σ : mS} (h : σ.2 81 = a) : k8 a (f_markAll σ) := by
  unfold f_markAll
  exact k8.b fun v _ => k8.s ((sf_o (by decide)).trans h)
theorem k8_84 {a : Int32} {x4 x5 : Int32} : ∀ (n : Nat) (x6 : Int32) (σ : mS), σ.2 81 = a → k8 a (f_markTest_84 n x4 x5 x6 σ) := by
  intro n
  induction n with
  | zero => intro x6 σ h; exact k8.n
  | succ n ih =>
    intro x6 σ h
    have g : ∀ y, k8 a (f_markTest_171 (f_markTest_84 n) x4 x5 x6 y σ) := fun y => k8.b fun v hv => ih _ v (k8_mark h v hv)
    have g2 : ∀ x7 y, k8 a (f_markTest_134 (f_markTest_84 n) x4 x5 x6 x7 y σ) := fun x7 y => k8.i (g _) (k8.i (g _) (k8.i (g _) (k8.i (g _) (g _))))
    rw [f_markTest_84]
    exact k8.i (k8.s h) (k8.i (k8.s h) (k8.b fun v _ => k8.i (g2 _ _) (k8.i (g2 _ _) (k8.b fun v2 _ => k8.i (g2 _ _) (g2 _ _)))))
theorem k8_8 {a : Int32} {x1 x2 : Int32} : ∀ (n : Nat) (x3 x4 x5 : Int32) (σ : mS), σ.2 81 = a → k8 a (f_markTest_8 n x1 x2 x3 x4 x5 σ) := by
  intro n
  induction n with
  | zero => intro x3 x4 x5 σ h; exact k8.n
  | succ n ih =>
    intro x3 x4 x5 σ h
    have g : ∀ y, k8 a (f_markTest_71 x1 x4 y σ) := fun y => k8.b fun v hv => k8.b fun t _ => k8_84 _ _ v (k8_mark h v hv)
    rw [f_markTest_8]
    exact k8.i (k8.i (g _) (g _)) (k8.b fun v1 _ => k8.b fun v2 _ => k8.b fun v3 _ => k8.b fun v4 _ => ih _ _ _ σ h)
theorem k8_markTest {a : Int32} {σ : mS} (h : σ.2 81 = a) {x y : Int32} : k8 a (f_markTest x y σ) := k8_8 _ _ _ _ σ h
theorem k8_b7 {a : Int32} {x1 x2 : Int32} : ∀ (n : Nat) (x3 : Int32) (σ : mS), σ.2 81 = a → k8 a (f_markBelow_7 n x1 x2 x3 σ) := by
  intro n
  induction n with
  | zero => intro x3 σ h; exact k8.n
  | succ n ih =>
    intro x3 σ h
    have g : ∀ y z, k8 a (f_markBelow_45 (f_markBelow_7 n) x1 x2 x3 y z σ) := fun y z => ih _ _ ((sf_o (by decide)).trans h)
    rw [f_markBelow_7]
    exact k8.i (k8.s h) (k8.b fun v1 _ => k8.i (g _ _) (k8.b fun v2 _ => k8.i (g _ _) (g _ _)))
theorem k8_below {a : Int32} {σ : mS} (h : σ.2 81 = a) {x : Int32} : k8 a (f_markBelow x σ) := k8.b fun v _ => k8_b7 _ _ σ h
theorem k8_h19 {a : Int32} {σ : mS} (h : σ.2 81 = a) {x : Int32} : k8 a (f_markHosts_19 x σ) := k8.i (k8.s h) (k8.b fun v hv => k8.s (k8_below h v hv))
theorem k8_hosts {a : Int32} {σ : mS} (h : σ.2 81 = a) {x y : Int32} : k8 a (f_markHosts x y σ) := k8.i (k8_h19 h) (k8.b fun v _ => k8.i (k8.b fun w hw => k8_h19 (k8_below h w hw)) (k8_h19 h))
theorem k9_h0 {σ : mS} {F : Int32 × mS → Option (Int32 × mS)} (h : ∀ τ : mS, τ.2 81 = 0 → k9 0 (F (0, τ))) : k9 0 ((f_holds 0 σ).bind F) := by
  rw [r_holds0, qqx]
  exact h _ (sf_s _ _ _)
theorem n_setClass {x1 x2 x3 : Int32} {σ : mS} : k9 0 (f_setClass_29 x1 x2 x3 0 σ) := k9_h0 fun τ h => by
  have g : ∀ y1 y2 y3 : Int32, k9 0 (f_setClass_84 x1 x2 y1 y2 y3 τ) := fun y1 y2 y3 => k9.b fun s hs => k9.b fun t ht => k9.z (k8_markTest (k8_wr h s hs) t ht)
  exact k9.i (k9.b fun v2 _ => k9.b fun v3 _ => k9.i (k9.b fun v4 _ => g _ _ _) (k9.b fun v5 _ => g _ _ _)) (k9.z h)
theorem n_setPart {x1 x2 : Int32} {σ : mS} : k9 0 (f_setPart_28 x1 x2 0 σ) := k9_h0 fun τ h => k9.i (k9.b fun v _ => k9.b fun s hs => k9.b fun t ht => k9.s (k8_mark (k8_wr h s hs) t ht)) (k9.s h)
theorem n_setAttribute {x1 x2 x3 : Int32} {σ : mS} : k9 0 (f_setAttribute_39 x1 x2 x3 0 σ) := k9_h0 fun τ h => by
  have g : ∀ (s : mS) (y : Int32), s.2 81 = 0 → k9 0 (f_setAttribute_104 x1 x2 y s) := fun s y hs => k9.b fun t ht => k9.s (k8_markTest hs t ht)
  have g2 : ∀ y, k9 0 (f_setAttribute_66 x1 x2 x3 y τ) := fun y => k9.i (k9.b fun s hs => g s y (k8_wr h s hs)) (k9.b fun s hs => k9.b fun v2 _ => k9.b fun v3 _ => k9.b fun t ht => g t y (k8_hosts (k8_wr h s hs) t ht))
  exact k9.i (k9.i (k9.b fun v _ => g2 _) (k9.b fun v _ => g2 _)) (k9.s h)
theorem n_turn {x1 x2 : Int32} {σ : mS} : k9 0 (f_turn_21 x1 x2 0 σ) := k9_h0 fun τ h => by
  have g : ∀ y1 y2 y3 : Int32, k9 0 (f_turn_59 y1 y2 y3 τ) := fun y1 y2 y3 => k9.b fun s hs => k9.b fun t ht => k9.z (k8_markAll (k8_wr h s hs) t ht)
  have g2 : ∀ y, k9 0 (f_turn_44 x1 x2 y τ) := fun y => k9.i (g _ _ _) (g _ _ _)
  exact k9.i (k9.b fun v _ => k9.i (g2 _) (g2 _)) (k9.z h)
theorem n_setWidth {x1 : Int32} {σ : mS} : k9 0 (f_setWidth_18 x1 0 σ) := k9_h0 fun τ h => k9.i (k9.b fun s hs => k9.s (k8_markAll ((sf_o (by decide)).trans h) s hs)) (k9.s h)
theorem n_make {x1 : Int32} {σ : mS} : k9 0 (f_make_30 x1 0 σ) := k9_h0 fun τ h => k9.i (k9.b fun s hs => k9.s ((sf_o (by decide)).trans (k8_wr h s hs))) (k9.s h)
section ED
variable {mm : Nat × Nat × Nat} {hl dr : Bool} {T : qqT} {G : qqG} {V : lwS} {e p k r : Nat}
theorem t_ok {g : mS → Option (Int32 × mS)} {mm' : Nat × Nat × Nat} {hl' dr' : Bool} {P : qqT → qqG → mS → Prop} (t : stP g mm hl dr mm' hl' dr' T G P V) (z : k9 0 (g V.1)) : ∃ v σ', oC g V = some (v, (σ', V.2.1 + 1, V.2.2)) ∧ ∃ T' G', P T' G' σ' ∧ LQ mm' hl' dr' T' G' (σ', V.2.1 + 1, V.2.2) := by
  obtain ⟨a, σ', e1, -⟩ := id t
  obtain ⟨h1, h2⟩ := oC_ok t e1 (z _ e1)
  exact ⟨a, σ', h1, h2⟩
theorem e_setClass (hk : V.2.1 < 60000) (h : LQ mm hl dr T G V) (he : e < Tn T) (hp : p < 8) {a3 : Int32} (z : a3 = 0 ∨ a3 = 1) : ∃ v σ', oC (f_setClass (nI e) (nI p) a3) V = some (v, (σ', V.2.1 + 1, V.2.2)) ∧ LQ mm hl dr T G (σ', V.2.1 + 1, V.2.2) := by
  have J := h.j1
  have h30 := J.1.1.n30
  obtain ⟨v, σ', h1, T', G', ⟨rfl, rfl, -⟩, l⟩ := t_ok (t_setClass hk h (nI e) (nI p) a3 z) (by
    unfold f_setClass
    rw [r_isElement J.1.2.1 J.1.1, qqx, if_dt (nI_inn he (by omega)), r_in0 (nI p) (n := 8) (by decide) (by decide), qqx, if_dt (nI_inn hp (by decide))]
    exact n_setClass)
  exact ⟨v, σ', h1, l⟩
theorem e_setPart (hk : V.2.1 < 60000) (h : LQ mm hl dr T G V) (he : e < Tn T) {x : Int32} (hx : x = -1 ∨ (0 ≤ x ∧ x < nI 4)) : ∃ v σ', oC (f_setPart (nI e) x) V = some (v, (σ', V.2.1 + 1, V.2.2)) ∧ LQ mm hl dr T G (σ', V.2.1 + 1, V.2.2) := by
  have J := h.j1
  have h30 := J.1.1.n30
  obtain ⟨v, σ', h1, T', G', ⟨rfl, rfl, -⟩, l⟩ := t_ok (t_setPart hk h (nI e) x) (by
    unfold f_setPart
    rw [r_isElement J.1.2.1 J.1.1, qqx, if_dt (nI_inn he (by omega)), r_inm x (n := 4) (by decide) (by decide), qqx, if_neg (by
      rcases hx with hx | hx
      · rw [decide_eq_true hx, Bool.true_or]; decide
      · rw [decide_eq_true hx, Bool.or_true]; decide)]
    exact n_setPart)
  exact ⟨v, σ', h1, l⟩
theorem e_turn (hk : V.2.1 < 60000) (h : LQ mm hl dr T G V) (he : e < Gk G) {a2 : Int32} (z : a2 = 0 ∨ a2 = 1) : ∃ v σ', oC (f_turn (nI e) a2) V = some (v, (σ', V.2.1 + 1, V.2.2)) ∧ LQ mm hl dr T G (σ', V.2.1 + 1, V.2.2) := by
  have J := h.j1
  have k8' := J.1.2.2.k8
  obtain ⟨v, σ', h1, T', G', ⟨rfl, rfl, -⟩, l⟩ := t_ok (t_turn hk h (nI e) a2 z) (by
    unfold f_turn
    rw [J.1.2.2.1, r_in0 (nI e) (n := Gk G) (by omega) rfl, qqx, if_dt (nI_inn he (by omega))]
    exact n_turn)
  exact ⟨v, σ', h1, l⟩
theorem e_setWidth (hk : V.2.1 < 60000) (h : LQ mm hl dr T G V) (he : e < 10000) : ∃ v σ', oC (f_setWidth (nI e)) V = some (v, (σ', V.2.1 + 1, V.2.2)) ∧ LQ mm hl dr T G (σ', V.2.1 + 1, V.2.2) := by
  obtain ⟨v, σ', h1, T', G', ⟨rfl, rfl, -⟩, l⟩ := t_ok (t_setWidth hk h (nI e)) (by
    unfold f_setWidth
    rw [r_in0 (nI e) (n := 10000) (by decide) (by decide), qqx, if_dt (nI_inn he (by decide))]
    exact n_setWidth)
  exact ⟨v, σ', h1, l⟩
theorem e_make (hk : V.2.1 < 60000) (h : LQ mm hl dr T G V) (hT : Tn T < 30) (he : e < 8) : ∃ v σ' b, oC (f_make (nI e)) V = some (v, (σ', V.2.1 + 1, V.2.2)) ∧ LQ mm hl dr (Tnw T b) G (σ', V.2.1 + 1, V.2.2) := by
  have J := h.j1
  obtain ⟨v, σ', h1, T', G', ⟨rfl, x, b, rfl, -⟩, l⟩ := t_ok (t_make hk h (nI e)) (by
    unfold f_make
    rw [r_in0 (nI e) (n := 8) (by decide) (by decide), qqx, if_dt (nI_inn he (by decide)), J.1.2.1.1, if_neg (show ¬ nI (Tn T) = 30 from fun z => absurd ((nI_eqE (b := 30) (by omega) (by decide)).mp z) (by omega))]
    exact n_make)
  exact ⟨v, σ', b, h1, l⟩
end ED
