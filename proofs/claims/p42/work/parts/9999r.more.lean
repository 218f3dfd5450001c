def aF (f : Nat) (o : Option (Int32 × mS)) : Prop := ∀ r, o = some r → r.2.2 81 ≠ 0 ∨ r.1 = r.2.2 f - 1
theorem aF.b {α : Type} {f : Nat} {x : Option α} {F : α → Option (Int32 × mS)} (h : ∀ v, x = some v → aF f (F v)) : aF f (x.bind F) := fun r e => by
  obtain ⟨v, hv, e⟩ := ob e
  exact h v hv r e
theorem aF.i {f : Nat} {c : Prop} [Decidable c] {x y : Option (Int32 × mS)} (h : aF f x) (k : aF f y) : aF f (if c then x else y) := by
  by_cases hc : c
  · rw [if_pos hc]; exact h
  · rw [if_neg hc]; exact k
theorem aF.h {f : Nat} {y : Int32} {σ : mS} {X : Int32 × mS → Option (Int32 × mS)} (hX : ∀ v1, aF f (X v1)) : aF f ((f_holds y σ).bind fun v1 => if v1.1 = (0:Int32) then X v1 else some (((-1):Int32), v1.2)) := aF.b fun v1 h1 => by
  by_cases c : v1.1 = (0:Int32)
  · rw [if_pos c]; exact hX v1
  · rw [if_neg c]
    intro r e
    cases e
    refine Or.inl ?_
    show v1.2.2 81 ≠ 0
    unfold f_holds at h1
    by_cases z : y ≤ 0
    · rw [if_pos z] at h1
      cases h1
      exact absurd rfl c
    · rw [if_neg z] at h1
      cases h1
      show (sf σ 81 y).2 81 ≠ 0
      rw [sf_s]
      intro w
      exact z (by rw [w]; exact Int32.le_refl _)
theorem aF.s {f : Nat} {v : Int32} {σ : mS} (h : σ.2 81 ≠ 0 ∨ v = σ.2 f - 1) : aF f (some (v, σ)) := fun r e => by cases e; exact h
theorem aF_sheet {x1 x2 x3 : Int32} {σ : mS} : aF 31 (f_sheet x1 x2 x3 σ) := by
  have g : ∀ y, aF 31 (f_sheet_51 x1 x2 x3 y σ) := fun y => aF.h fun v1 => aF.b fun s2 _ => aF.b fun s3 _ => aF.b fun s4 _ => aF.b fun s5 _ => aF.b fun v6 _ => aF.s (Or.inr rfl)
  unfold f_sheet
  exact aF.b fun v1 _ => aF.i (g _) (aF.b fun v2 _ => aF.i (g _) (aF.b fun v3 _ => aF.i (g _) (aF.i (g _) (g _))))
theorem aF_rule {x1 x2 : Int32} {σ : mS} : aF 36 (f_rule x1 x2 σ) := by
  have g : ∀ y, aF 36 (f_rule_42 x1 x2 y σ) := fun y => aF.h fun v1 => aF.b fun s2 _ => aF.b fun s3 _ => aF.b fun s4 _ => aF.b fun s5 _ => aF.s (Or.inr rfl)
  unfold f_rule
  exact aF.b fun v1 _ => aF.i (g _) (aF.b fun v2 _ => aF.i (g _) (aF.i (g _) (g _)))
theorem aF_make {x1 : Int32} {σ : mS} : aF 13 (f_make x1 σ) := by
  have g : ∀ y, aF 13 (f_make_30 x1 y σ) := fun y => aF.h fun v1 => aF.b fun s2 _ => aF.s (Or.inr rfl)
  unfold f_make
  exact aF.b fun v1 _ => aF.i (g _) (aF.i (g _) (g _))
theorem m9.c {c : Prop} [Decidable c] {x y : Option (Int32 × mS)} (h : c → m9 x) (k : ¬ c → m9 y) : m9 (if c then x else y) := by
  by_cases hc : c
  · rw [if_pos hc]; exact h hc
  · rw [if_neg hc]; exact k hc
theorem m9_t194 {x1 x2 x3 x4 x5 : Int32} {σ : mS} (h : (-1 : Int32) ≤ 100 + x3) : m9 (f_take_194 x1 x2 x3 x4 x5 σ) := m9.b fun s1 _ => m9.b fun s2 _ => m9.b fun v3 _ => m9.b fun v4 _ => m9.c (fun _ => m9.s h) (fun z => m9.s (Int32.le_trans (show (-1 : Int32) ≤ 0 by decide) (Int32.not_lt.mp z)))
theorem m9_t151 {x1 x2 x3 x4 x5 : Int32} (h : (-1 : Int32) ≤ 100 + x3) : ∀ (n : Nat) (x7 : Int32) (σ : mS), m9 (f_take_151 n x1 x2 x3 x4 x5 x7 σ) := by
  intro n
  induction n with
  | zero => intro x7 σ r e; cases e
  | succ n ih =>
    intro x7 σ
    rw [f_take_151]
    exact m9.b fun v1 _ => m9.i (m9_t194 h) (m9.b fun v2 _ => m9.b fun s3 _ => ih _ s3)
theorem m9_t91 {x1 x2 x3 x4 x5 : Int32} (h : (-1 : Int32) ≤ 100 + x3) : ∀ (n : Nat) (x7 : Int32) (σ : mS), m9 (f_take_91 n x1 x2 x3 x4 x5 x7 σ) := by
  intro n
  induction n with
  | zero => intro x7 σ r e; cases e
  | succ n ih =>
    intro x7 σ
    rw [f_take_91]
    exact m9.b fun v1 _ => m9.i (m9_t194 h) (m9.b fun v2 _ => m9.b fun s3 _ => ih _ s3)
theorem t7_gm {T : qqT} {σ : mS} (hw : Tw T) (rt : RT T σ) {i v : Int32} (h : rd σ 7 i = some v) : (-1 : Int32) ≤ 100 + v := by
  unfold rd at h
  by_cases c : i < 0 ∨ mLen 7 ≤ i.toNatClampNeg
  · rw [if_pos c] at h; cases h
  · rw [if_neg c] at h
    have h := Option.some.inj h
    have hk : i.toNatClampNeg < 30 := Nat.lt_of_not_le (fun z => c (Or.inr z))
    rw [← h, rt.2.2.1 _ hk]
    cases hh : Th T i.toNatClampNeg with
    | none => decide
    | some q =>
      have := (hw.h hh).2.1
      have := hw.n30
      show (-1 : Int32) ≤ nI 100 + nI q
      rw [nI_add]
      exact nI_gm (by omega)
theorem m9_take {T : qqT} {σ : mS} (hw : Tw T) (rt : RT T σ) {x1 : Int32} : m9 (f_take x1 σ) := by
  have g : ∀ y, m9 (f_take_30 x1 y σ) := fun y => m9.b fun v1 h1 => by
    have e1 : v1.2.1 = σ.1 := by
      unfold f_holds at h1
      by_cases c : y ≤ 0
      · rw [if_pos c] at h1; cases h1; rfl
      · rw [if_neg c] at h1; cases h1; rfl
    refine m9.i (m9.b fun v2 _ => m9.b fun v3 h3 => ?_) (m9.s (by decide))
    have k : (-1 : Int32) ≤ 100 + v3 := t7_gm hw rt (by unfold rd at h3 ⊢; rw [e1] at h3; exact h3)
    exact m9.b fun v4 _ => m9.b fun v5 _ => m9.b fun v6 _ => m9.i (m9.b fun v7 _ => m9.b fun s8 _ => m9_t151 k _ _ _) (m9.b fun v9 _ => m9.b fun s10 _ => m9_t91 k _ _ _)
  unfold f_take
  exact m9.b fun v1 _ => m9.i (g _) (m9.i (g _) (m9.b fun v2 _ => m9.i (g _) (g _)))
section E5
variable {mm : Nat × Nat × Nat} {hl dr : Bool} {T : qqT} {G : qqG} {V : lwS} {e p k r : Nat}
theorem oC_g {g : mS → Option (Int32 × mS)} {v : Int32} {σ' : mS} {c : Nat} {A : Nat → Option (Nat × (Nat → Int32))} (h : oC g V = some (v, (σ', c, A))) : g V.1 = some (v, σ') ∧ σ'.2 81 = 0 := by
  unfold oC oR at h
  obtain ⟨x, h1, h2⟩ := ob h
  by_cases hk : V.2.1 < 60000
  · rw [if_pos hk] at h1
    obtain ⟨q, h3, h4⟩ := ob h1
    cases h4
    by_cases z : q.2.2 81 = 0
    · have h2 : (if q.2.2 81 = 0 then some (q.1, (q.2, V.2.1 + 1, V.2.2)) else none) = some (v, (σ', c, A)) := h2
      rw [if_pos z] at h2
      cases h2
      exact ⟨h3, z⟩
    · have h2 : (if q.2.2 81 = 0 then some (q.1, (q.2, V.2.1 + 1, V.2.2)) else none) = some (v, (σ', c, A)) := h2
      rw [if_neg z] at h2
      cases h2
  · rw [if_neg hk] at h1
    cases h1
theorem t_ok2 {g : mS → Option (Int32 × mS)} {mm' : Nat × Nat × Nat} {hl' dr' : Bool} {P : qqT → qqG → mS → Prop} (t : stP g mm hl dr mm' hl' dr' T G P V) (z : k9 0 (g V.1)) : ∃ v σ', g V.1 = some (v, σ') ∧ oC g V = some (v, (σ', V.2.1 + 1, V.2.2)) ∧ ∃ T' G', P T' G' σ' ∧ LQ mm' hl' dr' T' G' (σ', V.2.1 + 1, V.2.2) := by
  obtain ⟨a, σ', e1, -⟩ := id t
  obtain ⟨h1, h2⟩ := oC_ok t e1 (z _ e1)
  exact ⟨a, σ', e1, h1, h2⟩
theorem e5_setClass (hk : V.2.1 < 60000) (h : LQ mm hl dr T G V) (he : e < Tn T) (hp : p < 8) {a3 : Int32} (z : a3 = 0 ∨ a3 = 1) : ∃ v σ', oC (f_setClass (nI e) (nI p) a3) V = some (v, (σ', V.2.1 + 1, V.2.2)) ∧ LQ mm hl dr T G (σ', V.2.1 + 1, V.2.2) ∧ σ'.2 50 = V.1.2 50 := by
  obtain ⟨v, σ', h1, -⟩ := e_setClass hk h he hp z
  obtain ⟨g1, g2⟩ := oC_g h1
  obtain ⟨-, T', G', q, l⟩ := oC_ok (t_setClass hk h (nI e) (nI p) a3 z) g1 g2
  have w := u_cl q
  obtain ⟨rfl, rfl, -⟩ := q
  exact ⟨v, σ', h1, l, w⟩
theorem e5_setPart (hk : V.2.1 < 60000) (h : LQ mm hl dr T G V) (he : e < Tn T) {x : Int32} (hx : x = -1 ∨ (0 ≤ x ∧ x < nI 4)) : ∃ v σ', oC (f_setPart (nI e) x) V = some (v, (σ', V.2.1 + 1, V.2.2)) ∧ LQ mm hl dr T G (σ', V.2.1 + 1, V.2.2) ∧ σ'.2 50 = V.1.2 50 := by
  obtain ⟨v, σ', h1, -⟩ := e_setPart hk h he hx
  obtain ⟨g1, g2⟩ := oC_g h1
  obtain ⟨-, T', G', q, l⟩ := oC_ok (t_setPart hk h (nI e) x) g1 g2
  have w := u_pt q
  obtain ⟨rfl, rfl, -⟩ := q
  exact ⟨v, σ', h1, l, w⟩
theorem e5_setAttribute (hk : V.2.1 < 60000) (h : LQ mm hl dr T G V) (he : e < Tn T) (hp : p < 2) {x : Int32} (hx : x = -1 ∨ (0 ≤ x ∧ x < nI 10)) : ∃ v σ' T', oC (f_setAttribute (nI e) (nI p) x) V = some (v, (σ', V.2.1 + 1, V.2.2)) ∧ Tn T' = Tn T ∧ LQ mm hl dr T' G (σ', V.2.1 + 1, V.2.2) ∧ σ'.2 50 = V.1.2 50 := by
  obtain ⟨v, σ', T1, h1, -⟩ := e_setAttribute hk h he hp hx
  obtain ⟨g1, g2⟩ := oC_g h1
  obtain ⟨-, T', G', q, l⟩ := oC_ok (t_setAttribute hk h (nI e) (nI p) x) g1 g2
  have w := u_at q
  obtain ⟨rfl, e0, x0, -, pp⟩ := q
  refine ⟨v, σ', T', h1, ?_, l, w⟩
  rcases pp with ⟨rfl, -⟩ | ⟨rfl, -⟩
  · rfl
  · rfl
theorem e5_turn (hk : V.2.1 < 60000) (h : LQ mm hl dr T G V) (he : e < Gk G) {a2 : Int32} (z : a2 = 0 ∨ a2 = 1) : ∃ v σ', oC (f_turn (nI e) a2) V = some (v, (σ', V.2.1 + 1, V.2.2)) ∧ LQ mm hl dr T G (σ', V.2.1 + 1, V.2.2) ∧ σ'.2 50 = V.1.2 50 := by
  obtain ⟨v, σ', h1, l⟩ := e_turn hk h he z
  obtain ⟨g1, g2⟩ := oC_g h1
  exact ⟨v, σ', h1, l, q9_turn _ g1⟩
theorem e5_setWidth (hk : V.2.1 < 60000) (h : LQ mm hl dr T G V) (he : e < 10000) : ∃ σ', oC (f_setWidth (nI e)) V = some (V.1.2 50, (σ', V.2.1 + 1, V.2.2)) ∧ LQ mm hl dr T G (σ', V.2.1 + 1, V.2.2) ∧ σ'.2 50 = nI e := by
  obtain ⟨v, σ', h1, l⟩ := e_setWidth hk h he
  obtain ⟨g1, g2⟩ := oC_g h1
  unfold f_setWidth at g1
  rw [r_in0 (nI e) (n := 10000) (by decide) (by decide), qqx, if_dt (nI_inn he (by decide))] at g1
  unfold f_setWidth_18 at g1
  rw [r_holds0, qqx, if_pos rfl] at g1
  obtain ⟨τ, hτ, g1⟩ := ob g1
  cases g1
  refine ⟨σ', ?_, l, q8_markAll (sf_s _ _ _) σ' hτ⟩
  rw [h1]
  show some ((sf V.1 81 0).2 50, _) = _
  rw [sf50]
theorem e5_make (hk : V.2.1 < 60000) (h : LQ mm hl dr T G V) (hT : Tn T < 30) (he : e < 8) : ∃ σ' b, oC (f_make (nI e)) V = some (nI (Tn T), (σ', V.2.1 + 1, V.2.2)) ∧ LQ mm hl dr (Tnw T b) G (σ', V.2.1 + 1, V.2.2) ∧ σ'.2 50 = V.1.2 50 := by
  obtain ⟨v, σ', b0, h1, -⟩ := e_make hk h hT he
  obtain ⟨g1, g2⟩ := oC_g h1
  obtain ⟨-, T', G', q, l⟩ := oC_ok (t_make hk h (nI e)) g1 g2
  have w := u_mk q
  obtain ⟨rfl, x, b, rfl, -, e9⟩ := q
  have hv : v = nI (Tn T) := by
    have n13 : σ'.2 13 = nI (Tn T + 1) := l.j1.1.2.1.1
    have J := h.j1
    have g3 := g1
    unfold f_make at g3
    rw [r_in0 (nI e) (n := 8) (by decide) (by decide), qqx, if_dt (nI_inn he (by decide)), J.1.2.1.1, if_neg (show ¬ nI (Tn T) = 30 from fun z => absurd ((nI_eqE (b := 30) (by omega) (by decide)).mp z) (by omega))] at g3
    unfold f_make_30 at g3
    rw [r_holds0, qqx, if_pos rfl] at g3
    obtain ⟨s2, hs, g3⟩ := ob g3
    have g4 := Option.some.inj g3
    have e1 : ((sf s2 13 ((s2.2 13) + (1:Int32))).2 13) - (1:Int32) = v := congrArg Prod.fst g4
    have e2 : sf s2 13 ((s2.2 13) + (1:Int32)) = σ' := congrArg Prod.snd g4
    rw [e2, n13, nI_pred] at e1
    exact e1.symm
  rw [hv] at h1
  exact ⟨σ', b, h1, l, w⟩
theorem e5_select (hk : V.2.1 < 60000) (h : LQ mm hl dr T G V) (lt : Gs G < 30) : ∃ σ', oC f_select V = some (nI (Gs G), (σ', V.2.1 + 1, V.2.2)) ∧ LQ mm hl false T (gSe G) (σ', V.2.1 + 1, V.2.2) ∧ σ'.2 50 = V.1.2 50 := by
  obtain ⟨σ', h1, l⟩ := e_select hk h lt
  obtain ⟨g1, g2⟩ := oC_g h1
  obtain ⟨-, T', G', q, -⟩ := oC_ok (t_select hk h) g1 g2
  exact ⟨σ', h1, l, u_se q⟩
theorem a5_value (hk : V.2.1 < 60000) (h : LQ mm hl dr T G V) {x1 x2 v : Int32} {σ' : mS} {c : Nat} {A : Nat → Option (Nat × (Nat → Int32))} (h1 : oC (f_value x1 x2) V = some (v, (σ', c, A))) : σ'.2 50 = V.1.2 50 := by
  obtain ⟨g1, g2⟩ := oC_g h1
  obtain ⟨-, T', G', ⟨-, -, e9⟩, -⟩ := oC_ok (t_value hk h x1 x2) g1 g2
  exact u_rd h.j1 h.2 hk e9
end E5
