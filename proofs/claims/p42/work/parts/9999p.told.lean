def m9 (o : Option (Int32 × mS)) : Prop := ∀ r, o = some r → (-1 : Int32) ≤ r.1
theorem m9.b {α : Type} {x : Option α} {f : α → Option (Int32 × mS)} (h : ∀ v, x = some v → m9 (f v)) : m9 (x.bind f) := fun r e => by
  obtain ⟨v, hv, e⟩ := ob e
  exact h v hv r e
theorem m9.i {c : Prop} [Decidable c] {x y : Option (Int32 × mS)} (h : m9 x) (k : m9 y) : m9 (if c then x else y) := by
  by_cases hc : c
  · rw [if_pos hc]; exact h
  · rw [if_neg hc]; exact k
theorem m9.s {v : Int32} {σ : mS} (h : (-1 : Int32) ≤ v) : m9 (some (v, σ)) := fun r e => by cases e; exact h
theorem nI_gm {n : Nat} (h : n < 2 ^ 31) : (-1 : Int32) ≤ nI n := Int32.le_trans (show (-1 : Int32) ≤ 0 by decide) (Int32.not_lt.mp (nI_pos h))
theorem dcl_4 {x1 : Int32} {σ : mS} : ∀ (d m i c : Nat), i + d = 15 → c ≤ i → ∀ r, f_declared_4 m x1 (nI c) (nI i) σ = some r → ∃ n, n ≤ 15 ∧ r = nI n := by
  intro d
  induction d with
  | zero =>
    intro m i c hi hc r h
    have hi : i = 15 := by omega
    subst hi
    cases m with
    | zero => cases h
    | succ m => rw [f_declared_4, if_pos (by decide)] at h; cases h; exact ⟨c, hc, rfl⟩
  | succ d ih =>
    intro m i c hi hc r h
    cases m with
    | zero => cases h
    | succ m =>
      rw [f_declared_4, if_neg (show ¬ (15 : Int32) ≤ nI i from nI_ge (b := 15) (by omega) (by decide))] at h
      obtain ⟨v, -, h⟩ := ob h
      have g : ∀ b : Nat, b ≤ 1 → f_declared_27 (fun z0 z1 z2 => f_declared_4 m z0 z1 z2 σ) x1 (nI i) (nI c) (nI b) σ = some r → ∃ n, n ≤ 15 ∧ r = nI n := fun b hb h => by
        unfold f_declared_27 at h
        rw [nI_add, nI_1] at h
        exact ih m (i + 1) (c + b) (by omega) (by omega) r h
      by_cases z : v < 0
      · rw [if_pos z] at h; exact g 0 (by omega) h
      · rw [if_neg z] at h; exact g 1 (by omega) h
theorem m9_row {x : Int32} {σ : mS} : m9 (f_markRow x σ) := by
  have g : ∀ τ, m9 (f_markRow_27 x τ) := fun τ => m9.b fun v hv => m9.s (by
    obtain ⟨n, hn, rfl⟩ := dcl_4 15 4000 0 0 (by omega) (Nat.le_refl _) v hv
    exact nI_gm (by omega))
  unfold f_markRow
  exact m9.i (m9.b fun v1 _ => m9.b fun v2 _ => g _) (m9.b fun v3 _ => g _)
theorem m9_151 {x : Int32} {σ : mS} : m9 (f_declare_151 x σ) := m9.b fun v hv => m9.s (m9_row v hv)
theorem m9_144 {x : Int32} {σ : mS} : m9 (f_declareVar_144 x σ) := m9.b fun v hv => m9.s (m9_row v hv)
theorem m9_declare {x1 x2 x3 x4 x5 : Int32} {σ : mS} : m9 (f_declare x1 x2 x3 x4 x5 σ) := by
  have g117 : ∀ x6 y1 y2 τ, m9 (f_declare_117 x2 x3 x4 x5 x6 y1 y2 τ) := fun x6 y1 y2 τ => m9.b fun v _ => m9.i (m9.b fun w _ => m9_151) m9_151
  have g95 : ∀ x6 y, m9 (f_declare_95 x2 x3 x4 x5 x6 y σ) := fun x6 y => m9.b fun v _ => m9.i (m9.i (g117 _ _ _ _) (g117 _ _ _ _)) (m9.s (by decide))
  have g73 : ∀ x6 y, m9 (f_declare_73 x2 x3 x4 x5 x6 y σ) := fun x6 y => m9.i (m9.i (g95 _ _) (g95 _ _)) (g95 _ _)
  have g61 : ∀ x6 y, m9 (f_declare_61 x2 x3 x4 x5 x6 y σ) := fun x6 y => m9.b fun v _ => m9.i (g73 _ _) (g73 _ _)
  have g49 : ∀ x6, m9 (f_declare_49 x2 x3 x4 x5 x6 σ) := fun x6 => m9.i (g61 _ _) (g61 _ _)
  unfold f_declare
  exact m9.b fun v1 _ => m9.b fun v2 _ => m9.i (g73 _ _) (m9.b fun v3 _ => m9.i (g73 _ _) (m9.i (g49 _) (m9.b fun v4 _ => m9.i (g73 _ _) (g49 _))))
theorem m9_declareVar {x1 x2 x3 x4 x5 x6 : Int32} {σ : mS} : m9 (f_declareVar x1 x2 x3 x4 x5 x6 σ) := by
  have g106 : ∀ x7 y1 y2 τ, m9 (f_declareVar_106 x2 x3 x4 x5 x6 x7 y1 y2 τ) := fun x7 y1 y2 τ => m9.b fun v _ => m9.i (m9.b fun w _ => m9_144) m9_144
  have g84 : ∀ x7 y, m9 (f_declareVar_84 x2 x3 x4 x5 x6 x7 y σ) := fun x7 y => m9.b fun v _ => m9.i (m9.i (g106 _ _ _ _) (g106 _ _ _ _)) (m9.s (by decide))
  have g62 : ∀ x7 y, m9 (f_declareVar_62 x2 x3 x4 x5 x6 x7 y σ) := fun x7 y => m9.i (m9.i (g84 _ _) (g84 _ _)) (g84 _ _)
  have g61 : ∀ x7, m9 (f_declareVar_61 x2 x3 x4 x5 x6 x7 σ) := fun x7 => g62 _ _
  unfold f_declareVar
  exact m9.b fun v1 _ => m9.b fun v2 _ => m9.i (g61 _) (m9.b fun v3 _ => m9.i (g61 _) (m9.b fun v4 _ => m9.i (g61 _) (m9.b fun v5 _ => m9.i (g61 _) (g62 _ _))))
