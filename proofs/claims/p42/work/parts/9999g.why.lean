def inW (τ : mS) (o : Option (Int32 × mS)) : Prop := ∀ r, o = some r → ((0 : Int32) ≤ r.1 ∧ r.1 ≤ 11) ∧ r.2 = τ
theorem inW.b {α : Type} {τ : mS} {x : Option α} {f : α → Option (Int32 × mS)} (h : ∀ a, x = some a → inW τ (f a)) : inW τ (x.bind f) := fun r e => by
  obtain ⟨a, ha, e⟩ := ob e
  exact h a ha r e
theorem inW.i {τ : mS} {c : Prop} [Decidable c] {x y : Option (Int32 × mS)} (h : inW τ x) (k : inW τ y) : inW τ (if c then x else y) := by
  by_cases hc : c
  · rw [if_pos hc]; exact h
  · rw [if_neg hc]; exact k
theorem inW.n {τ : mS} {c : Prop} [Decidable c] {x y : Option (Int32 × mS)} (h : inW τ x) (k : ¬ c → inW τ y) : inW τ (if c then x else y) := by
  by_cases hc : c
  · rw [if_pos hc]; exact h
  · rw [if_neg hc]; exact k hc
/-- what is known of a rule that 'why' holds against the winner -/
def agQ (e p r : Nat) (τ : mS) : Prop := ∀ v3 v4 v5 v6 v7 v8 v9 v10 v11 : Int32, rd τ 37 ((16 : Int32) * nI r + nI p) = some v3 → ¬ v3 < 0 → rd τ 32 (nI r) = some v4 → rd τ 30 v4 = some v5 → ¬ v5 = 0 → f_stands (nI r) τ = some v6 → ¬ v6 = 0 → rd τ 74 (nI r) = some v7 → f_bit v7 (nI e) = some v8 → ¬ v8 = 0 → f_fits (nI r) (nI e) 0 0 τ = some v9 → ¬ v9 = 0 → f_winner (nI e) (nI p) 3 0 0 τ = some v10 → ¬ v10 = (16 : Int32) * nI r + nI p → f_against v10 ((16 : Int32) * nI r + nI p) τ = some v11 → (0 : Int32) ≤ v11 ∧ v11 ≤ 11
theorem inW.s {τ : mS} {v : Int32} (h : (0 : Int32) ≤ v ∧ v ≤ 11) : inW τ (some (v, τ)) := fun r e => by
  cases e
  exact ⟨h, rfl⟩
theorem wy_93 (x : Int32) (τ : mS) : inW τ (f_why_93 x τ) := inW.b fun a _ => inW.i (inW.s ⟨by decide, by decide⟩) (inW.s ⟨by decide, by decide⟩)
theorem wy_133 (x : Int32) (τ : mS) : inW τ (f_why_133 x τ) := inW.b fun a _ => inW.i (inW.s ⟨by decide, by decide⟩) (inW.s ⟨by decide, by decide⟩)
section AN2
variable {mm : Nat × Nat × Nat} {hl dr : Bool} {T : qqT} {G : qqG} {V : lwS} {σ σ' τ : mS} {e p k r : Nat}
theorem a_shownParent (hk : V.2.1 < 60000) (h : LQ mm hl dr T G V) (he : e < Tn T) : oC (f_shownParent (nI e)) V = some (qqO (Tsp T e), (sf V.1 81 0, V.2.1 + 1, V.2.2)) ∧ LQ mm hl dr T G (sf V.1 81 0, V.2.1 + 1, V.2.2) := by
  obtain ⟨e2, T', G', ⟨rfl, rfl, s⟩, l⟩ := oC_ok (t_shownParent hk h (nI e)) (g_shownParent h.j1 he) (sf_s _ _ _)
  exact ⟨e2, l⟩
theorem a_isIn (hk : V.2.1 < 60000) (h : LQ mm hl dr T G V) (he : e < Tn T) : oZ (f_isIn (nI e)) V = some (b2 (TD T e), (sf V.1 81 0, V.2.1 + 1, V.2.2)) ∧ LQ mm hl dr T G (sf V.1 81 0, V.2.1 + 1, V.2.2) := by
  obtain ⟨e2, T', G', ⟨rfl, rfl, s⟩, l⟩ := oC_ok (t_isIn hk h (nI e)) (g_isIn h.j1 he) (sf_s _ _ _)
  refine ⟨?_, l⟩
  unfold oZ
  rw [e2, qqx]
  cases TD T' e <;> rfl
theorem a_weight (hk : V.2.1 < 60000) (h : LQ mm hl dr T G V) (he : e < Gs G) : oC (f_weight (nI e)) V = some (V.1.1 20 e, (sf V.1 81 0, V.2.1 + 1, V.2.2)) ∧ LQ mm hl dr T G (sf V.1 81 0, V.2.1 + 1, V.2.2) := by
  obtain ⟨e2, T', G', ⟨rfl, rfl, s⟩, l⟩ := oC_ok (t_weight hk h (nI e)) (g_weight h.j1 he) (sf_s _ _ _)
  exact ⟨e2, l⟩
theorem a_allThat (hk : V.2.1 < 60000) (h : LQ mm hl dr T G V) (he : e < Gs G) : ∃ τ, oC (f_allThat (nI e) (-1)) V = some (qMs T (sf V.1 81 0) none e, (τ, V.2.1 + 1, V.2.2)) ∧ LQ mm hl dr T G (τ, V.2.1 + 1, V.2.2) ∧ scE V.1 τ := by
  obtain ⟨τ, e1, z⟩ := g_allThat h.j1 he
  obtain ⟨e2, T', G', ⟨rfl, rfl, s⟩, l⟩ := oC_ok (t_allThat hk h (nI e) (-1)) e1 z
  exact ⟨τ, e2, l, s⟩
theorem g_marked (h : LQ mm hl dr T G V) : f_marked V.1 = some (V.1.2 49 &&& qqM (TD T) (Tn T)) := by
  obtain ⟨⟨S, L, A, ex, K, v, nw, w⟩, q⟩ := h
  exact (sq_ints w).2.2.2.2
theorem marked_0 (h : LQ mm hl dr T G V) (nd : ndB T V.1 = false) : f_marked V.1 = some 0 := by
  have h30 := h.j1.1.1.n30
  rw [g_marked h]
  congr 1
  refine b_ext (fun i hi => ?_)
  rw [b_and, qqM_bt _ _ (by omega) i hi, b_0]
  by_cases c : i < Tn T
  · cases hd : TD T i with
    | true => rw [((nd_is T V.1).mp nd i c hd).2, Bool.false_and]
    | false => rw [Bool.and_false, Bool.and_false]
  · rw [decide_eq_false c, Bool.false_and, Bool.and_false]
theorem a_why (hk : V.2.1 < 60000) (h : LQ mm hl dr T G V) (nd : ndB T V.1 = false) (he : e < Tn T) (hd : TD T e = true) (hp : p < 15) (hr : r < Gr G) (ag : ∀ τ, f_read (sf V.1 81 0) = some τ → agQ e p r τ) : ∃ v τ, oC (f_why (nI e) (nI p) (nI r)) V = some (v, (τ, V.2.1 + 1, V.2.2)) ∧ ((0 : Int32) ≤ v ∧ v ≤ 11) ∧ LQ mm hl dr T G (τ, V.2.1 + 1, V.2.2) ∧ scE V.1 τ := by
  have J := h.j1
  have h30 := J.1.1.n30
  have h40 := J.1.2.2.r40
  obtain ⟨τ, e1, z⟩ := a_read hk h
  have s := rd_nd J nd e1
  obtain ⟨a, σ1, g1, g2, st⟩ := t_why hk h (nI e) (nI p) (nI r)
  have ru : f_isRule (nI r) V.1 = some (b2 (decide (0 ≤ nI r ∧ nI r < nI (Gr G)))) := by
    obtain ⟨⟨S, L, A, ex, K, v, nw, w⟩, q⟩ := id h
    exact r_isRule w.2.2.2 (nI r)
  have g1' := g1
  unfold f_why at g1'
  rw [r_isElement J.1.2.1 J.1.1, qqx, if_dt (nI_inn he (by omega)), ru, qqx, if_dt (nI_inn hr (by omega)), r_in0 (nI p) (n := 15) (by decide) (by decide), qqx, if_dt (nI_inn hp (by decide)), r_inDoc J.1.1 J.1.2.1 he, qqx, hd, if_neg (by decide)] at g1'
  unfold f_why_49 at g1'
  rw [r_holds0, qqx, if_pos rfl, e1, qqx] at g1'
  have q := (inW.b (τ := τ) fun v3 h3 => inW.n (wy_93 _ τ) fun n3 => inW.b fun v4 h4 => inW.b fun v5 h5 => inW.n (wy_93 _ τ) fun n5 => inW.b fun v6 h6 => inW.n (wy_133 _ τ) fun n6 => inW.b fun v7 h7 => inW.b fun v8 h8 => inW.n (wy_133 _ τ) fun n8 => inW.b fun v9 h9 => inW.n (inW.s ⟨by decide, by decide⟩) fun n9 => inW.b fun v10 h10 => inW.n (inW.s ⟨by decide, by decide⟩) fun n10 => inW.b fun v11 h11 => inW.s (ag τ e1 v3 v4 v5 v6 v7 v8 v9 v10 v11 h3 n3 h4 h5 n5 h6 n6 h7 h8 n8 h9 n9 h10 n10 h11)) _ g1'
  obtain ⟨q1, q2⟩ := q
  have q2 : σ1 = τ := q2
  subst q2
  obtain ⟨e3, T', G', ⟨rfl, rfl, e9⟩, l⟩ := oC_ok (t_why hk h (nI e) (nI p) (nI r)) g1 z
  exact ⟨a, σ1, e3, q1, l, s⟩
end AN2
