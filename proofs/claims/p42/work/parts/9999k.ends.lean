section EN
variable {mm : Nat × Nat × Nat} {hl dr : Bool} {T : qqT} {G : qqG} {V : lwS} {σ : mS} {e p k r : Nat}
/-- the counters as they stand are bounds of what follows -/
theorem Q_mm (q : Q k mm hl dr T G σ) : ∃ a b c : Nat, σ.2 51 = nI a ∧ σ.2 52 = nI b ∧ σ.2 53 = nI c ∧ a ≤ k ∧ b ≤ 30 * k ∧ c ≤ b ∧ mm.1 ≤ a ∧ mm.2.1 ≤ b ∧ mm.2.2 ≤ c ∧ Q k (a, b, c) hl dr T G σ := by
  obtain ⟨q1, q2, q3, q4, ⟨a, b, c, h1, h2, h3, h4, h5, h6, h7, h8, h9⟩, q6⟩ := q
  exact ⟨a, b, c, h1, h2, h3, h4, h5, h6, h7, h8, h9, q1, q2, q3, q4, ⟨a, b, c, h1, h2, h3, h4, h5, h6, Nat.le_refl _, Nat.le_refl _, Nat.le_refl _⟩, q6⟩
theorem no_R {g : mS → Option (Int32 × mS)} (hk : V.2.1 < 60000) (h : LQ mm hl dr T G V) {P : qqT → qqG → mS → Prop} (t : stP g mm hl dr mm hl dr T G P V) {y : Int32} (hy : y ≠ 0) (e : g V.1 = some (-1, sf V.1 81 y)) : oR g V = some ((y, -1), (sf V.1 81 y, V.2.1 + 1, V.2.2)) ∧ LQ mm hl dr T G (sf V.1 81 y, V.2.1 + 1, V.2.2) := by
  obtain ⟨a, σ', e1, e2, s⟩ := t
  rw [e] at e1
  cases e1
  rw [sf_s] at e2
  refine ⟨e2, ?_⟩
  rcases s with ⟨y', hy', e3, l⟩ | ⟨z, -⟩
  · exact l
  · rw [sf_s] at z; exact absurd z hy
theorem z_value (hk : V.2.1 < 60000) (h : LQ mm hl dr T G V) : f_L_value (nI (Tn T)) 0 V = some (-2000002, (sf V.1 81 1, V.2.1 + 1, V.2.2)) ∧ LQ mm hl dr T G (sf V.1 81 1, V.2.1 + 1, V.2.2) := by
  have J := h.j1
  obtain ⟨h1, h2⟩ := no_R hk h (t_value hk h (nI (Tn T)) 0) (y := 1) (by decide) (by
    unfold f_value f_value_41
    rw [r_isElement J.1.2.1 J.1.1, qqx, if_df (fun z => Int32.lt_irrefl z.2), r_holds1, qqx]
    rfl)
  refine ⟨?_, h2⟩
  unfold f_L_value oM
  rw [h1]
  rfl
theorem z_value15 (hk : V.2.1 < 60000) (h : LQ mm hl dr T G V) : f_L_value 0 15 V = some (-2000003, (sf V.1 81 2, V.2.1 + 1, V.2.2)) ∧ LQ mm hl dr T G (sf V.1 81 2, V.2.1 + 1, V.2.2) := by
  have J := h.j1
  have h1' := J.1.1.n1
  have h30 := J.1.1.n30
  obtain ⟨h1, h2⟩ := no_R hk h (t_value hk h 0 15) (y := 2) (by decide) (by
    unfold f_value f_value_41
    rw [r_isElement J.1.2.1 J.1.1, qqx, if_dt (show (0 : Int32) ≤ 0 ∧ (0 : Int32) < nI (Tn T) from nI_inn (e := 0) (by omega) (by omega)), r_in0 15 (n := 15) (by decide) (by decide), qqx, if_df (by decide), r_holds2, qqx]
    rfl)
  refine ⟨?_, h2⟩
  unfold f_L_value oM
  rw [h1]
  rfl
theorem z_join (hk : V.2.1 < 60000) (h : LQ mm hl dr T G V) : f_L_joins 4 V = some (-3, (sf V.1 81 1, V.2.1 + 1, V.2.2)) ∧ LQ mm hl dr T G (sf V.1 81 1, V.2.1 + 1, V.2.2) := by
  obtain ⟨h1, h2⟩ := no_R hk h (t_join hk h 4) (y := 1) (by decide) (by
    unfold f_join f_join_41
    rw [r_in0 4 (n := 4) (by decide) (by decide), qqx, if_df (by decide), r_holds1, qqx]
    rfl)
  refine ⟨?_, h2⟩
  unfold f_L_joins oM
  rw [h1]
  rfl
theorem z_take (hk : V.2.1 < 60000) (h : LQ mm false dr T G V) : f_L_takes 0 V = some (-4, (sf V.1 81 2, V.2.1 + 1, V.2.2)) ∧ LQ mm false dr T G (sf V.1 81 2, V.2.1 + 1, V.2.2) := by
  have J := h.j1
  have h1' := J.1.1.n1
  have h30 := J.1.1.n30
  obtain ⟨h1, h2⟩ := no_R hk h (t_take hk h 0) (y := 2) (by decide) (by
    unfold f_take f_take_25 f_take_30
    rw [r_isElement J.1.2.1 J.1.1, qqx, if_dt (show (0 : Int32) ≤ 0 ∧ (0 : Int32) < nI (Tn T) from nI_inn (e := 0) (by omega) (by omega)), if_pos rfl, r_holds2, qqx]
    rfl)
  refine ⟨?_, h2⟩
  unfold f_L_takes oM
  rw [h1]
  rfl
end EN
