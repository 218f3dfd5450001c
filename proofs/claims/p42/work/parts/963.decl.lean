section DCL
variable {T : qqT} {G : qqG} {L : qqL} {A : kA} {ex : Nat → Nat → Prop} {K K' : kS} {S S' : cS} {σ σ' : mS} {v v' nw k : Nat}
def layS (σ : mS) (i : Nat) (u val im a1 a2 a3 : Int32) : mS := up (up (up (up (up (up σ 37 i u) 38 i val) 39 i im) 40 i a1) 41 i a2) 42 i a3
theorem r_lay (σ : mS) {i : Nat} (hi : i < 1120) (u val a1 a2 a3 : Int32) (im : Bool) : f_lay (nI i) u val (b2 im) a1 a2 a3 σ = some (layS σ i u val (b2 im) a1 a2 a3) := by
  unfold f_lay f_lay_29 layS
  rw [wr_37 hi, qqx, wr_38 hi, qqx, b2_i0]
  cases im with
  | true => rw [if_pos rfl, wr_39 hi, qqx, wr_40 hi, qqx, wr_41 hi, qqx, wr_42 hi, qqx]; rfl
  | false => rw [if_neg (by decide), wr_39 hi, qqx, wr_40 hi, qqx, wr_41 hi, qqx, wr_42 hi, qqx]; rfl
theorem layS_sB (σ : mS) (i : Nat) (u val im a1 a2 a3 : Int32) : sB [37, 38, 39, 40, 41, 42] [] σ (layS σ i u val im a1 a2 a3) := ((((((sB.rf _).up (by simp)).up (by simp)).up (by simp)).up (by simp)).up (by simp)).up (by simp)
theorem layS_at (σ : mS) (i : Nat) (u val im a1 a2 a3 : Int32) : (layS σ i u val im a1 a2 a3).1 37 i = u ∧ (layS σ i u val im a1 a2 a3).1 38 i = val ∧ (layS σ i u val im a1 a2 a3).1 39 i = im ∧ (layS σ i u val im a1 a2 a3).1 40 i = a1 ∧ (layS σ i u val im a1 a2 a3).1 41 i = a2 ∧ (layS σ i u val im a1 a2 a3).1 42 i = a3 := by
  unfold layS
  refine ⟨?_, ?_, ?_, ?_, ?_, ?_⟩ <;> simp [up, upd]
theorem layS_o (σ : mS) (i : Nat) (u val im a1 a2 a3 : Int32) : ∀ f, f ∈ [37, 38, 39, 40, 41, 42] → ∀ x, x ≠ i → (layS σ i u val im a1 a2 a3).1 f x = σ.1 f x := by
  intro f hf x hx
  simp only [List.mem_cons, List.not_mem_nil, or_false] at hf
  unfold layS
  rcases hf with rfl | rfl | rfl | rfl | rfl | rfl <;> simp [up, upd, hx]
theorem PRW1 {T : qqT} {G : qqG} {σ : mS} {a p : Nat} {u val im a1 a2 a3 : Int32} (ha : VR T G a) (hp : p < 16) (h15 : ¬ p = 15) {val' : Int32} {σ' : mS} (e : f_markRow (nI (16 * a)) (layS (sf σ 81 0) (16 * a + p) u val im a1 a2 a3) = some (val', σ')) : P_rw T G σ (nI p) T G σ' :=
  ⟨rfl, rfl, a, _, val', ha, layS_sB _ _ _ _ _ _ _ _, fun f i hne => ⟨p, (by omega : p < 15), by
    refine Classical.byContradiction fun hx => ?_
    have hf : f ∈ [37, 38, 39, 40, 41, 42] := by
      refine Classical.byContradiction fun hf => ?_
      exact hne (congrFun ((layS_sB (sf σ 81 0) (16 * a + p) u val im a1 a2 a3).1 f hf) i)
    exact hne (layS_o (sf σ 81 0) (16 * a + p) u val im a1 a2 a3 f hf i hx), Or.inl rfl⟩, e⟩
theorem PRW2 {T : qqT} {G : qqG} {σ : mS} {a : Nat} {u val im a1 a2 a3 u' val2 im' b1 b2 b3 : Int32} (ha : VR T G a) {val' : Int32} {σ' : mS} (e : f_markRow (nI (16 * a)) (layS (layS (sf σ 81 0) (16 * a + 3) u val im a1 a2 a3) (16 * a + 4) u' val2 im' b1 b2 b3) = some (val', σ')) : P_rw T G σ (nI 15) T G σ' := by
  have s1 := layS_sB (sf σ 81 0) (16 * a + 3) u val im a1 a2 a3
  have s2 := layS_sB (layS (sf σ 81 0) (16 * a + 3) u val im a1 a2 a3) (16 * a + 4) u' val2 im' b1 b2 b3
  refine ⟨rfl, rfl, a, _, val', ha, s1.tr s2, fun f i hne => ?_, e⟩
  have hf : f ∈ [37, 38, 39, 40, 41, 42] := by
    refine Classical.byContradiction fun hf => ?_
    exact hne (congrFun ((s1.tr s2).1 f hf) i)
  by_cases c : i = 16 * a + 3
  · exact ⟨3, by decide, c, Or.inr ⟨rfl, Or.inl rfl⟩⟩
  · by_cases d : i = 16 * a + 4
    · exact ⟨4, by decide, d, Or.inr ⟨rfl, Or.inr rfl⟩⟩
    · exact absurd ((layS_o _ _ _ _ _ _ _ _ f hf i d).trans (layS_o _ _ _ _ _ _ _ _ f hf i c)) hne
end DCL
