/-- one against another, as a comparison of keys: the same importance on both sides where the ranks are equal -/
theorem agS_pos {im : Bool} {r1 r2 d1 d2 l1 l2 w1 w2 s1 s2 n1 n2 : Int32} {o1 o2 : Bool} (h : 0 < agS im r1 r2 d1 d2 o1 o2 l1 l2 w1 w2 s1 s2 n1 n2) : (0 : Int32) ≤ agS im r1 r2 d1 d2 o1 o2 l1 l2 w1 w2 s1 s2 n1 n2 ∧ agS im r1 r2 d1 d2 o1 o2 l1 l2 w1 w2 s1 s2 n1 n2 ≤ 11 := by
  refine ⟨Int32.le_of_lt h, ?_⟩
  clear h
  unfold agS
  have f : ∀ (c : Prop) [Decidable c] (x y : Int32), x ≤ 11 → y ≤ 11 → (if c then x else y) ≤ 11 := fun c _ x y hx hy => by
    by_cases hc : c
    · rw [if_pos hc]; exact hx
    · rw [if_neg hc]; exact hy
  exact f _ _ _ (f _ _ _ (f _ _ _ (f _ _ _ (by decide) (by decide)) (f _ _ _ (f _ _ _ (f _ _ _ (f _ _ _ (by decide) (by decide)) (f _ _ _ (by decide) (by decide))) (f _ _ _ (by decide) (by decide))) (f _ _ _ (by decide) (by decide)))) (f _ _ _ (by decide) (by decide))) (f _ _ _ (by decide) (by decide))
