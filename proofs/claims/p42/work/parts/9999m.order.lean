/-- one against another, as a comparison of keys: the same importance on both sides where the ranks are equal -/
theorem agS_pos {im : Bool} {r1 r2 d1 d2 l1 l2 w1 w2 s1 s2 n1 n2 : Int32} {o1 o2 : Bool} (h : 0 < agS im r1 r2 d1 d2 o1 o2 l1 l2 w1 w2 s1 s2 n1 n2) : (0 : Int32) ≤ agS im r1 r2 d1 d2 o1 o2 l1 l2 w1 w2 s1 s2 n1 n2 ∧ agS im r1 r2 d1 d2 o1 o2 l1 l2 w1 w2 s1 s2 n1 n2 ≤ 11 := by
  refine ⟨Int32.le_of_lt h, ?_⟩
  clear h
  unfold agS
  have f : ∀ (c : Prop) [Decidable c] (x y : Int32), x ≤ 11 → y ≤ 11 → (if c then x else y) ≤ 11 := fun c _ x y hx hy => by
    by_cases hc : c
    · rw [if_pos hc]; exact hx
    · rw [if_neg hc]; exact hy
  exact f _ _ _ (f _ _ _ (f _ _ _ (f _ _ _ (by decide) (by decide)) (f _ _ _ (f _ _ _ (f _ _ _ (f _ _ _ (by decide) (by decide)) (f _ _ _ (by decide) (by decide))) (f _ _ _ (by decide) (by decide))) (f _ _ _ (by decide) (by decide)))) (f _ _ _ (by decide) (by decide))) (f _ _ _ (by decide) (by decide))
def agP (im : Bool) (r1 r2 d1 d2 : Int) (o1 o2 : Bool) (l1 l2 w1 w2 s1 s2 n1 n2 : Int) : Prop := r2 < r1 ∨ (r1 = r2 ∧ ((d1 ≠ d2 ∧ (d1 < d2 ↔ im = false)) ∨ (d1 = d2 ∧ (o1 = true ∨ (o1 = false ∧ o2 = false ∧ ((l1 ≠ l2 ∧ (l2 < l1 ↔ im = false)) ∨ (l1 = l2 ∧ (w2 < w1 ∨ (w1 = w2 ∧ (s2 < s1 ∨ (s1 = s2 ∧ n2 < n1)))))))))))
theorem lt_le {x y : Int32} : ¬ x ≤ y ↔ y.toInt < x.toInt := by rw [Int32.le_iff_toInt_le]; omega
theorem ne_ti {x y : Int32} (h : ¬ x = y) : ¬ x.toInt = y.toInt := fun z => h (Int32.toInt_inj.mp z)
theorem sg {c : Prop} [Decidable c] {x : Int32} (h1 : ¬ (0:Int32) < -x) (h2 : (0:Int32) < x) : (0 : Int32) < (if c then -x else x) ↔ ¬ c := by
  by_cases hc : c
  · rw [if_pos hc]; exact ⟨fun z => absurd z h1, fun z => absurd hc z⟩
  · rw [if_neg hc]; exact ⟨fun _ => hc, fun _ => h2⟩
theorem agS_iff {im : Bool} {r1 r2 d1 d2 l1 l2 w1 w2 s1 s2 n1 n2 : Int32} {o1 o2 : Bool} : 0 < agS im r1 r2 d1 d2 o1 o2 l1 l2 w1 w2 s1 s2 n1 n2 ↔ agP im r1.toInt r2.toInt d1.toInt d2.toInt o1 o2 l1.toInt l2.toInt w1.toInt w2.toInt s1.toInt s2.toInt n1.toInt n2.toInt := by
  unfold agS agP
  have dc : ∀ (x y : Int32) (b : Bool), (¬ decide (x < y) = b) ↔ (x.toInt < y.toInt ↔ b = false) := fun x y b => by
    by_cases h : x < y
    · have h2 := Int32.lt_iff_toInt_lt.mp h
      rw [decide_eq_true h]
      cases b <;> simp [h2]
    · have h2 : ¬ x.toInt < y.toInt := fun z => h (Int32.lt_iff_toInt_lt.mpr z)
      rw [decide_eq_false h]
      cases b <;> simp [h2]
  by_cases hr : r1 = r2
  · subst hr
    rw [if_pos rfl]
    by_cases hd : d1 = d2
    · subst hd
      rw [if_pos rfl]
      cases o1 with
      | true => rw [if_pos (Or.inl rfl), if_pos rfl]; exact ⟨fun _ => Or.inr ⟨rfl, Or.inr ⟨rfl, Or.inl rfl⟩⟩, fun _ => by decide⟩
      | false =>
        cases o2 with
        | true =>
          rw [if_pos (Or.inr rfl), if_neg (by decide)]
          refine ⟨fun z => absurd z (by decide), fun z => ?_⟩
          rcases z with z | ⟨-, ⟨z, -⟩ | ⟨-, z | ⟨-, z, -⟩⟩⟩
          · omega
          · exact absurd rfl z
          · cases z
          · cases z
        | false =>
          rw [if_neg (by decide)]
          by_cases hl : l1 = l2
          · subst hl
            rw [if_pos rfl]
            by_cases hw : w1 = w2
            · subst hw
              rw [if_pos rfl]
              by_cases hs : s1 = s2
              · subst hs
                rw [if_pos rfl, sg (x := 6) (by decide) (by decide), lt_le]
                simp
              · have := ne_ti hs
                rw [if_neg hs, sg (x := 6) (by decide) (by decide), lt_le]
                simp [this]
            · have := ne_ti hw
              rw [if_neg hw, sg (x := 5) (by decide) (by decide), lt_le]
              simp [this]
          · have := ne_ti hl
            rw [if_neg hl, sg (x := 4) (by decide) (by decide), dc]
            simp [this]
    · have := ne_ti hd
      rw [if_neg hd, sg (x := 2) (by decide) (by decide), dc]
      simp [this]
  · have := ne_ti hr
    rw [if_neg hr, sg (x := 1) (by decide) (by decide), lt_le]
    simp [this]
theorem agP_tr {i1 i2 : Bool} {r1 r2 r3 d1 d2 d3 l1 l2 l3 w1 w2 w3 s1 s2 s3 n1 n2 n3 : Int} {o1 o2 o3 : Bool} (hi : r1 = r2 → i1 = i2) (hd : (r1 = r2 ∧ d1 = d2) → o1 = true → o2 = false) (h : agP i1 r1 r2 d1 d2 o1 o2 l1 l2 w1 w2 s1 s2 n1 n2) (k : agP i2 r2 r3 d2 d3 o2 o3 l2 l3 w2 w3 s2 s3 n2 n3) : agP i1 r1 r3 d1 d3 o1 o3 l1 l3 w1 w3 s1 s3 n1 n3 := by
  unfold agP at *
  cases i1 <;> cases i2 <;> cases o1 <;> cases o2 <;> cases o3 <;> simp at * <;> omega
theorem agP_to {i1 i2 : Bool} {r1 r2 d1 d2 l1 l2 w1 w2 s1 s2 n1 n2 : Int} {o1 o2 : Bool} (hi : r1 = r2 → i1 = i2) (hn : n1 ≠ n2) (h : ¬ agP i1 r1 r2 d1 d2 o1 o2 l1 l2 w1 w2 s1 s2 n1 n2) : agP i2 r2 r1 d2 d1 o2 o1 l2 l1 w2 w1 s2 s1 n2 n1 := by
  unfold agP at *
  cases i1 <;> cases i2 <;> cases o1 <;> cases o2 <;> simp at * <;> omega
