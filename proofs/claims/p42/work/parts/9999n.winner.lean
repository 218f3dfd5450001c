section WN
variable {T : qqT} {G : qqG} {σ : mS} {o : Option Int32} {e p k a b c r : Nat} {lim : Int32}
/-- one row beats another -/
def bts (T : qqT) (G : qqG) (σ : mS) (p a b : Nat) : Prop := 0 < Lag T G σ p a b
def cnd (T : qqT) (G : qqG) (σ : mS) (o : Option Int32) (e p : Nat) (lim : Int32) (k c : Nat) : Prop := (c = 40 + e ∧ (Ldc σ p (40 + e) && decide (2 < lim)) = true) ∨ (c < k ∧ (Ldc σ p c && (decide (Lor G σ c < lim) && Lap T G σ o e c)) = true)
theorem nI_ne {a b : Nat} (ha : a < 2 ^ 31) (hb : b < 2 ^ 31) (h : a ≠ b) : (nI a).toInt ≠ (nI b).toInt := by
  rw [nI_toInt ha, nI_toInt hb]; omega
theorem bts_tr (im : Lrk G σ p a = Lrk G σ p b → Lim σ p a = Lim σ p b) (h40 : ¬ (40 ≤ a ∧ 40 ≤ b)) (h : bts T G σ p a b) (k : bts T G σ p b c) : bts T G σ p a c := by
  unfold bts Lag at *
  rw [agS_iff] at *
  refine agP_tr (fun z => im (Int32.toInt_inj.mp z)) (fun _ z => decide_eq_false (fun w => h40 ⟨of_decide_eq_true z, w⟩)) h k
theorem bts_to (im : Lrk G σ p a = Lrk G σ p b → Lim σ p a = Lim σ p b) (ha : a < 70) (hb : b < 70) (hab : a ≠ b) (h : ¬ bts T G σ p a b) : bts T G σ p b a := by
  unfold bts Lag at *
  rw [agS_iff] at *
  exact agP_to (fun z => im (Int32.toInt_inj.mp z)) (nI_ne (by omega) (by omega) hab) h
theorem win_all (im : ∀ x y, (x < Gr G ∨ x = 40 + e) → (y < Gr G ∨ y = 40 + e) → Lrk G σ p x = Lrk G σ p y → Lim σ p x = Lim σ p y) (he : e < 30) (hG : Gr G ≤ 40) : ∀ k, k ≤ Gr G → ∀ c, cnd T G σ o e p lim k c → ∃ w, Lwk T G σ o e p lim k = some w ∧ (w = 40 + e ∨ w < k) ∧ (c = w ∨ bts T G σ p w c) := by
  intro k
  induction k with
  | zero =>
    intro _ c hc
    rcases hc with ⟨rfl, h⟩ | ⟨h, -⟩
    · exact ⟨40 + e, if_pos h, Or.inl rfl, Or.inl rfl⟩
    · omega
  | succ k ih =>
    intro h40 c hc
    have ih := ih (by omega)
    by_cases hw : Lwc T G σ o e p lim k (Lwk T G σ o e p lim k) = true
    · refine ⟨k, if_pos hw, Or.inr (by omega), ?_⟩
      by_cases hck : c = k
      · exact Or.inl hck
      · have hc' : cnd T G σ o e p lim k c := by
          rcases hc with hc | ⟨h, hc⟩
          · exact Or.inl hc
          · exact Or.inr ⟨by omega, hc⟩
        obtain ⟨w, e1, w1, w2⟩ := ih c hc'
        have hb : (0 : Int32) < Lag T G σ p k w := by
          rw [e1] at hw
          unfold Lwc at hw
          rw [Bool.and_eq_true, Bool.and_eq_true, Bool.and_eq_true] at hw
          exact of_decide_eq_true hw.2.2.2
        rcases w2 with rfl | w2
        · exact Or.inr hb
        · exact Or.inr (bts_tr (im k w (Or.inl (by omega)) (by omega)) (by omega) hb w2)
    · have eq : Lwk T G σ o e p lim (k + 1) = Lwk T G σ o e p lim k := if_neg hw
      rw [eq]
      by_cases hc' : cnd T G σ o e p lim k c
      · obtain ⟨w, e1, w1, w2⟩ := ih c hc'
        exact ⟨w, e1, w1.imp id (fun z => by omega), w2⟩
      · rcases hc with hc | ⟨h, hc⟩
        · exact absurd (Or.inl hc) hc'
        · have hck : c = k := by
            by_cases z : c < k
            · exact absurd (Or.inr ⟨z, hc⟩) hc'
            · omega
          subst hck
          rw [Bool.and_eq_true, Bool.and_eq_true] at hc
          cases hL : Lwk T G σ o e p lim c with
          | none =>
            exfalso
            apply hw
            unfold Lwc
            rw [hL, hc.1, hc.2.1, hc.2.2]
            rfl
          | some w =>
            have nb : ¬ bts T G σ p c w := fun z => hw (by
              unfold Lwc
              rw [hL, hc.1, hc.2.1, hc.2.2]
              exact decide_eq_true z)
            have hwr : w = 40 + e ∨ w < c := by
              have g : ∀ k, ∀ w, Lwk T G σ o e p lim k = some w → w = 40 + e ∨ w < k := by
                intro k
                induction k with
                | zero =>
                  intro w hw
                  unfold Lwk at hw
                  by_cases z : (Ldc σ p (40 + e) && decide (2 < lim)) = true
                  · rw [if_pos z] at hw; cases hw; exact Or.inl rfl
                  · rw [if_neg z] at hw; cases hw
                | succ k ih2 =>
                  intro w hw
                  rw [Lwk] at hw
                  by_cases z : Lwc T G σ o e p lim k (Lwk T G σ o e p lim k) = true
                  · rw [if_pos z] at hw; cases hw; exact Or.inr (by omega)
                  · rw [if_neg z] at hw
                    exact (ih2 w hw).imp id (fun z => by omega)
              exact g c w hL
            exact ⟨w, rfl, hwr.imp id (fun z => by omega), Or.inr (bts_to (im c w (Or.inl (by omega)) (by omega)) (by omega) (by omega) (by omega) nb)⟩
theorem im_ok (hc : RC T G σ) : ∀ x y, (x < Gr G ∨ x = 40 + e) → (y < Gr G ∨ y = 40 + e) → Lrk G σ p x = Lrk G σ p y → Lim σ p x = Lim σ p y := by
  have or3 : ∀ x, (x < Gr G ∨ x = 40 + e) → ∃ n, n < 3 ∧ Lor G σ x = nI n := fun x hx => by
    have h40 := hc.r40
    unfold Lor
    by_cases h : x < 40
    · rw [if_pos h]
      exact (hc.2.2.1 (Gsf G x) (hc.f (by omega)).2).2.2.1
    · rw [if_neg h]
      exact ⟨2, by decide, rfl⟩
  intro x y hx hy h
  obtain ⟨n, hn, e1⟩ := or3 x hx
  obtain ⟨m, hm, e2⟩ := or3 y hy
  unfold Lrk at h
  rw [e1, e2] at h
  have nc : n = 0 ∨ n = 1 ∨ n = 2 := by omega
  have mc : m = 0 ∨ m = 1 ∨ m = 2 := by omega
  cases hx : Lim σ p x <;> cases hy : Lim σ p y
  · rfl
  · rw [hx, hy] at h
    rcases nc with rfl | rfl | rfl <;> rcases mc with rfl | rfl | rfl <;> exact absurd h (by decide)
  · rw [hx, hy] at h
    rcases nc with rfl | rfl | rfl <;> rcases mc with rfl | rfl | rfl <;> exact absurd h (by decide)
  · rfl
end WN
