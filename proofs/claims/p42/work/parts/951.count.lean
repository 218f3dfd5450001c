def pcN : Nat → Nat → Nat
  | 0, _ => 0
  | m + 1, a => a % 2 + pcN m (a / 2)
def bcB : Nat → Nat → Bool
  | 0, a => decide (f_J6_bitCount_0f7a4 (nI a) = some (nI (pcN 15 a)))
  | d + 1, a => bcB d (2 * a) && bcB d (2 * a + 1)
theorem bcB_0 : bcB 11 0 = true := by decide +kernel
theorem bcB_1 : bcB 11 1 = true := by decide +kernel
theorem bcB_2 : bcB 11 2 = true := by decide +kernel
theorem bcB_3 : bcB 11 3 = true := by decide +kernel
theorem bcB_4 : bcB 11 4 = true := by decide +kernel
theorem bcB_5 : bcB 11 5 = true := by decide +kernel
theorem bcB_6 : bcB 11 6 = true := by decide +kernel
theorem bcB_7 : bcB 11 7 = true := by decide +kernel
theorem bcB_8 : bcB 11 8 = true := by decide +kernel
theorem bcB_9 : bcB 11 9 = true := by decide +kernel
theorem bcB_10 : bcB 11 10 = true := by decide +kernel
theorem bcB_11 : bcB 11 11 = true := by decide +kernel
theorem bcB_12 : bcB 11 12 = true := by decide +kernel
theorem bcB_13 : bcB 11 13 = true := by decide +kernel
theorem bcB_14 : bcB 11 14 = true := by decide +kernel
theorem bcB_15 : bcB 11 15 = true := by decide +kernel
theorem bcB_of : ∀ d a, bcB d a = true → ∀ n, a * 2 ^ d ≤ n → n < (a + 1) * 2 ^ d → f_J6_bitCount_0f7a4 (nI n) = some (nI (pcN 15 n)) := by
  intro d
  induction d with
  | zero =>
    intro a h n h1 h2
    have : n = a := by omega
    subst this
    exact of_decide_eq_true h
  | succ d ih =>
    intro a h n h1 h2
    have h' : (bcB d (2 * a) && bcB d (2 * a + 1)) = true := h
    rw [Bool.and_eq_true] at h'
    rw [Nat.pow_succ] at h1 h2
    by_cases c : n < (2 * a + 1) * 2 ^ d
    · exact ih (2 * a) h'.1 n (by rw [Nat.mul_comm 2 a, Nat.mul_assoc, Nat.mul_comm 2]; exact h1) c
    · refine ih (2 * a + 1) h'.2 n (Nat.not_lt.mp c) ?_
      have e : (2 * a + 1 + 1) * 2 ^ d = (a + 1) * (2 ^ d * 2) := by
        rw [show 2 * a + 1 + 1 = (a + 1) * 2 by omega, Nat.mul_assoc, Nat.mul_comm 2]
      rw [e]; exact h2
theorem c_bitCount {n : Nat} (h : n < 32768) : f_J6_bitCount_0f7a4 (nI n) = some (nI (pcN 15 n)) := by
  have key : ∀ a, bcB 11 a = true → a * 2048 ≤ n → n < (a + 1) * 2048 → f_J6_bitCount_0f7a4 (nI n) = some (nI (pcN 15 n)) := fun a ha h1 h2 => bcB_of 11 a ha n h1 h2
  have hq : n / 2048 = 0 ∨ n / 2048 = 1 ∨ n / 2048 = 2 ∨ n / 2048 = 3 ∨ n / 2048 = 4 ∨ n / 2048 = 5 ∨ n / 2048 = 6 ∨ n / 2048 = 7 ∨ n / 2048 = 8 ∨ n / 2048 = 9 ∨ n / 2048 = 10 ∨ n / 2048 = 11 ∨ n / 2048 = 12 ∨ n / 2048 = 13 ∨ n / 2048 = 14 ∨ n / 2048 = 15 := by omega
  rcases hq with z | z | z | z | z | z | z | z | z | z | z | z | z | z | z | z
  · exact key 0 bcB_0 (by omega) (by omega)
  · exact key 1 bcB_1 (by omega) (by omega)
  · exact key 2 bcB_2 (by omega) (by omega)
  · exact key 3 bcB_3 (by omega) (by omega)
  · exact key 4 bcB_4 (by omega) (by omega)
  · exact key 5 bcB_5 (by omega) (by omega)
  · exact key 6 bcB_6 (by omega) (by omega)
  · exact key 7 bcB_7 (by omega) (by omega)
  · exact key 8 bcB_8 (by omega) (by omega)
  · exact key 9 bcB_9 (by omega) (by omega)
  · exact key 10 bcB_10 (by omega) (by omega)
  · exact key 11 bcB_11 (by omega) (by omega)
  · exact key 12 bcB_12 (by omega) (by omega)
  · exact key 13 bcB_13 (by omega) (by omega)
  · exact key 14 bcB_14 (by omega) (by omega)
  · exact key 15 bcB_15 (by omega) (by omega)
