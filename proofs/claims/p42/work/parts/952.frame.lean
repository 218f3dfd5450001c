def sN (f : Nat → Nat) : Nat → Nat
  | 0 => 0
  | n + 1 => sN f n + f n
theorem sN_cg {f g : Nat → Nat} : ∀ {n : Nat}, (∀ i, i < n → f i = g i) → sN f n = sN g n := by
  intro n
  induction n with
  | zero => intro _; rfl
  | succ n ih => intro h; show sN f n + f n = sN g n + g n; rw [ih (fun i hi => h i (by omega)), h n (by omega)]
theorem sN_add (f : Nat → Nat) (a : Nat) : ∀ b, sN f (a + b) = sN f a + sN (fun i => f (a + i)) b := by
  intro b
  induction b with
  | zero => rfl
  | succ b ih => show sN f (a + b) + f (a + b) = sN f a + (sN (fun i => f (a + i)) b + f (a + b)); rw [ih, Nat.add_assoc]
theorem sN_mul (f : Nat → Nat) (m : Nat) : ∀ n, sN f (m * n) = sN (fun p => sN (fun t => f (m * p + t)) m) n := by
  intro n
  induction n with
  | zero => rfl
  | succ n ih => rw [Nat.mul_succ, sN_add, ih]; rfl
def lBN : (Nat → Bool) → Nat → Nat
  | _, 0 => 0
  | P, m + 1 => (P 0).toNat + 2 * lBN (fun i => P (i + 1)) m
theorem lBN_lt : ∀ (m : Nat) (P : Nat → Bool), lBN P m < 2 ^ m := by
  intro m
  induction m with
  | zero => intro P; exact Nat.one_pos
  | succ m ih =>
    intro P
    have := ih (fun i => P (i + 1))
    have hb : (P 0).toNat ≤ 1 := by cases P 0 <;> decide
    show (P 0).toNat + 2 * lBN (fun i => P (i + 1)) m < 2 ^ (m + 1)
    rw [Nat.pow_succ]; omega
theorem pc_lBN : ∀ (m : Nat) (P : Nat → Bool), pcN m (lBN P m) = sN (fun i => (P i).toNat) m := by
  intro m
  induction m with
  | zero => intro P; rfl
  | succ m ih =>
    intro P
    have hb : (P 0).toNat ≤ 1 := by cases P 0 <;> decide
    have e1 : ((P 0).toNat + 2 * lBN (fun i => P (i + 1)) m) % 2 = (P 0).toNat := by omega
    have e2 : ((P 0).toNat + 2 * lBN (fun i => P (i + 1)) m) / 2 = lBN (fun i => P (i + 1)) m := by omega
    show ((P 0).toNat + 2 * lBN (fun i => P (i + 1)) m) % 2 + pcN m (((P 0).toNat + 2 * lBN (fun i => P (i + 1)) m) / 2) = _
    rw [e1, e2, ih, Nat.add_comm m 1, sN_add (fun i => (P i).toNat) 1 m]
    show (P 0).toNat + _ = (0 + (P 0).toNat) + _
    rw [Nat.zero_add]
    exact congrArg ((P 0).toNat + ·) (sN_cg (fun i _ => by rw [Nat.add_comm]))
theorem lBN_bit : ∀ (m : Nat) (P : Nat → Bool) (i : Nat), (lBN P m).testBit i = (decide (i < m) && P i) := by
  intro m
  induction m with
  | zero => intro P i; show Nat.testBit 0 i = _; rw [Nat.zero_testBit]; rfl
  | succ m ih =>
    intro P i
    have hb : (P 0).toNat ≤ 1 := by cases P 0 <;> decide
    show ((P 0).toNat + 2 * lBN (fun i => P (i + 1)) m).testBit i = _
    cases i with
    | zero =>
      rw [Nat.testBit_zero]
      have e1 : ((P 0).toNat + 2 * lBN (fun i => P (i + 1)) m) % 2 = (P 0).toNat := by omega
      rw [e1]
      cases P 0 <;> rfl
    | succ i =>
      rw [Nat.testBit_succ, show ((P 0).toNat + 2 * lBN (fun i => P (i + 1)) m) / 2 = lBN (fun i => P (i + 1)) m by omega, ih]
      by_cases c : i < m
      · rw [decide_eq_true c, decide_eq_true (show i + 1 < m + 1 by omega)]
      · rw [decide_eq_false c, decide_eq_false (show ¬ i + 1 < m + 1 by omega)]
theorem bt_nI (n i : Nat) : bt (nI n) i = (decide (i < 32) && n.testBit i) := by
  show (BitVec.ofNat 32 n).getLsbD i = _
  rw [BitVec.getLsbD_ofNat]
theorem c_bitsOf {x : Int32} {P : Nat → Bool} (h : ∀ i, i < 32 → bt x i = (decide (i < 15) && P i)) : f_J6_bitCount_0f7a4 x = some (nI (sN (fun i => (P i).toNat) 15)) := by
  have e : x = nI (lBN P 15) := b_ext (fun i hi => by rw [h i hi, bt_nI, lBN_bit, decide_eq_true hi, Bool.true_and])
  rw [e, c_bitCount (lBN_lt 15 P), pc_lBN]
