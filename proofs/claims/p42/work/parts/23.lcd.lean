def lcdL : List Nat → Nat → Int32 → Option Int32
  | [], _, _ => none
  | a :: L, k, i => if k = a then some i else lcdL L k (i + 1)
def lcd {T : Type} (L : List Nat) (r : Nat ⊕ T) : Option Int32 := r.elim (fun k => lcdL L k 1) (fun _ => some 0)
theorem lcd_l {T : Type} {L : List Nat} {r : Nat ⊕ T} {k : Nat} {v : Int32} (e : r = .inl k) (h : lcd L r = some v) : lcdL L k 1 = some v := by subst e; exact h
theorem lcd_r {T : Type} {L : List Nat} {r : Nat ⊕ T} {u : T} {v : Int32} (e : r = .inr u) (h : lcd L r = some v) : 0 = v := by subst e; exact Option.some.inj h
theorem lcd1 {a k : Nat} {v i : Int32} (h : lcdL [a] k i = some v) : k = a ∧ v = i := by
  unfold lcdL at h
  by_cases h1 : k = a
  · rw [if_pos h1] at h; exact ⟨h1, (Option.some.inj h).symm⟩
  · rw [if_neg h1] at h; cases h
theorem lcd2 {a b k : Nat} {v i : Int32} (h : lcdL [a, b] k i = some v) : (k = a ∧ v = i) ∨ (k = b ∧ v = i + 1) := by
  unfold lcdL at h
  by_cases h1 : k = a
  · rw [if_pos h1] at h; exact Or.inl ⟨h1, (Option.some.inj h).symm⟩
  · rw [if_neg h1] at h; exact Or.inr (lcd1 h)
theorem lcd3 {a b d k : Nat} {v i : Int32} (h : lcdL [a, b, d] k i = some v) : (k = a ∧ v = i) ∨ (k = b ∧ v = i + 1) ∨ (k = d ∧ v = i + 1 + 1) := by
  unfold lcdL at h
  by_cases h1 : k = a
  · rw [if_pos h1] at h; exact Or.inl ⟨h1, (Option.some.inj h).symm⟩
  · rw [if_neg h1] at h; exact Or.inr (lcd2 h)
def lvZ (x : Int32) : Int64 := if x = 0 then 0 else 1
def lvN (x : Int32) : Int64 := x.toInt64
