def suB : Bool := (List.range 15).all fun x => (List.range 11).all fun u => decide ((∃ b : Bool, f_suits (nI x) (nI u) = some (b2 b) ∧ f_X11_suits (nI x) (nI u) = some (b2 b) ∧ (b = true → (u = 4 → x = 1 ∨ x = 2 ∨ 12 ≤ x))))
theorem suB_ok : suB = true := by decide +kernel
theorem suits_both {x u : Nat} (hx : x < 15) (hu : u < 11) : ∃ b : Bool, f_suits (nI x) (nI u) = some (b2 b) ∧ f_X11_suits (nI x) (nI u) = some (b2 b) ∧ (b = true → (u = 4 → x = 1 ∨ x = 2 ∨ 12 ≤ x)) :=
  of_decide_eq_true (List.all_eq_true.mp (List.all_eq_true.mp suB_ok x (List.mem_range.mpr hx)) u (List.mem_range.mpr hu))
