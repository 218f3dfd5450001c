/-! MATHS, 125: all the calls -/
theorem lS9 (k : Nat) (hk : k < 512) : lSims (J k) (J (k + 1)) := ⟨simJ_make, simJ_shadow hk, simJ_put hk, simJ_putTop hk, simJ_take hk, simJ_setClass hk, simJ_setState hk, simJ_setAttribute hk, simJ_setPart hk, simJ_shownParent, simJ_isIn, simJ_test, simJ_join, simJ_select, simJ_weight, simJ_matches hk, simJ_allThat hk, simJ_sheet, simJ_turn, simJ_rule, simJ_when, simJ_declare, simJ_declareVar, simJ_undeclare, simJ_setWidth, simJ_value hk, simJ_size hk, simJ_seen hk, simJ_made hk, simJ_why hk, simJ_valueAnew hk, sim_ints.2.2.2, sim_ints.1, sim_ints.2.1, sim_ints.2.2.1, simJ_tick hk, simJ_animation, simJ_frame, simJ_listen⟩
/-- the start, with the next address behind the reference's cells -/
theorem J_start2 : ∃ σ, f_X12_init = some σ ∧ ∀ n, 255 ≤ n → J 0 ((dH LZ).1, n) σ := by
  obtain ⟨σ, h, T, G, L, A, ex, K, v, nw, ⟨⟨w1, w2, w3⟩, w4, w5, w6⟩⟩ := J_start
  have hl : (dH LZ).2 = 255 := by
    show LZ.length = 255
    decide +kernel
  exact ⟨σ, h, fun n hn => ⟨T, G, L, A, ex, K, v, nw, ⟨⟨w1, w2.mono (by omega), w3⟩, w4, w5, w6⟩⟩⟩
