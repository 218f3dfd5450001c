/-! MATHS, 126: what holds at the start: the classes -/
set_option maxRecDepth 100000 in
theorem tb_AO : ∀ ci, ci < 12 → (cTy (30 + ci)).isSome = true → Cond.arrayOver (.object (cRow ci).1) ∈ lw_tbl := by decide +kernel
set_option maxRecDepth 100000 in
theorem tb_Kn : ∀ ci, ci < 12 → ∀ w ∈ u_ws (cRow ci).1 (cRow ci).2.1 (cRow ci).2.2, w ∈ lw_tbl := by decide +kernel
set_option maxRecDepth 100000 in
theorem tb_in : ∀ ci, ci < 12 → ci ≠ 4 → Cond.instantiable (cRow ci).1 (cRow ci).2.2 ∈ lw_tbl := by decide +kernel
set_option maxRecDepth 100000 in
theorem tb_ns : ∀ w ∈ cNest, w ∈ lw_tbl := by decide +kernel
set_option maxRecDepth 100000 in
theorem tb_ai : Cond.arrayClass .int ∈ lw_tbl ∧ Cond.arrayOver (.array .int) ∈ lw_tbl := by decide +kernel
theorem cTy_is {tag : Nat} {ty : FieldType} (h : cTy tag = some ty) : ty = .int ∨ ty = .array .int ∨ ∃ ci, ci < 12 ∧ (cTy (30 + ci)).isSome = true ∧ ty = .object (cRow ci).1 := by
  unfold cTy at h
  split at h
  · cases h; exact Or.inl rfl
  · cases h; exact Or.inr (Or.inl rfl)
  · cases h; exact Or.inr (Or.inr ⟨0, by decide, rfl, rfl⟩)
  · cases h; exact Or.inr (Or.inr ⟨3, by decide, rfl, rfl⟩)
  · cases h; exact Or.inr (Or.inr ⟨4, by decide, rfl, rfl⟩)
  · cases h; exact Or.inr (Or.inr ⟨6, by decide, rfl, rfl⟩)
  · cases h; exact Or.inr (Or.inr ⟨7, by decide, rfl, rfl⟩)
  · cases h; exact Or.inr (Or.inr ⟨8, by decide, rfl, rfl⟩)
  · cases h; exact Or.inr (Or.inr ⟨9, by decide, rfl, rfl⟩)
  · cases h
theorem st_int {args : Array Value} {s : State} {ty : FieldType} (h : (Cond.arrayClass ty).before args s = true) : ∃ c : ClassId, ArrOfT s c ty ∧ s.vm.findClass ("[" ++ ty.toString) = some c := by
  obtain ⟨c, k, comp, a1, a2, a3⟩ := Cond.arrayClass_spec h
  exact ⟨c, fun n z => ⟨fun k h => (by cases h), k, a2, comp, a3⟩, a1⟩
theorem st_K {args : Array Value} {s : State} (hts : ∀ w ∈ lw_tbl, w.before args s = true) {cI : ClassId} (hI : ArrOfT s cI .int) : ∃ D : cD, cK D s ∧ D.2.2 21 = cI := by
  have h1 : ∀ ci, ∃ (cC : ClassId) (iS : Nat → Nat), ci < 12 ∧ ci ≠ 4 → u_Kn s (cRow ci).1 (cRow ci).2.1 (cRow ci).2.2 cC iS := fun ci => by
    by_cases h : ci < 12 ∧ ci ≠ 4
    · obtain ⟨cC, iS, k⟩ := u_known (ws := lw_tbl) hts (tb_Kn ci h.1) (hts _ (tb_in ci h.1 h.2))
      exact ⟨cC, iS, fun _ => k⟩
    · exact ⟨0, fun _ => 0, fun z => absurd z h⟩
  have hAO : cAO s := hts _ tb_ai.2
  have h2 : ∀ tag, ∃ cA : ClassId, ∀ ty, cTy tag = some ty → ArrOfT s cA ty ∧ va_RA s cA ty := fun tag => by
    cases h : cTy tag with
    | none => exact ⟨0, fun ty z => by cases z⟩
    | some t =>
      rcases cTy_is h with rfl | rfl | ⟨ci, hc, hs, rfl⟩
      · obtain ⟨c, a1, a2⟩ := st_int (hts _ tb_ai.1)
        exact ⟨c, fun ty z => by cases z; exact ⟨a1, a2⟩⟩
      · obtain ⟨comp, c, k, f1, -, f2, f3, f4⟩ := hAO.spec
        exact ⟨c, fun ty z => by cases z; exact ⟨fun n z => ⟨fun k h => (by cases h), k, f2, comp, f3⟩, f4⟩⟩
      · obtain ⟨comp, cA, kA, f1, -, f2, f3, f4⟩ := Cond.arrayOver_spec (hts _ (tb_AO ci hc hs))
        exact ⟨cA, fun ty z => by cases z; exact ⟨fun n z => ⟨fun k h => (by cases h), kA, f2, comp, f3⟩, ⟨kA, comp, f2, f3, f1, f4⟩⟩⟩
  have h3 : ∀ tag ty, cTy tag = some ty → ArrOfT s (if tag = 21 then cI else Classical.choose (h2 tag)) ty ∧ va_RA s (if tag = 21 then cI else Classical.choose (h2 tag)) ty := fun tag ty h => by
    by_cases h21 : tag = 21
    · subst h21; cases h
    · rw [if_neg h21]; exact Classical.choose_spec (h2 tag) ty h
  exact ⟨(fun ci => Classical.choose (h1 ci), fun ci => Classical.choose (Classical.choose_spec (h1 ci)), fun tag => if tag = 21 then cI else Classical.choose (h2 tag)), ⟨fun ci h h4 => Classical.choose_spec (Classical.choose_spec (h1 ci)) ⟨h, h4⟩, fun tag ty h => h3 tag ty h, fun w hw => va_Nw.of (cNest_on w hw) (hts w (tb_ns w hw)), fun ci h hs => va_AO.of (hts _ (tb_AO ci h hs)), hAO, hI⟩, rfl⟩
