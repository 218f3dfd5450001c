section PT2
variable {k : Nat}
theorem sq_put {T : qqT} {G : qqG} {L : qqL} {A : kA} {ex : Nat → Nat → Prop} {K : kS} {v nw9 k : Nat} {S : cS} {σ : mS} (hk : k < 60000) (w : JW k T G L A ex K v nw9 S σ) (a1 a2 a3 : Int32) : sJU [2, 1] (JP (pf T G σ (P_in T G σ)) (k + 1)) (f_X11_put 1 a1 a2 a3 S) (f_put a1 a2 a3 σ) := by
  obtain ⟨⟨hw, hA, hin⟩, h49, ⟨hv, hn, h54⟩, j⟩ := id w
  have h30 := hw.n30
  have q := j.1.1
  have rt := j.1.2.2.2
  refine at49 (P := fun x => sJU [2, 1] (JP (pf T G σ (P_in T G σ)) (k + 1)) (f_X11_put x a1 a2 a3 S) (f_put a1 a2 a3 σ)) h49 ?_
  unfold f_X11_put f_put
  have r1 : ∀ x1 x2 x3, f_put_35 x1 x2 x3 σ = some (sf σ 81 1) := fun x1 x2 x3 => by
    unfold f_put_35 f_put_36 f_put_70
    rw [if_pos rfl, r_holds1, qqx]; rfl
  have r2 : ∀ x1 x2 x3, f_put_65 x1 x2 x3 σ = some (sf σ 81 2) := fun x1 x2 x3 => by
    unfold f_put_65 f_put_70
    rw [r_holds2, qqx]; rfl
  rw [q.2.1.r11 hA, qqx, r_isElement rt hw, qqx, r1]
  rcases ix_cases a1 (n := Tn T) (by omega) with ⟨e, he, rfl⟩ | hx
  · rw [c_elementAt hw q hA he, qqx, if_dt (nI_inn he (by omega)), r_isElement rt hw, qqx]
    show sJU _ _ ((rc S (some (A 49 0)) 11).bind _) _
    rw [q.2.1.r11 hA, qqx]
    rcases ix_cases a2 (n := Tn T) (by omega) with ⟨p, hp, rfl⟩ | hx
    · rw [c_elementAt hw q hA hp, qqx, if_dt (nI_inn hp (by omega)), rd_10 (by omega), qqx]
      have no : sJU [2, 1] (JP (pf T G σ (P_in T G σ)) (k + 1)) (f_X11_put_34 (A 49 0) a3 (some (A 0 e)) (some (A 0 p)) S) (some (sf σ 81 1)) := by
        unfold f_X11_put_34 f_X11_put_39
        rw [c_refB1, qqx]
        exact sJU.l rfl (w.no 1)
      show sJU _ _ (if a3 < (0:Int32) then (f_X11_put_34 (A 49 0) a3 (some (A 0 e)) (some (A 0 p)) S) else ((gR S (some (A 49 0)) 11 0).bind (fun v7 => (gR S (some (A 0 p)) 3 10).bind (fun v8 => (rc S v7 10).bind (fun v9 => (f_X10_countFrom v9 v8 S).bind (fun v10 => if a3 ≤ v10 then (f_X11_put_39 (A 49 0) a3 (some (A 0 e)) (some (A 0 p)) 0 S) else (f_X11_put_34 (A 49 0) a3 (some (A 0 e)) (some (A 0 p)) S))))))) _
      have cnt : (gR S (some (A 49 0)) 11 0).bind (fun v7 => (gR S (some (A 0 p)) 3 10).bind (fun v8 => (rc S v7 10).bind (fun v9 => (f_X10_countFrom v9 v8 S).bind (fun v10 => if a3 ≤ v10 then (f_X11_put_39 (A 49 0) a3 (some (A 0 e)) (some (A 0 p)) 0 S) else (f_X11_put_34 (A 49 0) a3 (some (A 0 e)) (some (A 0 p)) S))))) = if a3 ≤ nI (Tc T p).length then (f_X11_put_39 (A 49 0) a3 (some (A 0 e)) (some (A 0 p)) 0 S) else (f_X11_put_34 (A 49 0) a3 (some (A 0 e)) (some (A 0 p)) S) := by
        have k30 := hw.clen p
        rw [q.2.1.trees hA, qqx, q.1.g10 hA hp, qqx, hA.Rc 50 10 q.1.2.1 rfl, qqx, c_countFrom hw q.1 hA (fun y hy => (hw.clt hy).1) (sibL_c hw p) (by omega), qqx]
      rw [cnt, rt.2.2.2.2.1 p (by omega), r_in, qqx]
      have k30 := hw.clen p
      rcases ix_cases a3 (n := (Tc T p).length + 1) (by omega) with ⟨i, hi, rfl⟩ | hx
      · have c0 : (0 : Int32) ≤ nI i := nI_pos' (by omega)
        have c1 : nI i ≤ nI (Tc T p).length := (nI_leE (by omega) (by omega)).mpr (by omega)
        rw [if_neg (nI_pos (by omega)), if_pos c1, if_dt ⟨c0, c1⟩]
        unfold f_X11_put_39 f_put_36
        rw [c_refB0, qqx, if_neg (by decide), r_loose hw rt he, qqx, r_within hw rt he hp, qqx, r2]
        show sJU _ _ ((gR S (some (A 49 0)) 11 0).bind _) _
        rw [q.2.1.trees hA, qqx, hA.Rc 50 10 q.1.2.1 rfl, qqx, c_mayEnter hw q.1 hA he hp, qqx]
        have bad : sJU [2, 1] (JP (pf T G σ (P_in T G σ)) (k + 1)) (f_X11_put_61 (A 49 0) (nI i) (some (A 0 e)) (some (A 0 p)) 1 S) (some (sf σ 81 2)) := by
          unfold f_X11_put_61
          rw [c_refS1, qqx]
          exact sJU.l rfl (w.no 2)
        cases hl : lsB T e with
        | false =>
          rw [Bool.and_false, if_pos (show b2 false = 0 from rfl), if_pos (show b2 false = 0 from rfl)]; exact bad
        | true =>
          rw [Bool.and_true, if_neg (show ¬ b2 true = 0 by decide)]
          cases ht : TA T e p with
          | true => rw [show (!true) = false from rfl, if_pos (show b2 false = 0 from rfl), if_neg (show ¬ b2 true = 0 by decide)]; exact bad
          | false =>
            rw [show (!false) = true from rfl, if_neg (show ¬ b2 true = 0 by decide), if_pos (show b2 false = 0 from rfl)]
            have hup : e ≠ 0 ∧ Tup T e = none := by
              unfold lsB at hl
              rw [Bool.and_eq_true] at hl
              exact ⟨of_decide_eq_true hl.1, by
                cases hu : Tup T e with
                | none => rfl
                | some y => rw [hu] at hl; exact absurd hl.2 (by simp)⟩
            have tp : Tp T e = none := by
              cases hq : Tp T e with
              | none => rfl
              | some y => have := Tup_p hq; rw [hup.2] at this; cases this
            have th : Th T e = none := by
              cases hq : Th T e with
              | none => rfl
              | some y => have := Tup_h hw hq; rw [hup.2] at this; cases this
            exact put0_core hk w ⟨⟨he, hp, hup.1⟩, ⟨tp, th⟩, ht, (fun z => by cases z), by rw [show Tls T false p = Tc T p from if_neg (by decide)]; omega⟩
      · have hx' : ¬ (0 ≤ a3 ∧ a3 ≤ nI (Tc T p).length) := fun z => hx ⟨z.1, Int32.lt_of_le_of_lt z.2 (nI_lt (by omega) (by omega))⟩
        rw [if_df hx']
        by_cases c : a3 < 0
        · rw [if_pos c]; exact no
        · rw [if_neg c, if_neg (fun z => hx' ⟨Int32.not_lt.mp c, z⟩)]; exact no
    · rw [c_elementN hw q hA hx, qqx, if_df hx]
      exact sJU.l rfl (w.no 1)
  · rw [c_elementN hw q hA hx, qqx, if_df hx]
    exact sJU.l rfl (w.no 1)
theorem sq_putTop {T : qqT} {G : qqG} {L : qqL} {A : kA} {ex : Nat → Nat → Prop} {K : kS} {v nw9 k : Nat} {S : cS} {σ : mS} (hk : k < 60000) (w : JW k T G L A ex K v nw9 S σ) (a1 a2 a3 : Int32) : sJU [2, 1] (JP (pf T G σ (P_in T G σ)) (k + 1)) (f_X11_putTop 1 a1 a2 a3 S) (f_putTop a1 a2 a3 σ) := by
  obtain ⟨⟨hw, hA, hin⟩, h49, ⟨hv, hn, h54⟩, j⟩ := id w
  have h30 := hw.n30
  have q := j.1.1
  have rt := j.1.2.2.2
  refine at49 (P := fun x => sJU [2, 1] (JP (pf T G σ (P_in T G σ)) (k + 1)) (f_X11_putTop x a1 a2 a3 S) (f_putTop a1 a2 a3 σ)) h49 ?_
  unfold f_X11_putTop f_putTop
  have r1 : ∀ x1 x2 x3, f_putTop_45 x1 x2 x3 σ = some (sf σ 81 1) := fun x1 x2 x3 => by
    unfold f_putTop_45 f_putTop_46 f_putTop_80
    rw [if_pos rfl, r_holds1, qqx]; rfl
  have r2 : ∀ x1 x2 x3, f_putTop_75 x1 x2 x3 σ = some (sf σ 81 2) := fun x1 x2 x3 => by
    unfold f_putTop_75 f_putTop_80
    rw [r_holds2, qqx]; rfl
  rw [q.2.1.r11 hA, qqx, r_isElement rt hw, qqx, r1]
  rcases ix_cases a1 (n := Tn T) (by omega) with ⟨e, he, rfl⟩ | hx
  · rw [c_elementAt hw q hA he, qqx, if_dt (nI_inn he (by omega)), r_isElement rt hw, qqx]
    show sJU _ _ ((rc S (some (A 49 0)) 11).bind _) _
    rw [q.2.1.r11 hA, qqx]
    rcases ix_cases a2 (n := Tn T) (by omega) with ⟨p, hp, rfl⟩ | hx
    · rw [c_elementAt hw q hA hp, qqx, if_dt (nI_inn hp (by omega)), rd_8 (by omega), qqx]
      have no : sJU [2, 1] (JP (pf T G σ (P_in T G σ)) (k + 1)) (f_X11_putTop_42 (A 49 0) a3 (some (A 0 e)) (some (A 0 p)) S) (some (sf σ 81 1)) := by
        unfold f_X11_putTop_42 f_X11_putTop_47
        rw [c_refB1, qqx]
        exact sJU.l rfl (w.no 1)
      rw [rt.2.2.2.1 p (by omega), b2_i1]
      show sJU _ _ ((gI S (some (A 0 p)) 3 7).bind _) _
      rw [q.1.gs hA hp, qqx]
      cases hs : Ts T p with
      | false =>
        rw [if_neg (show ¬ false = true by decide), if_pos (show b2 false = 0 from rfl)]
        exact no
      | true =>
        rw [if_neg (show ¬ b2 true = 0 by decide), if_pos (show true = true from rfl)]
        show sJU _ _ (if a3 < (0:Int32) then (f_X11_putTop_42 (A 49 0) a3 (some (A 0 e)) (some (A 0 p)) S) else ((gR S (some (A 49 0)) 11 0).bind (fun v7 => (gR S (some (A 0 p)) 3 11).bind (fun v8 => (rc S v7 10).bind (fun v9 => (f_X10_countFrom v9 v8 S).bind (fun v10 => if a3 ≤ v10 then (f_X11_putTop_47 (A 49 0) a3 (some (A 0 e)) (some (A 0 p)) 0 S) else (f_X11_putTop_42 (A 49 0) a3 (some (A 0 e)) (some (A 0 p)) S))))))) _
        have cnt : (gR S (some (A 49 0)) 11 0).bind (fun v7 => (gR S (some (A 0 p)) 3 11).bind (fun v8 => (rc S v7 10).bind (fun v9 => (f_X10_countFrom v9 v8 S).bind (fun v10 => if a3 ≤ v10 then (f_X11_putTop_47 (A 49 0) a3 (some (A 0 e)) (some (A 0 p)) 0 S) else (f_X11_putTop_42 (A 49 0) a3 (some (A 0 e)) (some (A 0 p)) S))))) = if a3 ≤ nI (Tt T p).length then (f_X11_putTop_47 (A 49 0) a3 (some (A 0 e)) (some (A 0 p)) 0 S) else (f_X11_putTop_42 (A 49 0) a3 (some (A 0 e)) (some (A 0 p)) S) := by
          have k30 := hw.tlen p
          rw [q.2.1.trees hA, qqx, q.1.g11 hA hp, qqx, hA.Rc 50 10 q.1.2.1 rfl, qqx, c_countFrom hw q.1 hA (fun y hy => (hw.tlt hy).1) (sibL_t hw p) (by omega), qqx]
        rw [cnt, rd_12 (by omega), qqx, rt.2.2.2.2.2.1 p (by omega), r_in, qqx]
        have k30 := hw.tlen p
        rcases ix_cases a3 (n := (Tt T p).length + 1) (by omega) with ⟨i, hi, rfl⟩ | hx
        · have c0 : (0 : Int32) ≤ nI i := nI_pos' (by omega)
          have c1 : nI i ≤ nI (Tt T p).length := (nI_leE (by omega) (by omega)).mpr (by omega)
          rw [if_neg (nI_pos (by omega)), if_pos c1, if_dt ⟨c0, c1⟩]
          unfold f_X11_putTop_47 f_putTop_46
          rw [c_refB0, qqx, if_neg (by decide), r_loose hw rt he, qqx, r_within hw rt he hp, qqx, r2]
          show sJU _ _ ((gR S (some (A 49 0)) 11 0).bind _) _
          rw [q.2.1.trees hA, qqx, hA.Rc 50 10 q.1.2.1 rfl, qqx, c_mayEnter hw q.1 hA he hp, qqx]
          have bad : sJU [2, 1] (JP (pf T G σ (P_in T G σ)) (k + 1)) (f_X11_putTop_69 (A 49 0) (nI i) (some (A 0 e)) (some (A 0 p)) 1 S) (some (sf σ 81 2)) := by
            unfold f_X11_putTop_69
            rw [c_refS1, qqx]
            exact sJU.l rfl (w.no 2)
          cases hl : lsB T e with
          | false =>
            rw [Bool.and_false, if_pos (show b2 false = 0 from rfl), if_pos (show b2 false = 0 from rfl)]; exact bad
          | true =>
            rw [Bool.and_true, if_neg (show ¬ b2 true = 0 by decide)]
            cases ht : TA T e p with
            | true => rw [show (!true) = false from rfl, if_pos (show b2 false = 0 from rfl), if_neg (show ¬ b2 true = 0 by decide)]; exact bad
            | false =>
              rw [show (!false) = true from rfl, if_neg (show ¬ b2 true = 0 by decide), if_pos (show b2 false = 0 from rfl)]
              have hup : e ≠ 0 ∧ Tup T e = none := by
                unfold lsB at hl
                rw [Bool.and_eq_true] at hl
                exact ⟨of_decide_eq_true hl.1, by
                  cases hu : Tup T e with
                  | none => rfl
                  | some y => rw [hu] at hl; exact absurd hl.2 (by simp)⟩
              have tp : Tp T e = none := by
                cases hq : Tp T e with
                | none => rfl
                | some y => have := Tup_p hq; rw [hup.2] at this; cases this
              have th : Th T e = none := by
                cases hq : Th T e with
                | none => rfl
                | some y => have := Tup_h hw hq; rw [hup.2] at this; cases this
              exact put1_core hk w ⟨⟨he, hp, hup.1⟩, ⟨tp, th⟩, ht, (fun _ => hs), by rw [show Tls T true p = Tt T p from if_pos rfl]; omega⟩
        · have hx' : ¬ (0 ≤ a3 ∧ a3 ≤ nI (Tt T p).length) := fun z => hx ⟨z.1, Int32.lt_of_le_of_lt z.2 (nI_lt (by omega) (by omega))⟩
          rw [if_df hx']
          by_cases c : a3 < 0
          · rw [if_pos c]; exact no
          · rw [if_neg c, if_neg (fun z => hx' ⟨Int32.not_lt.mp c, z⟩)]; exact no
    · rw [c_elementN hw q hA hx, qqx, if_df hx]
      exact sJU.l rfl (w.no 1)
  · rw [c_elementN hw q hA hx, qqx, if_df hx]
    exact sJU.l rfl (w.no 1)
end PT2
