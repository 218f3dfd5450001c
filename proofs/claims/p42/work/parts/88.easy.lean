section EASY
variable {k : Nat}
theorem sq_shownParent {T : qqT} {G : qqG} {L : qqL} {A : kA} {ex : Nat → Nat → Prop} {K : kS} {v nw k : Nat} {S : cS} {σ : mS} (w : JW k T G L A ex K v nw S σ) (a1 : Int32) : sJR [2] lvN (JP (pf T G σ (P_sc T G σ)) (k + 1)) (f_X11_shownParent 1 a1 S) (f_shownParent a1 σ) := by
  obtain ⟨⟨hw, hA, hin⟩, h49, -, j⟩ := id w
  have h30 := hw.n30
  have q := j.1.1
  have rt := j.1.2.2.2
  have rt' := (j.scR (scR_sf σ 0)).1.2.2.2
  refine at49 (P := fun x => sJR [2] lvN (JP (pf T G σ (P_sc T G σ)) (k + 1)) (f_X11_shownParent x a1 S) (f_shownParent a1 σ)) h49 ?_
  unfold f_X11_shownParent f_shownParent f_shownParent_14 f_X11_shownParent_24 f_shownParent_29
  rw [q.2.1.r11 hA, qqx, r_isElement rt hw, qqx]
  rcases ix_cases a1 (n := Tn T) (by omega) with ⟨e, he, rfl⟩ | hx
  · rw [c_elementAt hw q hA he, qqx, if_dt (nI_inn he (by omega)), r_holds0, qqx, if_pos rfl, r_shown hw rt' he, qqx]
    show sJR _ _ _ ((gR S (some (A 0 e)) 3 16).bind _) _
    rw [g16 q.1 hA (fun e he => (q.2.2.1.1 e he).2.2.1) he, qqx, qqx]
    cases hs : Tsp T e with
    | none => rw [el_none, if_pos rfl]; exact sJR.r rfl rfl w.sc
    | some x =>
      have hx := Tsp_n9 hw hs
      rw [el_some, if_neg (fun z => by cases z)]
      show sJR _ _ _ ((gI S (some (A 0 x)) 3 0).bind _) _
      rw [q.1.gn hA hx, qqx]
      exact sJR.r rfl rfl w.sc
  · rw [c_elementN hw q hA hx, qqx, if_df hx, r_holds1, qqx]
    exact sJR.l rfl (w.no 1)
theorem sq_isIn {T : qqT} {G : qqG} {L : qqL} {A : kA} {ex : Nat → Nat → Prop} {K : kS} {v nw k : Nat} {S : cS} {σ : mS} (w : JW k T G L A ex K v nw S σ) (a1 : Int32) : sJR [2] lvZ (JP (pf T G σ (P_sc T G σ)) (k + 1)) (f_X11_isIn 1 a1 S) (f_isIn a1 σ) := by
  obtain ⟨⟨hw, hA, hin⟩, h49, -, j⟩ := id w
  have h30 := hw.n30
  have q := j.1.1
  have rt := j.1.2.2.2
  have rt' := (j.scR (scR_sf σ 0)).1.2.2.2
  refine at49 (P := fun x => sJR [2] lvZ (JP (pf T G σ (P_sc T G σ)) (k + 1)) (f_X11_isIn x a1 S) (f_isIn a1 σ)) h49 ?_
  unfold f_X11_isIn f_isIn f_isIn_14 f_isIn_32 f_isIn_33
  rw [q.2.1.trees hA, qqx, q.2.1.r11 hA, qqx, r_isElement rt hw, qqx]
  rcases ix_cases a1 (n := Tn T) (by omega) with ⟨e, he, rfl⟩ | hx
  · rw [c_elementAt hw q hA he, qqx, if_dt (nI_inn he (by omega)), r_holds0, qqx, if_pos rfl, r_inDoc hw rt' he, qqx]
    show sJR _ _ _ ((rc S (some (A 50 0)) 10).bind _) _
    rw [hA.Rc 50 10 (q.2.1.x (by decide) (by decide) (by decide)) rfl, qqx, c_holds hw hA q he, qqx, lrzt_b2]
    cases hd : TD T e with
    | true => exact sJR.r rfl rfl w.sc
    | false => exact sJR.r rfl rfl w.sc
  · rw [c_elementN hw q hA hx, qqx, if_df hx, r_holds1, qqx]
    exact sJR.l rfl (w.no 1)
end EASY
