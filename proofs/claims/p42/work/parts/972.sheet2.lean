section SH2
variable {T : qqT} {G : qqG} {L : qqL} {A A' : kA} {ex : Nat → Nat → Prop} {K K' : kS} {S S' : cS} {σ σ' : mS} {v v' nw9 k : Nat}
theorem shK_b (K : kS) (n : Nat) (o : Int32) (h : Option Nat) (lay : Int32) : kB (shP n) (shR n) K (shK K n o h lay) := by
  unfold shK
  exact ((((((((kB.rf K).nw (fun _ => Or.inl ⟨rfl, rfl⟩) (fun _ => Or.inl ⟨rfl, rfl⟩)).I (Or.inl ⟨rfl, rfl⟩)).I (Or.inl ⟨rfl, rfl⟩)).I (Or.inl ⟨rfl, rfl⟩)).R (Or.inl ⟨rfl, rfl⟩)).I (Or.inl ⟨rfl, rfl⟩)).R (Or.inr ⟨rfl, rfl, rfl⟩)).I (Or.inr ⟨rfl, rfl, rfl⟩)
theorem shK_at (K : kS) (n : Nat) (o : Int32) (h : Option Nat) (lay : Int32) : (shK K n o h lay).1 58 0 4 = nI (n + 1) ∧ (shK K n o h lay).1 16 n 0 = nI n ∧ (shK K n o h lay).1 16 n 1 = o ∧ (shK K n o h lay).2 16 n 2 = ro 0 h ∧ (shK K n o h lay).1 16 n 3 = lay ∧ (shK K n o h lay).1 16 n 4 = 1 ∧ (shK K n o h lay).2 59 0 n = some (16, n) := by
  unfold shK
  refine ⟨kwI_s _ _ _ _ _, ?_, ?_, ?_, ?_, ?_, ?_⟩ <;> simp [kwI, kwR]
def P_sh (T : qqT) (G : qqG) (σ : mS) (T' : qqT) (G' : qqG) (σ' : mS) : Prop := T' = T ∧ ∃ h σw, G' = gSh G h ∧ sB [27, 28, 29, 30] [31] (sf σ 81 0) σw ∧ σ' = sf σw 49 (qqM (TD T) (Tn T))
theorem sq_sheet {T : qqT} {G : qqG} {L : qqL} {A : kA} {ex : Nat → Nat → Prop} {K : kS} {v nw9 k : Nat} {S : cS} {σ : mS} (w : JW k T G L A ex K v nw9 S σ) (a1 a2 a3 : Int32) : sJR [0, 2, 1] lvN (JP (pf T G σ (P_sh T G σ)) (k + 1)) (f_X11_sheet 1 a1 a2 a3 S) (f_sheet a1 a2 a3 σ) := by
  obtain ⟨⟨hw, hA, hin⟩, h49, ⟨hv, hn, h54⟩, j⟩ := id w
  have h30 := hw.n30
  have q := j.1.1
  have rt := j.1.2.2.2
  have hk8 := j.2.1.1.k8
  have s31 := j.2.1.1.1
  have x58 : ex 58 0 := q.2.1.x (by decide) (by decide) (by decide)
  have x59 : ex 59 0 := q.2.1.x (by decide) (by decide) (by decide)
  have x49 : ex 49 0 := q.2.1.x (by decide) (by decide) (by decide)
  refine at49 (P := fun x => sJR [0, 2, 1] lvN (JP (pf T G σ (P_sh T G σ)) (k + 1)) (f_X11_sheet x a1 a2 a3 S) (f_sheet a1 a2 a3 σ)) h49 ?_
  unfold f_X11_sheet f_sheet f_sheet_21
  have r1 : f_sheet_51 a1 a2 a3 1 σ = some (-1, sf σ 81 1) := by unfold f_sheet_51; rw [r_holds1, qqx]; rfl
  have r2 : f_sheet_51 a1 a2 a3 2 σ = some (-1, sf σ 81 2) := by unfold f_sheet_51; rw [r_holds2, qqx]; rfl
  have r3 : f_sheet_51 a1 a2 a3 3 σ = some (-1, sf σ 81 3) := by unfold f_sheet_51; rw [r_holds3, qqx]; rfl
  have no : sJR [0, 2, 1] lvN (JP (pf T G σ (P_sh T G σ)) (k + 1)) (f_X11_sheet_21 (A 49 0) a1 a2 a3 S) (some (-1, sf σ 81 1)) := by
    unfold f_X11_sheet_21 f_X11_sheet_26
    rw [c_refA1, qqx]
    exact sJR.l rfl (w.no 1)
  rw [r_in0 a1 (n := 3) (by decide) (by decide), qqx, r1]
  show sJR _ _ _ ((f_X11_isBelow a1 (nI 3)).bind _) _
  rw [c_isBelow, qqx]
  rcases ix_cases a1 (n := 3) (by decide) with ⟨o, ho, rfl⟩ | hx
  · rw [if_dt (nI_inn ho (by decide)), if_dt (nI_inn ho (by decide)), r_inm a3 (n := 4) (by decide) (by decide), qqx]
    have core : (a3 = -1 ∨ ∃ l, l < 4 ∧ a3 = nI l) → sJR [0, 2, 1] lvN (JP (pf T G σ (P_sh T G σ)) (k + 1)) (f_X11_sheet_25 (A 49 0) (nI o) a2 a3 S) ((f_isTree (a2) σ).bind (fun v3 => if v3 = (0:Int32) then (f_sheet_51 (nI o) (a2) (a3) ((2:Int32)) σ) else (if (σ.2 31) = (8:Int32) then (f_sheet_51 (nI o) (a2) (a3) ((3:Int32)) σ) else (f_sheet_51 (nI o) (a2) (a3) ((0:Int32)) σ)))) := by
      intro hl
      unfold f_X11_sheet_25 f_X11_sheet_26
      rw [c_refA0, qqx]
      show sJR _ _ _ ((gR S (some (A 49 0)) 11 0).bind _) _
      rw [q.2.1.trees hA, qqx, hA.Rc 50 10 (q.2.1.x (by decide) (by decide) (by decide)) rfl, qqx]
      rcases tr_cases T h30 a2 with ⟨h, hh, rfl⟩ | ⟨hm, hx⟩
      · rw [c_hasTreeY hw q hA hh, qqx, if_neg (by decide), r_isTreeY hw rt hh, qqx, if_neg (by decide), s31]
        unfold f_X11_sheet_45
        rw [c_refB0, qqx]
        have g4 : gI S (some (A 58 0)) 1 4 = some (nI (Gk G)) := by rw [hA.I 58 1 x58 rfl, j.2.1.2.1.2.2.2.1.1, s31]
        show sJR _ _ _ ((gR S (some (A 49 0)) 11 2).bind _) _
        rw [q.2.1.cascade hA, qqx, g4, qqx]
        by_cases full : Gk G < 8
        · rw [if_pos (show nI (Gk G) < 8 from nI_lt (b := 8) full (by decide)), if_neg (show ¬ nI (Gk G) = 8 from fun z => by have := (nI_eqE (b := 8) (by omega) (by decide)).mp z; omega)]
          unfold f_X11_sheet_65
          rw [c_refS0, qqx]
          show sJR _ _ _ ((rc S (some (A 49 0)) 11).bind _) _
          rw [q.2.1.r11 hA, qqx]
          have j0 := j.scR (scR_sf σ 0)
          obtain ⟨S1, K1, e1, h1, j1, b1⟩ := all_ref hw hA j0
          have q1 := j1.1.1
          have hS0 : S1.2 ≠ 0 := by have := (h1.1 49 0 x49).2.1; omega
          have n16 : ¬ ex 16 (Gk G) := j1.2.2.2.2.2.2.2.1.2.1 (Gk G) (Nat.le_refl _)
          obtain ⟨A', hAA, hAn⟩ : ∃ A' : kA, (∀ a b, ex a b → A' a b = A a b) ∧ A' 16 (Gk G) = S1.2 := ⟨fun a b => if a = 16 ∧ b = Gk G then S1.2 else A a b, fun a b hx => if_neg (fun z => n16 (by rw [← z.1, ← z.2]; exact hx)), if_pos ⟨rfl, rfl⟩⟩
          have h1' := h1.chA hAA
          have eh : el A' h = el A h := el_A hAA q1.1 (fun q z => (hh q z).1)
          obtain ⟨S2, e2, h2⟩ := c_addSheet h1' full n16 hAn hS0 x58 x59 q1.2.1.2.2.2.1.2.2.1 (j1.2.1.2.1.2.2.2.1.1.trans j1.2.1.1.1) (h := h) (fun q z => q1.1.E (hh q z).1 (by decide)) (nI o) a3
          rw [eh, hAA 58 0 x58] at e2
          have s : sB [27, 28, 29, 30] [31] (sf σ 81 0) (sf (up (up (up (up (sf σ 81 0) 27 (Gk G) (nI o)) 28 (Gk G) (qqO h)) 29 (Gk G) a3) 30 (Gk G) 1) 31 (nI (Gk G + 1))) := (((((sB.rf _).up (by simp)).up (by simp)).up (by simp)).up (by simp)).sf (by simp)
          generalize hσ : sf (up (up (up (up (sf σ 81 0) 27 (Gk G) (nI o)) 28 (Gk G) (qqO h)) 29 (Gk G) a3) 30 (Gk G) 1) 31 (nI (Gk G + 1)) = σw at s
          have s1 : σw.2 31 = nI (Gk G + 1) ∧ (σw.1 27 (Gk G) = nI o ∧ σw.1 28 (Gk G) = qqO h ∧ σw.1 29 (Gk G) = a3 ∧ σw.1 30 (Gk G) = 1) ∧ ∀ i, i ≠ Gk G → σw.1 27 i = σ.1 27 i ∧ σw.1 28 i = σ.1 28 i ∧ σw.1 29 i = σ.1 29 i ∧ σw.1 30 i = σ.1 30 i := by
            rw [← hσ]
            refine ⟨sf_s _ _ _, ?_, fun i hi => ?_⟩
            · simp [sf_1, up, upd]
            · simp [sf_1, up, upd, hi]
          have j2 := j1.sh rfl full hh ho hl (shK_b K1 (Gk G) (nI o) h a3) (sB_sf2 s 49 (qqM (TD T) (Tn T))) (shK_at K1 (Gk G) (nI o) h a3) ⟨(sf_o (by decide)).trans s1.1, s1.2⟩
          have ref : f_sheet_51 (nI o) (qqO h) a3 0 σ = some (nI (Gk G + 1) - 1, sf σw 49 (qqM (TD T) (Tn T))) := by
            have s31' : (sf σ 81 0).2 31 = nI (Gk G) := s31
            unfold f_sheet_51
            rw [r_holds0, qqx, if_pos rfl, s31', wr_27 (by omega), qqx, up_2, s31', wr_28 (by omega), qqx, up_2, up_2, s31', wr_29 (by omega), qqx, up_2, up_2, up_2, s31', wr_30 (by omega), qqx, up_2, up_2, up_2, up_2, s31', nI_1, hσ, r_markAllE hw (j0.1.2.2.2.sB s (by decide) (by decide)), qqx, sf_o (by decide), s1.1]
          rw [ref]
          show sJR _ _ _ ((f_X11_markAll (A 49 0) S).bind _) _
          rw [e1, qqx, q1.2.1.cascade h1, qqx, q1.2.1.trees h1, qqx, h1.Rc 50 10 (q1.2.1.x (by decide) (by decide) (by decide)) rfl, qqx, c_atT hw q1.1 h1 hh, qqx, q1.2.1.r1 h1, qqx, e2, qqx]
          have f81 : (sf σw 49 (qqM (TD T) (Tn T))).2 81 = 0 := (sf_o (by decide)).trans ((s.2 81 (by decide)).trans rfl)
          have f54 : (sf σw 49 (qqM (TD T) (Tn T))).2 54 = σ.2 54 := (sf_o (by decide)).trans ((s.2 54 (by decide)).trans rfl)
          refine sJR.r rfl f81 (fun n hn1 => ⟨T, gSh G h, L, A', _, _, v, nw9, ⟨⟨hw, h2.mono hn1, kIn_ex (fun a b h => Or.inl h) hAA ((hin.kp b1 (fun i j => by unfold MI; omega)).kp (shK_b K1 (Gk G) (nI o) h a3) (fun i j => by unfold shP; omega))⟩, (hAA 49 0 x49).trans h49, ⟨by omega, hn, f54.trans h54⟩, j2⟩, Or.inr ⟨f81, rfl, h, σw, rfl, s, rfl⟩⟩)
        · have : Gk G = 8 := by omega
          rw [if_neg (show ¬ nI (Gk G) < 8 by rw [this]; decide), if_pos (show nI (Gk G) = 8 by rw [this]; rfl)]
          unfold f_X11_sheet_65 f_sheet_51
          rw [c_refS1, qqx, r_holds3, qqx]
          exact sJR.l rfl (w.no 3)
      · rw [c_hasTreeN hw q hA hm hx, qqx, if_pos rfl, r_isTreeN hw rt hm hx, qqx, if_pos rfl, r2]
        unfold f_X11_sheet_45
        rw [c_refB1, qqx]
        exact sJR.l rfl (w.no 2)
    by_cases hm : a3 = -1
    · rw [if_pos hm, decide_eq_true hm, Bool.true_or, if_neg (by decide)]
      exact core (Or.inl hm)
    · rw [if_neg hm, decide_eq_false hm, Bool.false_or]
      show sJR _ _ _ ((f_X11_isBelow a3 (nI 4)).bind _) _
      rw [c_isBelow, qqx]
      rcases ix_cases a3 (n := 4) (by decide) with ⟨l, hl, rfl⟩ | hx
      · rw [if_dt (nI_inn hl (by decide)), if_dt (nI_inn hl (by decide))]
        exact core (Or.inr ⟨l, hl, rfl⟩)
      · rw [if_df hx, if_df hx]; exact no
  · rw [if_df hx, if_df hx]; exact no
end SH2
