section RU4
variable {T : qqT} {G : qqG} {L : qqL} {A A' : kA} {ex : Nat → Nat → Prop} {K K' : kS} {S S' : cS} {σ σ' : mS} {v v' nw9 k : Nat}
def P_ru (T : qqT) (G : qqG) (σ : mS) (T' : qqT) (G' : qqG) (σ' : mS) : Prop := T' = T ∧ ∃ f s σw, f < Gk G ∧ s < Gs G ∧ Gr G < 40 ∧ G' = gRu G f s ∧ sB [32, 33, 34] [36] (sf σ 81 0) σw ∧ σ' = sf σw 49 (qqM (TD T) (Tn T))
theorem sq_rule {T : qqT} {G : qqG} {L : qqL} {A : kA} {ex : Nat → Nat → Prop} {K : kS} {v nw9 k : Nat} {S : cS} {σ : mS} (w : JW k T G L A ex K v nw9 S σ) (a1 a2 : Int32) : sJR [2, 1] lvN (JP (pf T G σ (P_ru T G σ)) (k + 1)) (f_X11_rule 1 a1 a2 S) (f_rule a1 a2 σ) := by
  obtain ⟨⟨hw, hA, hin⟩, h49, ⟨hv, hn, h54⟩, j⟩ := id w
  have h30 := hw.n30
  have q := j.1.1
  have hk8 := j.2.1.1.k8
  have h40 := j.2.1.1.r40
  have hg := j.2.2.2.2.2.1.1.2.2.2.1
  have s31 := j.2.1.1.1
  have s36 := j.2.1.1.rn
  have x58 : ex 58 0 := q.2.1.x (by decide) (by decide) (by decide)
  have x60 : ex 60 0 := q.2.1.x (by decide) (by decide) (by decide)
  have x49 : ex 49 0 := q.2.1.x (by decide) (by decide) (by decide)
  refine at49 (P := fun x => sJR [2, 1] lvN (JP (pf T G σ (P_ru T G σ)) (k + 1)) (f_X11_rule x a1 a2 S) (f_rule a1 a2 σ)) h49 ?_
  unfold f_X11_rule f_rule f_rule_24
  have r1 : f_rule_42 a1 a2 1 σ = some (-1, sf σ 81 1) := by unfold f_rule_42; rw [r_holds1, qqx]; rfl
  have r2 : f_rule_42 a1 a2 2 σ = some (-1, sf σ 81 2) := by unfold f_rule_42; rw [r_holds2, qqx]; rfl
  rw [q.2.1.r11 hA, qqx, s31, r_in0 a1 (n := Gk G) (by omega) rfl, qqx, r1, r2]
  rcases ix_cases a1 (n := Gk G) (by omega) with ⟨f, hf, rfl⟩ | hx
  · rw [c_sheetY j hA hf, qqx, if_dt (nI_inn hf (by omega)), r_isSel j, qqx]
    show sJR _ _ _ ((rc S (some (A 49 0)) 11).bind _) _
    rw [q.2.1.r11 hA, qqx]
    show sJR _ _ _ ((f_X11_selectorAt (A 49 0) a2 S).bind _) _
    rcases ix_cases a2 (n := Gs G) (by omega) with ⟨s, hs, rfl⟩ | hx
    · rw [c_selY j hA hs, qqx, if_dt (nI_inn hs (by omega)), s36]
      have g5 : gI S (some (A 58 0)) 1 5 = some (nI (Gr G)) := by rw [hA.I 58 1 x58 rfl, j.2.1.2.1.2.2.2.1.2.1, s36]
      show sJR _ _ _ ((gR S (some (A 49 0)) 11 2).bind _) _
      rw [q.2.1.cascade hA, qqx, g5, qqx]
      unfold f_X11_rule_30
      by_cases full : Gr G < 40
      · rw [if_pos (show nI (Gr G) < 40 from nI_lt (b := 40) full (by decide)), if_neg (show ¬ nI (Gr G) = 40 from fun z => by have := (nI_eqE (b := 40) (by omega) (by decide)).mp z; omega), c_refS0, qqx]
        show sJR _ _ _ ((rc S (some (A 49 0)) 11).bind _) _
        rw [q.2.1.r11 hA, qqx]
        have j0 := j.scR (scR_sf σ 0)
        obtain ⟨S1, K1, e1, h1, j1, b1⟩ := all_ref hw hA j0
        have q1 := j1.1.1
        have hS0 : S1.2 ≠ 0 := by have := (h1.1 49 0 x49).2.1; omega
        have n11 : ∀ t, t ≤ 4 → ¬ ex (11 + t) (Gr G) := fun t ht => j1.2.2.2.2.2.2.2.1.2.2.1 (11 + t) (Gr G) (by omega) (by omega) (Nat.le_refl _)
        obtain ⟨A', hAA, hAn⟩ : ∃ A' : kA, (∀ a b, ex a b → A' a b = A a b) ∧ ∀ t, t ≤ 4 → A' (11 + t) (Gr G) = S1.2 + t := by
          refine ⟨fun a b => if 11 ≤ a ∧ a ≤ 15 ∧ b = Gr G then S1.2 + (a - 11) else A a b, fun a b hx => if_neg (fun z => ?_), fun t ht => ?_⟩
          · have := n11 (a - 11) (by omega)
            rw [show 11 + (a - 11) = a by omega, ← z.2.2] at this
            exact this hx
          · show (if 11 ≤ 11 + t ∧ 11 + t ≤ 15 ∧ Gr G = Gr G then S1.2 + (11 + t - 11) else A (11 + t) (Gr G)) = _
            rw [if_pos (by omega)]; omega
        have h1' := h1.chA hAA
        obtain ⟨c1, c2, c3, c4, c5⟩ := j1.2.1.2.1
        have x16 : ex 16 f := (c1 f hf).1
        have x17 : ex 17 s := (c5 s hs).1
        have ft := j1.2.1.2.2.2.2
        obtain ⟨b11, hb11⟩ := ft.2.2.1.b
        obtain ⟨b7, hb7⟩ := (ft.1 s hs).2.1.b
        obtain ⟨S2, K2, e2, h2, b2', facts⟩ := c_addRule h1' full n11 hAn hS0 x58 x60 x16 x17 q1.2.1.2.2.2.1.2.2.2.1 (c4.2.1.trans j1.2.1.1.rn) c4.2.2.2.2 (fun h0 => by rw [c4.2.2.2.1, if_pos h0]) (fun r hr => (c2 r (by omega)).1 11 (by decide) (by decide)) ⟨b11 || b7, by rw [hb11, hb7, b2_or]⟩ ⟨_, by rw [ft.2.2.2, (ft.1 s hs).2.2.1, b2_or]⟩
        rw [hAA 58 0 x58, hAA 16 f x16, hAA 17 s x17] at e2
        have sw : sB [32, 33, 34] [36] (sf σ 81 0) (sf (up (up (up (sf σ 81 0) 32 (Gr G) (nI f)) 33 (Gr G) (nI s)) 34 (Gr G) (-1)) 36 (nI (Gr G + 1))) := ((((sB.rf _).up (by simp)).up (by simp)).up (by simp)).sf (by simp)
        generalize hσ : sf (up (up (up (sf σ 81 0) 32 (Gr G) (nI f)) 33 (Gr G) (nI s)) 34 (Gr G) (-1)) 36 (nI (Gr G + 1)) = σw at sw
        have s1 : σw.2 36 = nI (Gr G + 1) ∧ (σw.1 32 (Gr G) = nI f ∧ σw.1 33 (Gr G) = nI s ∧ σw.1 34 (Gr G) = -1) ∧ ∀ i, i ≠ Gr G → σw.1 32 i = σ.1 32 i ∧ σw.1 33 i = σ.1 33 i ∧ σw.1 34 i = σ.1 34 i := by
          rw [← hσ]
          refine ⟨sf_s _ _ _, ?_, fun i hi => ?_⟩
          · simp [sf_1, up, upd]
          · simp [sf_1, up, upd, hi]
        rw [show K1.1 16 f 1 = (sf (sf σ 81 0) 49 (qqM (TD T) (Tn T))).1 27 f from (c1 f hf).2.2.1] at facts
        have j2 := j1.ru rfl full hf hs b2' (sB_sf2 sw 49 (qqM (TD T) (Tn T))) facts ⟨(sf_o (by decide)).trans s1.1, s1.2⟩
        have ref : f_rule_42 (nI f) (nI s) 0 σ = some (nI (Gr G + 1) - 1, sf σw 49 (qqM (TD T) (Tn T))) := by
          have s36' : (sf σ 81 0).2 36 = nI (Gr G) := s36
          unfold f_rule_42
          rw [r_holds0, qqx, if_pos rfl, s36', wr_32 (by omega), qqx, up_2, s36', wr_33 (by omega), qqx, up_2, up_2, s36', wr_34 (by omega), qqx, up_2, up_2, up_2, s36', nI_1, hσ, r_markAllE hw (j0.1.2.2.2.sB sw (by decide) (by decide)), qqx, sf_o (by decide), s1.1]
        rw [ref]
        show sJR _ _ _ ((f_X11_markAll (A 49 0) S).bind _) _
        rw [e1, qqx, q1.2.1.cascade h1, qqx, q1.2.1.r1 h1, qqx, e2, qqx]
        have f81 : (sf σw 49 (qqM (TD T) (Tn T))).2 81 = 0 := (sf_o (by decide)).trans ((sw.2 81 (by decide)).trans rfl)
        have f54 : (sf σw 49 (qqM (TD T) (Tn T))).2 54 = σ.2 54 := (sf_o (by decide)).trans ((sw.2 54 (by decide)).trans rfl)
        refine sJR.r rfl f81 (fun n hn1 => ⟨T, gRu G f s, L, A', _, _, v, nw9, ⟨⟨hw, h2.mono hn1, kIn_ex (fun a b h => Or.inl (Or.inl (Or.inl (Or.inl (Or.inl h))))) hAA ((hin.kp b1 (fun i j => by unfold MI; omega)).kp b2' (fun i j => by unfold ruP; omega))⟩, (hAA 49 0 x49).trans h49, ⟨by omega, hn, f54.trans h54⟩, j2⟩, Or.inr ⟨f81, rfl, f, s, σw, hf, hs, full, rfl, sw, rfl⟩⟩)
      · have : Gr G = 40 := by omega
        rw [if_neg (show ¬ nI (Gr G) < 40 by rw [this]; decide), if_pos (show nI (Gr G) = 40 by rw [this]; rfl), c_refS1, qqx]
        exact sJR.l rfl (w.no 2)
    · rw [c_selN j hA hx, qqx, if_df hx]
      exact sJR.l rfl (w.no 1)
  · rw [c_sheetN j hA hx, qqx, if_df hx]
    exact sJR.l rfl (w.no 1)
end RU4
