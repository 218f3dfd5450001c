section WDT
variable {T : qqT} {G : qqG} {L : qqL} {A : kA} {ex : Nat → Nat → Prop} {K K' : kS} {S S' : cS} {σ σ' : mS} {v v' nw k : Nat}
def P_al (T : qqT) (G : qqG) (σ : mS) (T' : qqT) (G' : qqG) (σ' : mS) : Prop := T' = T ∧ G' = G ∧ ∃ σ1, sB [30, 34, 35] [50] (sf σ 81 0) σ1 ∧ f_markAll σ1 = some σ'
theorem JW.all (w : JW k T G L A ex K v nw S σ) {K1 : kS} {S1 : cS} {σ1 : mS} (hA : KA A ex K1 S1) (j : J0 T G L ex K1 σ1 v) (b : kB caI F3 K K1) (s : sB caL [50] (sf σ 81 0) σ1) (s9 : sB [30, 34, 35] [50] (sf σ 81 0) σ1) : ∃ S' σ', f_X11_markAll (A 49 0) S1 = some S' ∧ f_markAll σ1 = some σ' ∧ σ'.2 81 = 0 ∧ ∀ n, S'.2 ≤ n → JP (pf T G σ (P_al T G σ)) (k + 1) (S'.1, n) σ' := by
  obtain ⟨S', K', σ', e1, e2, h1, j1, b1, s1⟩ := all_both w.1.1 hA j
  refine ⟨S', σ', e1, e2, (s1.2 81 (by decide)).trans ((s.2 81 (by decide)).trans rfl), w.to h1 ((w.1.2.2.kp b (fun i j => by unfold caI; omega)).kp b1 (fun i j => by unfold MI; omega)) j1 (by omega) ((s1.2 54 (by decide)).trans ((s.2 54 (by decide)).trans rfl)) (Or.inr ⟨(s1.2 81 (by decide)).trans ((s.2 81 (by decide)).trans rfl), rfl, rfl, σ1, s9, e2⟩)⟩
theorem sq_setWidth {T : qqT} {G : qqG} {L : qqL} {A : kA} {ex : Nat → Nat → Prop} {K : kS} {v nw k : Nat} {S : cS} {σ : mS} (w : JW k T G L A ex K v nw S σ) (a1 : Int32) : sJR [0] lvN (JP (pf T G σ (P_al T G σ)) (k + 1)) (f_X11_setWidth 1 a1 S) (f_setWidth a1 σ) := by
  obtain ⟨⟨hw, hA, hin⟩, h49, -, j⟩ := id w
  have q := j.1.1
  refine at49 (P := fun x => sJR [0] lvN (JP (pf T G σ (P_al T G σ)) (k + 1)) (f_X11_setWidth x a1 S) (f_setWidth a1 σ)) h49 ?_
  unfold f_X11_setWidth f_setWidth f_X11_setWidth_15 f_setWidth_18
  rw [r_in0 a1 (n := 10000) (by decide) (by decide), qqx]
  show sJR _ _ _ ((f_X11_isBelow a1 (nI 10000)).bind _) _
  rw [c_isBelow, qqx]
  by_cases hx : 0 ≤ a1 ∧ a1 < nI 10000
  · rw [if_dt hx, if_dt hx, c_refA0, qqx, r_holds0, qqx, if_pos rfl]
    have j0 := j.scR (scR_sf σ 0)
    have x58 : ex 58 0 := q.2.1.x (by decide) (by decide) (by decide)
    obtain ⟨S1, e1, h1⟩ := hA.PI (k := 58) (i := 0) (t := 1) (j := 8) x58 rfl (by decide) a1
    have b : kB caI F3 K (kwI K 58 0 8 a1) := (kB.rf K).I (Or.inr (Or.inr ⟨rfl, rfl⟩))
    have s : sB [30, 34, 35] [50] (sf σ 81 0) (sf (sf σ 81 0) 50 a1) := ⟨fun _ _ => rfl, fun f hf => sf_o (fun z => hf (by rw [z]; decide))⟩
    have s' : sB caL [50] (sf σ 81 0) (sf (sf σ 81 0) 50 a1) := s.wd (fun f hf => by revert f; decide) (fun f hf => hf)
    have kc : KC T G ex (kwI K 58 0 8 a1) (sf (sf σ 81 0) 50 a1) := j0.2.1.2.1.cgK (fun _ _ _ => rfl) (fun r hr => ⟨by rw [kwI_k (by decide)]; exact (j0.2.1.2.1.1 r hr).2.2.2.2.2.1, fun j _ => kwI_k (by decide)⟩) (fun r hr => ⟨by rw [kwI_k (by decide)]; exact (j0.2.1.2.1.2.1 r hr).2.2.2.2.2.1, by rw [kwI_k (by decide)]; exact (j0.2.1.2.1.2.1 r hr).2.2.2.2.2.2.1, kwI_k (by decide), kwI_k (by decide)⟩) (fun e => kwI_k (by decide)) ⟨by rw [kwI_s, sf_s], kwI_j (by decide), kwI_j (by decide)⟩ (fun s => kwI_k (by decide)) s'
    have ca : JCa T G ex (kwI K 58 0 8 a1) (sf (sf σ 81 0) 50 a1) := JCa_K j0.2.1 (RC_up j0.2.1.1 s' (fun k hk => (j0.2.1.1.2.2.1 k hk).2.2.2.2)) kc (fun r j _ => kwI_k (by decide)) (fun k r j h => kwI_k (by omega)) (fun j h9 => kwI_j (by omega)) s
    have j1 := j0.ca b s' ca (j0.2.2.2.2.2.2.2.cgC s' rfl (fun _ _ _ => rfl))
    obtain ⟨S2, σ2, e2, e3, z1, z2⟩ := w.all h1 j1 b s' s
    have q1 := j1.1.1
    rw [e3, qqx]
    show sJR _ _ _ ((gR S (some (A 49 0)) 11 2).bind (fun v3 => (gI S v3 1 8).bind (fun v4 => (gR S (some (A 49 0)) 11 2).bind (fun v5 => (pI S v5 1 8 a1).bind _)))) _
    rw [q.2.1.cascade hA, qqx, hA.I 58 1 x58 rfl, qqx, qqx, e1, qqx, q1.2.1.r11 h1, qqx, e2, qqx, j.2.1.2.1.2.2.2.1.2.2.1]
    exact sJR.r rfl z1 z2
  · rw [if_df hx, if_df hx, c_refA1, qqx, r_holds1, qqx]
    exact sJR.l rfl (w.no 1)
theorem pZ_b2 (S : cS) (r : Option Nat) (ci k : Nat) (b : Bool) : pZ S r ci k (b2 b) = pI S r ci k (b2 b) := by
  cases b <;> rfl
theorem c_sheetY (j : J0 T G L ex K σ v) (hA : KA A ex K S) {x : Nat} (hx : x < Gk G) : f_X11_sheetAt (A 49 0) (nI x) S = some (.inr (some (A 16 x)), S) := by
  have q := j.1.1
  have c := j.2.1.2.1
  have hk := j.2.1.1.k8
  unfold f_X11_sheetAt f_X1_sheetAt f_X1_sheetAt_28
  have g2 : gR S (some (A 58 0)) 1 2 = some (some (A 59 0)) := by rw [hA.R 58 1 (q.2.1.x (by decide) (by decide) (by decide)) rfl, q.2.1.2.2.2.1.2.2.1]; rfl
  have ga : aR S (some (A 59 0)) 38 (nI x) = some (some (A 16 x)) := by rw [hA.AR 59 38 8 (q.2.1.x (by decide) (by decide) (by decide)) rfl (by omega), (c.1 x hx).2.2.2.2.2.2]; rfl
  rw [q.2.1.cascade hA, qqx, q.2.1.r1 hA, qqx, if_neg (nI_pos (by omega)), q.2.1.I58 hA, c.2.2.2.1.1, j.2.1.1.1, qqx, if_neg (nI_ge (by omega) (by omega)), if_neg (show ¬ (8 : Int32) ≤ nI x from nI_ge (b := 8) (by omega) (by decide)), g2, qqx, ga, qqx, qqx, if_neg (fun z => by cases z)]
theorem c_sheetN (j : J0 T G L ex K σ v) (hA : KA A ex K S) {x : Int32} (hx : ¬ (0 ≤ x ∧ x < nI (Gk G))) : f_X11_sheetAt (A 49 0) x S = some (.inl 2, S) := by
  have q := j.1.1
  have c := j.2.1.2.1
  unfold f_X11_sheetAt
  rw [q.2.1.cascade hA, qqx, q.2.1.r1 hA, qqx, show f_X1_sheetAt (A 58 0) x S = some none from ?_, qqx, if_pos rfl]
  unfold f_X1_sheetAt
  by_cases h0 : x < 0
  · rw [if_pos h0]; rfl
  · rw [if_neg h0, q.2.1.I58 hA, c.2.2.2.1.1, j.2.1.1.1, qqx, if_pos (Int32.not_lt.mp (fun z => hx ⟨Int32.not_lt.mp h0, z⟩))]; rfl
theorem c_ruleY (j : J0 T G L ex K σ v) (hA : KA A ex K S) {x : Nat} (hx : x < Gr G) : f_X11_ruleAt (A 49 0) (nI x) S = some (.inr (some (A 11 x)), S) := by
  have q := j.1.1
  have c := j.2.1.2.1
  have hk := j.2.1.1.r40
  unfold f_X11_ruleAt f_X1_ruleAt f_X1_ruleAt_28
  have g2 : gR S (some (A 58 0)) 1 3 = some (some (A 60 0)) := by rw [hA.R 58 1 (q.2.1.x (by decide) (by decide) (by decide)) rfl, q.2.1.2.2.2.1.2.2.2.1]; rfl
  have ga : aR S (some (A 60 0)) 36 (nI x) = some (some (A 11 x)) := by rw [hA.AR 60 36 40 (q.2.1.x (by decide) (by decide) (by decide)) rfl (by omega), (c.2.1 x hx).2.2.2.2.2.2.2.2.2.2.2.2]; rfl
  rw [q.2.1.cascade hA, qqx, q.2.1.r1 hA, qqx, if_neg (nI_pos (by omega)), q.2.1.I58 hA, c.2.2.2.1.2.1, j.2.1.1.rn, qqx, if_neg (nI_ge (by omega) (by omega)), if_neg (show ¬ (40 : Int32) ≤ nI x from nI_ge (b := 40) (by omega) (by decide)), g2, qqx, ga, qqx, qqx, if_neg (fun z => by cases z)]
theorem c_ruleN (j : J0 T G L ex K σ v) (hA : KA A ex K S) {x : Int32} (hx : ¬ (0 ≤ x ∧ x < nI (Gr G))) : f_X11_ruleAt (A 49 0) x S = some (.inl 2, S) := by
  have q := j.1.1
  have c := j.2.1.2.1
  unfold f_X11_ruleAt
  rw [q.2.1.cascade hA, qqx, q.2.1.r1 hA, qqx, show f_X1_ruleAt (A 58 0) x S = some none from ?_, qqx, if_pos rfl]
  unfold f_X1_ruleAt
  by_cases h0 : x < 0
  · rw [if_pos h0]; rfl
  · rw [if_neg h0, q.2.1.I58 hA, c.2.2.2.1.2.1, j.2.1.1.rn, qqx, if_pos (Int32.not_lt.mp (fun z => hx ⟨Int32.not_lt.mp h0, z⟩))]; rfl
theorem kwI_row {K : kS} {k i j a b c : Nat} {v : Int32} (h : ¬ (a = k ∧ b = i ∧ c = j)) : (kwI K k i j v).1 a b c = K.1 a b c := if_neg h
theorem sq_turn {T : qqT} {G : qqG} {L : qqL} {A : kA} {ex : Nat → Nat → Prop} {K : kS} {v nw k : Nat} {S : cS} {σ : mS} (w : JW k T G L A ex K v nw S σ) (a1 a2 : Int32) (ha2 : a2 = 0 ∨ a2 = 1) : sJR [2] lvZ (JP (pf T G σ (P_al T G σ)) (k + 1)) (f_X11_turn 1 a1 a2 S) (f_turn a1 a2 σ) := by
  obtain ⟨⟨hw, hA, hin⟩, h49, -, j⟩ := id w
  obtain ⟨is, rfl⟩ := f2_b ha2
  have q := j.1.1
  have hk := j.2.1.1.k8
  refine at49 (P := fun x => sJR [2] lvZ (JP (pf T G σ (P_al T G σ)) (k + 1)) (f_X11_turn x a1 (b2 is) S) (f_turn a1 (b2 is) σ)) h49 ?_
  unfold f_X11_turn f_turn f_turn_21 f_turn_44 f_turn_59
  rw [q.2.1.r11 hA, qqx, j.2.1.1.1, r_in0 a1 (n := Gk G) (by omega) rfl, qqx]
  rcases ix_cases a1 (n := Gk G) (by omega) with ⟨x, hx, rfl⟩ | hx
  · rw [c_sheetY j hA hx, qqx, if_dt (nI_inn hx (by omega)), r_holds0, qqx, if_pos rfl]
    have j0 := j.scR (scR_sf σ 0)
    obtain ⟨x16, -, -, -, -, s30, -⟩ := j.2.1.2.1.1 x hx
    obtain ⟨-, -, -, -, b0, hb0⟩ := j.2.1.1.2.2.1 x hx
    obtain ⟨S1, e1, h1⟩ := hA.PI (k := 16) (i := x) (t := 8) (j := 4) x16 rfl (by decide) (b2 is)
    have b : kB caI F3 K (kwI K 16 x 4 (b2 is)) := (kB.rf K).I (Or.inr (Or.inl ⟨by decide, by decide⟩))
    have s : sB [30, 34, 35] [50] (sf σ 81 0) (up (sf σ 81 0) 30 x (b2 is)) := (sB.rf _).up (by simp)
    have s' : sB caL [50] (sf σ 81 0) (up (sf σ 81 0) 30 x (b2 is)) := s.wd (fun f hf => by revert f; decide) (fun f hf => hf)
    have kc : KC T G ex (kwI K 16 x 4 (b2 is)) (up (sf σ 81 0) 30 x (b2 is)) := j0.2.1.2.1.cgK (fun _ _ _ => rfl) (fun r hr => ⟨by
      rw [up_s]
      by_cases c : r = x
      · rw [c, kwI_s, if_pos rfl]
      · rw [kwI_row (fun z => c z.2.1), if_neg c]; exact (j0.2.1.2.1.1 r hr).2.2.2.2.2.1, fun j hj => kwI_row (fun z => hj z.2.2)⟩) (fun r hr => ⟨by rw [kwI_k (by decide), up_o (by decide)]; exact (j0.2.1.2.1.2.1 r hr).2.2.2.2.2.1, by rw [kwI_k (by decide), up_o (by decide)]; exact (j0.2.1.2.1.2.1 r hr).2.2.2.2.2.2.1, kwI_k (by decide), kwI_k (by decide)⟩) (fun e => kwI_k (by decide)) ⟨by rw [kwI_k (by decide)]; exact j0.2.1.2.1.2.2.2.1.2.2.1, kwI_k (by decide), kwI_k (by decide)⟩ (fun s => kwI_k (by decide)) s'
    have ca : JCa T G ex (kwI K 16 x 4 (b2 is)) (up (sf σ 81 0) 30 x (b2 is)) := JCa_K j0.2.1 (RC_up j0.2.1.1 s' (fun r hr => by
      rw [up_s]
      by_cases c : r = x
      · rw [if_pos c]; exact ⟨is, rfl⟩
      · rw [if_neg c]; exact (j0.2.1.1.2.2.1 r hr).2.2.2.2)) kc (fun r j _ => kwI_k (by decide)) (fun k r j h => kwI_k (by omega)) (fun j h9 => kwI_k (by decide)) s
    have j1 := j0.ca b s' ca (j0.2.2.2.2.2.2.2.cgC s' (up_o (by decide)) (fun r _ _ => by rw [up_o (by decide)]))
    obtain ⟨S2, σ2, e2, e3, z1, z2⟩ := w.all h1 j1 b s' s
    have q1 := j1.1.1
    rw [rd_30 (by omega), qqx]
    show sJR _ _ _ ((gI S (some (A 16 x)) 8 4).bind (fun v4 => (pZ S (some (A 16 x)) 8 4 (b2 is)).bind _)) _
    rw [hA.I 16 8 x16 rfl, qqx, pZ_b2, e1, qqx, q1.2.1.r11 h1, qqx, e2, qqx, s30, hb0, lrzt_b2]
    have fin : sJR [2] lvZ (JP (pf T G σ (P_al T G σ)) (k + 1)) (some (.inr (b2 b0), S2)) (if b2 is = 0 then (wr (sf σ 81 0) 30 (nI x) 0).bind (fun s1 => (f_markAll s1).bind (fun v2 => rzw (b2 b0) v2)) else (wr (sf σ 81 0) 30 (nI x) 1).bind (fun s1 => (f_markAll s1).bind (fun v2 => rzw (b2 b0) v2))) := by
      rw [wr_30 (by omega), wr_30 (by omega), qqx, qqx, b2_i0]
      cases is with
      | true =>
        rw [if_pos rfl]
        have e3' : f_markAll (up (sf σ 81 0) 30 x 1) = some σ2 := e3
        rw [e3', qqx, rzw_b2]
        exact sJR.r rfl z1 z2
      | false =>
        rw [if_neg (by decide)]
        have e3' : f_markAll (up (sf σ 81 0) 30 x 0) = some σ2 := e3
        rw [e3', qqx, rzw_b2]
        exact sJR.r rfl z1 z2
    have hb0' : (sf σ 81 0).1 30 x = b2 b0 := hb0
    rw [hb0', b2_i1]
    cases b0 with
    | true => rw [if_pos rfl]; exact fin
    | false => rw [if_neg (by decide)]; exact fin
  · rw [c_sheetN j hA hx, qqx, if_df hx, r_holds1, qqx]
    exact sJR.l rfl (w.no 1)
end WDT
