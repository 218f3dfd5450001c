/-! MATHS, 64: the width, a sheet turned, a rule's condition -/
section WDT
variable {T : qqT} {G : qqG} {L : qqL} {A : kA} {ex : Nat → Nat → Prop} {K K' : kS} {S S' : cS} {σ σ' : mS} {v v' nw k : Nat}
/-- what changes cascades ends a call -/
theorem JW.all (w : JW k T G L A ex K v nw S σ) {K1 : kS} {S1 : cS} {σ1 : mS} (hA : KA A ex K1 S1) (j : J0 T G L ex K1 σ1 v) (b : kB caI F3 K K1) (s : sB caL [50] (sf σ 81 0) σ1) : ∃ S' σ', f_X11_markAll (A 49 0) S1 = some S' ∧ f_markAll σ1 = some σ' ∧ σ'.2 81 = 0 ∧ ∀ n, S'.2 ≤ n → J (k + 1) (S'.1, n) σ' := by
  obtain ⟨S', K', σ', e1, e2, h1, j1, b1, s1⟩ := all_both w.1.1 hA j
  refine ⟨S', σ', e1, e2, (s1.2 81 (by decide)).trans ((s.2 81 (by decide)).trans rfl), w.to h1 ((w.1.2.2.kp b (fun i j => by unfold caI; omega)).kp b1 (fun i j => by unfold MI; omega)) j1 (by omega) ((s1.2 54 (by decide)).trans ((s.2 54 (by decide)).trans rfl))⟩
theorem simJ_setWidth : sim_setWidth (J k) (J (k + 1)) := by
  intro S σ a1 h
  obtain ⟨T, G, L, A, ex, K, v, nw, w⟩ := h
  obtain ⟨⟨hw, hA, hin⟩, h49, -, j⟩ := id w
  have q := j.1.1
  refine at49 (P := fun x => sJR [0] lvN (J (k + 1)) (f_X11_setWidth x a1 S) (f_setWidth a1 σ)) h49 ?_
  unfold f_X11_setWidth f_setWidth f_X11_setWidth_15 f_setWidth_18
  rw [r_in0 a1 (n := 10000) (by decide) (by decide), qqx]
  show sJR _ _ _ ((f_X11_isBelow a1 (nI 10000)).bind _) _
  rw [c_isBelow, qqx]
  by_cases hx : 0 ≤ a1 ∧ a1 < nI 10000
  · rw [if_dt hx, if_dt hx, c_refA0, qqx, r_holds0, qqx, if_pos rfl]
    have j0 := j.scR (scR_sf σ 0)
    have x58 : ex 58 0 := q.2.1.x (by decide) (by decide) (by decide)
    obtain ⟨S1, e1, h1⟩ := hA.PI (k := 58) (i := 0) (t := 1) (j := 8) x58 rfl (by decide) a1
    have b : kB caI F3 K (kwI K 58 0 8 a1) := (kB.rf K).I (Or.inr (Or.inr ⟨rfl, rfl⟩))
    have s : sB [30, 34, 35] [50] (sf σ 81 0) (sf (sf σ 81 0) 50 a1) := ⟨fun _ _ => rfl, fun f hf => sf_o (fun z => hf (by rw [z]; decide))⟩
    have s' : sB caL [50] (sf σ 81 0) (sf (sf σ 81 0) 50 a1) := s.wd (fun f hf => by revert f; decide) (fun f hf => hf)
    have kc : KC T G ex (kwI K 58 0 8 a1) (sf (sf σ 81 0) 50 a1) := j0.2.1.2.1.cgK (fun _ _ _ => rfl) (fun r hr => ⟨by rw [kwI_k (by decide)]; exact (j0.2.1.2.1.1 r hr).2.2.2.2.2.1, fun j _ => kwI_k (by decide)⟩) (fun r hr => ⟨by rw [kwI_k (by decide)]; exact (j0.2.1.2.1.2.1 r hr).2.2.2.2.2.1, by rw [kwI_k (by decide)]; exact (j0.2.1.2.1.2.1 r hr).2.2.2.2.2.2.1, kwI_k (by decide), kwI_k (by decide)⟩) (fun e => kwI_k (by decide)) ⟨by rw [kwI_s, sf_s], kwI_j (by decide), kwI_j (by decide)⟩ (fun s => kwI_k (by decide)) s'
    have ca : JCa T G ex (kwI K 58 0 8 a1) (sf (sf σ 81 0) 50 a1) := JCa_K j0.2.1 (RC_up j0.2.1.1 s' (fun k hk => (j0.2.1.1.2.2.1 k hk).2.2.2.2)) kc (fun r j _ => kwI_k (by decide)) (fun k r j h => kwI_k (by omega)) (fun j h9 => kwI_j (by omega)) s
    have j1 := j0.ca b s' ca (j0.2.2.2.2.2.2.2.cgC s' rfl (fun _ _ _ => rfl))
    obtain ⟨S2, σ2, e2, e3, z1, z2⟩ := w.all h1 j1 b s'
    have q1 := j1.1.1
    rw [e3, qqx]
    show sJR _ _ _ ((gR S (some (A 49 0)) 11 2).bind (fun v3 => (gI S v3 1 8).bind (fun v4 => (gR S (some (A 49 0)) 11 2).bind (fun v5 => (pI S v5 1 8 a1).bind _)))) _
    rw [q.2.1.cascade hA, qqx, hA.I 58 1 x58 rfl, qqx, qqx, e1, qqx, q1.2.1.r11 h1, qqx, e2, qqx, j.2.1.2.1.2.2.2.1.2.2.1]
    exact sJR.r rfl z1 z2
  · rw [if_df hx, if_df hx, c_refA1, qqx, r_holds1, qqx]
    exact sJR.l rfl (w.no 1)
end WDT
