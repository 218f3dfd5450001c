def caI (k _i j : Nat) : Prop := (1 ≤ k ∧ k ≤ 5 ∧ (k = 1 → j ≠ 12)) ∨ (11 ≤ k ∧ k ≤ 16) ∨ (k = 58 ∧ j = 8)
def caL : List Nat := [30, 34, 35, 37, 38, 39, 40, 41, 42]
section CAS
variable {T : qqT} {G : qqG} {L : qqL} {A : kA} {ex : Nat → Nat → Prop} {K K' : kS} {S S' : cS} {σ σ' : mS} {v v' nw k : Nat}
theorem J0.ca (j : J0 T G L ex K σ v) (b : kB caI F3 K K') (s : sB caL [50] σ σ') (ca : JCa T G ex K' σ') (fr : JFr T G L ex σ') : J0 T G L ex K' σ' v := by
  obtain ⟨t, -, n, va, mk, ⟨m, s26⟩, d, -⟩ := j
  exact ⟨(t.kp b (fun k i j z => by unfold caI at z; unfold dTI; omega) (fun _ _ _ z => z.elim)).cg (fun f hf => s.1 f (by revert f; decide)) (s.2 13 (by decide)), ca, (n.kp b (fun k i j z => by unfold caI at z; unfold dNI; omega) (fun _ _ _ z => z.elim)).cg (fun f hf => s.1 f (by revert f; decide)) (fun f hf => s.2 f (by revert f; decide)), (va.kp b (fun k i j z => by unfold caI at z; omega)).cg (fun f hf => s.1 f (by revert f; decide)) (s.2 48 (by decide)), (mk.kp b (fun k i j z => by unfold caI at z; omega)).cg (fun f hf => s.2 f (by revert f; decide)), ⟨(m.keep b (fun k i j z => by unfold caI at z; omega) (fun _ _ _ z => z.elim)).cg (fun f hf => s.1 f (by revert f; decide)), by rw [s.2 26 (by decide)]; exact s26⟩, (d.kp b (fun k i j z => by unfold caI at z; omega) (fun _ _ _ z => z.elim)).cg (fun f hf => s.1 f (by revert f; decide)), fr⟩
theorem all_both (hw : Tw T) (hA : KA A ex K S) (j : J0 T G L ex K σ v) : ∃ S' K' σ', f_X11_markAll (A 49 0) S = some S' ∧ f_markAll σ = some σ' ∧ KA A ex K' S' ∧ J0 T G L ex K' σ' v ∧ kB MI F3 K K' ∧ sB [] [49] σ σ' := by
  obtain ⟨S', K', e1, h1, c1⟩ := c_markAll hw hA j.1.1
  obtain ⟨σ', e2, r2⟩ := r_markAll hw j.1.2.2.2 j.2.2.2.2.1.1
  exact ⟨S', K', σ', e1, e2, h1, j.mark hw c1 r2, c1.kB, r2.sB.wd (by simp) (by simp)⟩
theorem KC.cgK (c : KC T G ex K σ) (eR : ∀ k i j, K'.2 k i j = K.2 k i j) (e16 : ∀ k, k < Gk G → K'.1 16 k 4 = σ'.1 30 k ∧ ∀ j, j ≠ 4 → K'.1 16 k j = K.1 16 k j) (e11 : ∀ r, r < Gr G → K'.1 11 r 4 = σ'.1 34 r ∧ K'.1 11 r 5 = σ'.1 35 r ∧ K'.1 11 r 0 = K.1 11 r 0 ∧ K'.1 11 r 3 = K.1 11 r 3) (e1 : ∀ e, K'.1 1 e 3 = K.1 1 e 3) (e58 : K'.1 58 0 8 = σ'.2 50 ∧ K'.1 58 0 4 = K.1 58 0 4 ∧ K'.1 58 0 5 = K.1 58 0 5) (e17 : ∀ s, K'.1 17 s 6 = K.1 17 s 6) (s : sB caL [50] σ σ') : KC T G ex K' σ' := by
  obtain ⟨c1, c2, c3, c4, c5⟩ := c
  refine ⟨fun k hk => ?_, fun r hr => ?_, fun e he => ?_, ?_, fun s1 hs => ?_⟩
  · obtain ⟨x, y⟩ := e16 k hk
    rw [x, y 0 (by decide), y 1 (by decide), y 3 (by decide), eR, eR, s.1 27 (by decide), s.1 29 (by decide)]
    obtain ⟨a1, a2, a3, a4, a5, a6, a7⟩ := c1 k hk
    exact ⟨a1, a2, a3, a4, a5, rfl, a7⟩
  · obtain ⟨x, y, z, w⟩ := e11 r hr
    rw [x, y, z, w, eR, eR, eR, eR, eR, eR, eR, eR, s.1 27 (by decide)]
    obtain ⟨a1, a2, a3, a4, a5, a6, a7, a8⟩ := c2 r hr
    exact ⟨a1, a2, a3, a4, a5, rfl, rfl, a8⟩
  · rw [e1, eR, eR, eR, eR, eR, eR]
    exact c3 e he
  · rw [e58.1, e58.2.1, e58.2.2, eR, eR, s.2 31 (by decide), s.2 36 (by decide)]
    exact ⟨c4.1, c4.2.1, rfl, c4.2.2.2⟩
  · rw [e17, s.1 20 (by decide)]
    exact c5 s1 hs
theorem RC_up (h : RC T G σ) (s : sB caL [50] σ σ') (h30 : ∀ k, k < Gk G → ∃ b, σ'.1 30 k = b2 b) : RC T G σ' := by
  obtain ⟨a1, a2, a3, a4⟩ := h
  refine ⟨(s.2 31 (by decide)).trans a1, a2, fun k hk => ?_, ?_⟩
  · rw [s.1 28 (by decide), s.1 27 (by decide), s.1 29 (by decide)]
    obtain ⟨b1, b2', b3, b4, b5⟩ := a3 k hk
    exact ⟨b1, b2', b3, b4, h30 k hk⟩
  · rw [s.1 32 (by decide), s.1 33 (by decide), s.2 36 (by decide)]
    exact a4
theorem KFt.cgK (f : KFt G K σ) (h17 : ∀ s j, K'.1 17 s j = K.1 17 s j) (h58 : ∀ j, 9 ≤ j → K'.1 58 0 j = K.1 58 0 j) (s : sB caL [50] σ σ') : KFt G K' σ' := by
  have f' : KFt G K σ' := f.cg (fun f hf => s.1 f (by revert f; decide))
  obtain ⟨f1, f2, f3, f4⟩ := f'
  refine ⟨fun s hs => ?_, ?_, ?_, ?_⟩
  · rw [h17, h17, h17, h17, h17]; exact f1 s hs
  · rw [h58 9 (by decide), h58 10 (by decide)]; exact f2
  · rw [h58 11 (by decide)]; exact f3
  · rw [h58 12 (by decide)]; exact f4
theorem KDr.cgK {a : Nat} (c : KDr K σ a) (h0 : ∀ j, j = 6 ∨ j = 7 → K'.1 (bkr a).1 (bkr a).2 j = K.1 (bkr a).1 (bkr a).2 j) (h : ∀ t j, 1 ≤ t → t < 5 → K'.1 ((bkr a).1 + t) (bkr a).2 j = K.1 ((bkr a).1 + t) (bkr a).2 j) : KDr K' σ a := by
  unfold KDr at c ⊢
  rw [h0 6 (Or.inl rfl), h0 7 (Or.inr rfl)]
  refine ⟨c.1, fun p hp => ?_⟩
  rw [h 1 p (by decide) (by decide), h 2 p (by decide) (by decide), h 3 p (by decide) (by decide), h 4 p (by decide) (by decide)]
  exact c.2 p hp
theorem JFr.cgC (d : JFr T G L ex σ) (s : sB caL [50] σ σ') (h37 : σ'.1 37 = σ.1 37) (h35 : ∀ r, Gr G ≤ r → r < 40 → σ'.1 35 r = σ.1 35 r) : JFr T G L ex σ' := by
  obtain ⟨⟨d1, d2, d3, d4, d5, d6⟩, d7, d8, d9⟩ := d
  refine ⟨⟨d1, d2, d3, d4, by rw [nC_cg (s.1 14 (by decide))]; exact d5, d6⟩, ?_, by rw [h37]; exact d8, fun r h1 h2 => by rw [h35 r h1 h2]; exact d9 r h1 h2⟩
  rw [s.1 1 (by decide), s.1 2 (by decide), s.1 3 (by decide), s.1 4 (by decide), s.1 5 (by decide), s.1 43 (by decide), s.1 44 (by decide), s.1 45 (by decide), s.1 47 (by decide), s.1 55 (by decide)]
  exact d7
theorem JCa_K (t : JCa T G ex K σ) (hr : RC T G σ') (kc : KC T G ex K' σ') (h0 : ∀ r j, j = 6 ∨ j = 7 → K'.1 11 r j = K.1 11 r j) (h : ∀ k r j, (1 ≤ k ∧ k ≤ 5) ∨ (12 ≤ k ∧ k ≤ 15) ∨ k = 17 → K'.1 k r j = K.1 k r j) (h58 : ∀ j, 9 ≤ j → K'.1 58 0 j = K.1 58 0 j) (s : sB [30, 34, 35] [50] σ σ') : JCa T G ex K' σ' := by
  obtain ⟨-, -, kd, rd, kf⟩ := t
  have s' : sB caL [50] σ σ' := s.wd (fun f hf => by revert f; decide) (fun f hf => hf)
  refine ⟨hr, kc, fun a ha => ?_, ?_, kf.cgK (fun s j => h 17 s j (by omega)) h58 s'⟩
  · have := (kd a ha).cg (σ' := σ') (fun f hf => s.1 f (by revert f; decide))
    have hk := bkr_k a
    exact this.cgK (fun j hj => by
      rcases hk with e | e
      · rw [e]; exact h 1 _ _ (by omega)
      · rw [e]; exact h0 _ _ hj) (fun t j h1 h5 => h _ _ _ (by omega))
  · intro a ha p hp hl
    have e : ∀ f, f ∈ [37, 38, 39, 40, 41, 42] → σ'.1 f = σ.1 f := fun f hf => s.1 f (by revert f; decide)
    have e0 : Ldc σ' p a = Ldc σ p a := by unfold Ldc; rw [e 37 (by decide)]
    have := rd a ha p hp (by rw [← e0]; exact hl)
    unfold rOK at this ⊢
    rw [e 37 (by decide), e 38 (by decide), e 40 (by decide), e 41 (by decide), e 42 (by decide)]
    exact this
end CAS
