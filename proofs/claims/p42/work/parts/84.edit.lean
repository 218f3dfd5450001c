section EDT
variable {T : qqT} {G : qqG} {L : qqL} {A : kA} {ex : Nat → Nat → Prop} {K K' : kS} {S : cS} {σ σ' : mS} {v : Nat}
theorem JFr.cgU (d : JFr T G L ex σ) (k : ∀ f, f ∈ [14, 35, 37] → σ'.1 f = σ.1 f) (hf : ∀ e, Tn T ≤ e → ∀ f, f ∈ [1, 2, 3, 4, 5] → σ'.1 f e = σ.1 f e) (hr : ∀ e, Tn T ≤ e → e < 30 → rY e σ σ') : JFr T G L ex σ' := by
  obtain ⟨⟨d1, d2, d3, d4, d5, d6⟩, d7, d8, d9⟩ := d
  refine ⟨⟨d1, d2, d3, d4, by rw [nC_cg (k 14 (by decide))]; exact d5, d6⟩, fun e he h30 => ?_, by rw [k 37 (by decide)]; exact d8, by rw [k 35 (by decide)]; exact d9⟩
  obtain ⟨r1, r2, r3, r4, r5⟩ := hr e he h30
  obtain ⟨f1, f2, f3, f4, f5, f6, f7, f8, f9⟩ := d7 e he h30
  rw [hf e he 1 (by decide), hf e he 2 (by decide), hf e he 3 (by decide), hf e he 4 (by decide), hf e he 5 (by decide)]
  exact ⟨f1, f2, f3, f4, f5, f6, fun p hp => by rw [r1 p hp]; exact f7 p hp, fun v hv => by rw [(r2 v hv).1, (r2 v hv).2]; exact f8 v hv, fun p hp => by rw [(r4 p hp).1, (r4 p hp).2.1]; exact f9 p hp⟩
theorem KMt.up {PI PR : Nat → Nat → Nat → Prop} (m : KMt T G ex K σ v) (b : kB PI PR K K') (h1 : ∀ k i j, PI k i j → (k ≤ 16 ∨ 34 ≤ k) ∧ ¬ (k = 52 ∧ j = 2) ∧ k ≠ 55 ∧ k ≠ 56 ∧ k ≠ 57) (h2 : ∀ k i j, PR k i j → (k ≤ 16 ∨ 34 ≤ k) ∧ k ≠ 53) (hv : v + 1 < 2 ^ 31) (hK : K'.1 50 0 3 = nI (v + 1)) {T' : qqT} (hT : Tn T ≤ Tn T') (h30 : Tn T' ≤ 30) (k : ∀ f, f ∈ [14, 15, 16, 17, 18, 19, 21, 22] → σ'.1 f = σ.1 f) : KMt T' G ex K' σ' (v + 1) := by
  obtain ⟨m1, m2, m3, m4, ⟨m5, m6⟩, m7, m8⟩ := m
  have n17 : ∀ k i j, 17 ≤ k → k ≤ 33 → ¬ PI k i j := fun k i j a b z => by have := (h1 k i j z).1; omega
  have e57 : ∀ t, K'.1 57 0 t = K.1 57 0 t := fun t => b.1 _ _ _ (fun z => (h1 _ _ _ z).2.2.2.2 rfl)
  have e56 : ∀ t, K'.1 56 0 t = K.1 56 0 t := fun t => b.1 _ _ _ (fun z => (h1 _ _ _ z).2.2.2.1 rfl)
  refine ⟨fun s hs => ?_, fun s hs => ?_, ?_, m4, ⟨hK, fun t ht => ?_⟩, fun t ht s hs hb => ?_, fun h hh hv' s hs hb => ?_⟩
  · obtain ⟨a1, a2, a3, a4⟩ := m1 s hs
    exact ⟨(a1.keep a4.n.2.1 b (fun k j h1 h2 => n17 k s j h1 h2) (fun k j h3 h4 z => by have := (h2 k s j z).1; omega)).cg k, by rw [b.1 _ _ _ (n17 17 s 3 (by decide) (by decide))]; exact a2, by rw [b.2 _ _ _ (fun z => (h2 _ _ _ z).2 rfl)]; exact a3, a4.cg k⟩
  · obtain ⟨a1, a2, a3⟩ := (m2.keep b m4 (fun s hs => n17 17 s 9 (by decide) (by decide))) s hs
    refine ⟨a1, a2, fun a ha => a3 a ?_⟩
    rw [qIn_cg (σ := σ) (fun f hf => k f (by revert f; decide))] at ha
    exact ha
  · rw [b.1 _ _ _ (fun z => (h1 _ _ _ z).2.1 ⟨rfl, rfl⟩)]; exact m3
  · rw [e57]
    obtain ⟨w, hw, he⟩ := m6 t ht
    exact ⟨w, by omega, he⟩
  · rw [e56] at hb
    obtain ⟨p1, p2⟩ := m7 t ht s hs hb
    exact ⟨p1, p2.elim Or.inl (fun z => Or.inr (by omega))⟩
  · exfalso
    have ht : kTr h < 31 := by
      cases h with
      | none => decide
      | some q => have := hh q rfl; show q < 31; omega
    obtain ⟨w, hw, he⟩ := m6 _ ht
    rw [e57, he, hK, nI_eqE (by omega) (by omega)] at hv'
    omega
theorem J0.feat (hw : Tw T) (j : J0 T G L ex K σ v) {e : Nat} (he : e < Tn T) {f jj : Nat} (hfj : (f = 1 ∧ jj = 2) ∨ (f = 2 ∧ jj = 3) ∨ (f = 3 ∧ jj = 4) ∨ (f = 5 ∧ jj = 6)) (val : Int32) (hv : v + 1 < 2 ^ 31) : J0 T G L ex (kwI (kwI K 0 e jj val) 50 0 3 (nI (v + 1))) (up σ f e val) (v + 1) := by
  have h30 := hw.n30
  obtain ⟨⟨⟨q1, q2, q3, q4⟩, t2, t3, t4⟩, c, n, va, mk, ⟨m, s26⟩, d, fr⟩ := j
  have b : kB (fun k i j => (k = 0 ∧ i = e ∧ j = jj) ∨ (k = 50 ∧ i = 0 ∧ j = 3)) F3 K (kwI (kwI K 0 e jj val) 50 0 3 (nI (v + 1))) := ((kB.rf K).I (Or.inl ⟨rfl, rfl, rfl⟩)).I (Or.inr ⟨rfl, rfl, rfl⟩)
  have o : ∀ g, g ≠ f → (up σ f e val).1 g = σ.1 g := fun g hg => up_o hg
  have of : ∀ g, g ∉ [1, 2, 3, 5] → (up σ f e val).1 g = σ.1 g := fun g hg => o g (fun z => hg (by rw [z]; rcases hfj with z | z | z | z <;> rw [z.1] <;> decide))
  refine ⟨⟨⟨q1.keep b (fun i => by omega) (fun i => ⟨fun _ _ _ z => z, fun z => z, fun z => z, fun z => z, fun z => z, fun z => z, fun _ z => z⟩), q2.keep b (fun _ _ _ z => z.elim), q3.keep b (fun i => by omega) (fun i => ⟨fun z => z, fun z => z, fun z => z⟩), q4.keep b (fun _ z => z)⟩, t2.keep b (fun _ _ _ z => z), fun y hy => ?_, ?_⟩, (c.kp b (fun k i j z => by unfold dCI; omega) (fun _ _ _ z => z.elim)).cg (fun g hg => of g (by revert g; decide)) (fun _ _ => rfl), (n.kp b (fun k i j z => by unfold dNI; omega) (fun _ _ _ z => z.elim)).cg (fun g hg => of g (by revert g; decide)) (fun _ _ => rfl), (va.kp b (fun k i j z => by omega)).cg (fun g hg => of g (by revert g; decide)) rfl, (mk.kp b (fun k i j z => by omega)).cg (fun _ _ => rfl), ⟨m.up b (fun k i j z => by omega) (fun _ _ _ z => z.elim) hv (kwI_s _ _ _ _ _) (Nat.le_refl _) h30 (fun g hg => of g (by revert g; decide)), s26⟩, (d.kp b (fun k i j z => by omega) (fun _ _ _ z => z.elim)).cg (fun g hg => of g (by revert g; decide)), fr.cgU (fun g hg => of g (by revert g; decide)) (fun y hy g hg => ?_) (fun y hy h3 => rY.of (fun g hg => of g (by revert g; decide)))⟩
  · obtain ⟨e1, e2, e3, e4, e5, e6⟩ := t3 y hy
    have r : ∀ i, (kwI (kwI K 0 e jj val) 50 0 3 (nI (v + 1))).1 0 y i = if y = e ∧ i = jj then val else K.1 0 y i := fun i => by
      rw [kwI_k (by decide), kwI_1]
      by_cases z : y = e ∧ i = jj
      · rw [if_pos z, if_pos ⟨rfl, z.1, z.2⟩]
      · rw [if_neg z, if_neg (fun w => z w.2)]
    have s : ∀ g, (up σ f e val).1 g y = if g = f ∧ y = e then val else σ.1 g y := fun g => by
      by_cases z : g = f
      · subst z
        rw [up_s]
        by_cases w : y = e
        · rw [if_pos w, if_pos ⟨rfl, w⟩]
        · rw [if_neg w, if_neg (fun x => w x.2)]
      · rw [o g z, if_neg (fun x => z x.1)]
    rw [r, r, r, r, r, r, s, s, s, s, s, s]
    by_cases w : y = e
    · rcases hfj with ⟨rfl, rfl⟩ | ⟨rfl, rfl⟩ | ⟨rfl, rfl⟩ | ⟨rfl, rfl⟩ <;> simp [w] <;> (rw [w] at e1 e2 e3 e4 e5 e6; simp [e1, e2, e3, e4, e5, e6])
    · simp [w, e1, e2, e3, e4, e5, e6]
  · exact t4.cg (fun g hg => of g (by revert g; decide)) rfl
  · by_cases z : g = f
    · subst z; rw [up_s, if_neg (by omega)]
    · rw [o g z]
theorem J0.mark (hw : Tw T) {P : Nat → Bool} (j : J0 T G L ex K σ v) (c : CMk T P K K') (r : RMk T P σ σ') : J0 T G L ex K' σ' v := by
  obtain ⟨t, ca, n, va, mk, ⟨m, s26⟩, d, fr⟩ := j
  have b := c.kB
  have rm := r.mk mk.1
  obtain ⟨x, rfl, hx⟩ := r
  obtain ⟨y, rfl, hy⟩ := c
  have o1 : ∀ f, (sf σ 49 x).1 f = σ.1 f := fun _ => rfl
  refine ⟨(t.kp b (fun k i j z => by unfold MI at z; unfold dTI; omega) (fun _ _ _ z => z.elim)).cg (fun _ _ => rfl) (sf_o (by decide)), (ca.kp b (fun k i j z => by unfold MI at z; unfold dCI; omega) (fun _ _ _ z => z.elim)).cg (fun _ _ => rfl) (fun g hg => sf_o (by revert g; decide)), (n.kp b (fun k i j z => by unfold MI at z; unfold dNI; omega) (fun _ _ _ z => z.elim)).cg (fun _ _ => rfl) (fun g hg => sf_o (by revert g; decide)), (va.kp b (fun k i j z => by unfold MI at z; omega)).cg (fun _ _ => rfl) (sf_o (by decide)), ⟨rm, fun e he hd => ?_, ?_, ?_, ?_⟩, ⟨(m.keep b (fun k i j z => by unfold MI at z; omega) (fun _ _ _ z => z.elim)).cg (fun _ _ => rfl), by rw [sf_o (by decide)]; exact s26⟩, (d.kp b (fun k i j z => by unfold MI at z; omega) (fun _ _ _ z => z.elim)).cg (fun _ _ => rfl), fr.cg (fun _ _ => rfl) (fun e _ _ => rY.of (fun _ _ => rfl))⟩
  · have h32 : e < 32 := by have := hw.n30; omega
    rw [kwI_s, sf_s, hy e h32, hx e h32, mk.2.1 e he hd]
  · rw [kwI_j (by decide), sf_o (by decide)]; exact mk.2.2.1
  · rw [kwI_j (by decide), sf_o (by decide)]; exact mk.2.2.2.1
  · rw [kwI_j (by decide), sf_o (by decide)]; exact mk.2.2.2.2
def scL : List Nat := [69, 73, 74, 75, 77, 78, 80, 82, 83, 84, 85]
def scN : List Nat := [71, 72, 76, 79, 81]
theorem J0.scR (j : J0 T G L ex K σ v) (b : sB scL scN σ σ') : J0 T G L ex K σ' v := by
  obtain ⟨t, ca, n, va, mk, ⟨m, s26⟩, d, fr⟩ := j
  have o1 : ∀ f, f ∉ scL → σ'.1 f = σ.1 f := b.1
  have o2 : ∀ f, f ∉ scN → σ'.2 f = σ.2 f := b.2
  exact ⟨t.cg (fun f hf => o1 f (by revert f; decide)) (o2 13 (by decide)), ca.cg (fun f hf => o1 f (by revert f; decide)) (fun f hf => o2 f (by revert f; decide)), n.cg (fun f hf => o1 f (by revert f; decide)) (fun f hf => o2 f (by revert f; decide)), va.cg (fun f hf => o1 f (by revert f; decide)) (o2 48 (by decide)), mk.cg (fun f hf => o2 f (by revert f; decide)), ⟨m.cg (fun f hf => o1 f (by revert f; decide)), by rw [o2 26 (by decide)]; exact s26⟩, d.cg (fun f hf => o1 f (by revert f; decide)), fr.cg (fun f hf => o1 f (by revert f; decide)) (fun e _ _ => rY.of (fun f hf => o1 f (by revert f; decide)))⟩
end EDT
