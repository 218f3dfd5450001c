def rwI (a k i j : Nat) : Prop := i = (bkr a).2 ∧ (bkr a).1 ≤ k ∧ k ≤ (bkr a).1 + 4 ∧ (k = (bkr a).1 → j = 6 ∨ j = 7)
section RWS
variable {T : qqT} {G : qqG} {L : qqL} {A : kA} {ex : Nat → Nat → Prop} {K K' : kS} {S S' : cS} {σ σ' : mS} {v v' nw k : Nat}
theorem bkr_inj {a b : Nat} (h1 : (bkr a).1 = (bkr b).1) (h2 : (bkr a).2 = (bkr b).2) : a = b := by
  unfold bkr at h1 h2
  by_cases ca : a < 40
  · by_cases cb : b < 40
    · rw [if_pos ca, if_pos cb] at h2; exact h2
    · rw [if_pos ca, if_neg cb] at h1; exact absurd h1 (show ¬ (11 : Nat) = 1 by decide)
  · by_cases cb : b < 40
    · rw [if_neg ca, if_pos cb] at h1; exact absurd h1 (show ¬ (1 : Nat) = 11 by decide)
    · rw [if_neg ca, if_neg cb] at h2
      have : a - 40 = b - 40 := h2
      omega
def rwS (a : Nat) (σ σ' : mS) : Prop := ∀ f, f ∈ [37, 38, 39, 40, 41, 42] → ∀ b p, p < 16 → b ≠ a → σ'.1 f (16 * b + p) = σ.1 f (16 * b + p)
theorem KDr.row {a b : Nat} (h : KDr K σ b) (r : rwS a σ σ') (hb : b ≠ a) : KDr K σ' b := by
  have e : ∀ f, f ∈ [37, 38, 39, 40, 41, 42] → ∀ p, p < 15 → σ'.1 f (16 * b + p) = σ.1 f (16 * b + p) := fun f hf p hp => r f hf b p (by omega) hb
  refine ⟨h.1, fun p hp => ?_⟩
  have h2 := h.2 p hp
  unfold Ldc Lim at h2 ⊢
  rw [e 37 (by decide) p hp, e 38 (by decide) p hp, e 39 (by decide) p hp, e 40 (by decide) p hp, e 41 (by decide) p hp, e 42 (by decide) p hp]
  exact h2
theorem J0.row (j : J0 T G L ex K σ v) {a : Nat} (ha : VR T G a) (b : kB (rwI a) F3 K K') (s : sB [37, 38, 39, 40, 41, 42] [] σ σ') (r : rwS a σ σ') (kd : KDr K' σ' a) (rd : ∀ p, p < 15 → Ldc σ' p a = true → rOK σ' p a) : J0 T G L ex K' σ' v := by
  have hk := bkr_k a
  have b' : kB caI F3 K K' := b.wd (fun k i j z => by unfold rwI at z; unfold caI; omega) (fun _ _ _ z => z)
  have s' : sB caL [50] σ σ' := s.wd (fun f hf => by revert f; decide) (fun f hf => by cases hf)
  have o : ∀ k i j, ¬ rwI a k i j → K'.1 k i j = K.1 k i j := b.1
  have oR : ∀ k i j, K'.2 k i j = K.2 k i j := fun k i j => b.2 k i j (fun z => z)
  have o2 : ∀ f, f ∈ [30, 34, 35] → σ'.1 f = σ.1 f := fun f hf => s.1 f (by revert f; decide)
  obtain ⟨c1, c2, c3, c4, c5⟩ := id j.2.1
  have kc : KC T G ex K' σ' := c2.cgK oR (fun r hr => ⟨by rw [o _ _ _ (by unfold rwI; omega), o2 30 (by decide)]; exact (c2.1 r hr).2.2.2.2.2.1, fun j hj => o _ _ _ (by unfold rwI; omega)⟩) (fun r hr => ⟨by rw [o _ _ _ (by unfold rwI; omega), o2 34 (by decide)]; exact (c2.2.1 r hr).2.2.2.2.2.1, by rw [o _ _ _ (by unfold rwI; omega), o2 35 (by decide)]; exact (c2.2.1 r hr).2.2.2.2.2.2.1, o _ _ _ (by unfold rwI; omega), o _ _ _ (by unfold rwI; omega)⟩) (fun e => o _ _ _ (by unfold rwI; omega)) ⟨by rw [o _ _ _ (by unfold rwI; omega), s.2 50 (by simp)]; exact c2.2.2.2.1.2.2.1, o _ _ _ (by unfold rwI; omega), o _ _ _ (by unfold rwI; omega)⟩ (fun s => o _ _ _ (by unfold rwI; omega)) s'
  have ca : JCa T G ex K' σ' := by
    refine ⟨RC_up c1 s' (fun k hk => by rw [o2 30 (by decide)]; exact (c1.2.2.1 k hk).2.2.2.2), kc, fun d hd => ?_, fun d hd p hp hl => ?_, c5.cgK (fun s j => o _ _ _ (by unfold rwI; omega)) (fun j hj => o _ _ _ (by unfold rwI; omega)) s'⟩
    · by_cases z : d = a
      · rw [z]; exact kd
      · have hkd := bkr_k d
        have ne : ¬ ((bkr d).1 = (bkr a).1 ∧ (bkr d).2 = (bkr a).2) := fun y => z (bkr_inj y.1 y.2)
        exact ((c3 d hd).row r z).cgK (fun j hj => o _ _ _ (by unfold rwI; omega)) (fun t j h1 h5 => o _ _ _ (by unfold rwI; omega))
    · by_cases z : d = a
      · subst z; exact rd p hp hl
      · have e : ∀ f, f ∈ [37, 38, 39, 40, 41, 42] → σ'.1 f (16 * d + p) = σ.1 f (16 * d + p) := fun f hf => r f hf d p (by omega) z
        have := c4 d hd p hp (by unfold Ldc at hl ⊢; rw [← e 37 (by decide)]; exact hl)
        unfold rOK at this ⊢
        rw [e 37 (by decide), e 38 (by decide), e 40 (by decide), e 41 (by decide), e 42 (by decide)]
        exact this
  refine j.ca b' s' ca ?_
  obtain ⟨⟨d1, d2, d3, d4, d5, d6⟩, d7, d8, d9⟩ := j.2.2.2.2.2.2.2
  refine ⟨⟨d1, d2, d3, d4, by rw [nC_cg (s.1 14 (by decide))]; exact d5, d6⟩, ?_, fun x hx hn p hp => ?_, fun r h1 h2 => by rw [s.1 35 (by decide)]; exact d9 r h1 h2⟩
  · rw [s.1 1 (by decide), s.1 2 (by decide), s.1 3 (by decide), s.1 4 (by decide), s.1 5 (by decide), s.1 43 (by decide), s.1 44 (by decide), s.1 45 (by decide), s.1 47 (by decide), s.1 55 (by decide)]
    exact d7
  · rw [r 37 (by decide) x p (by omega) (fun z => hn (by rw [z]; exact ha))]
    exact d8 x hx hn p hp
end RWS
