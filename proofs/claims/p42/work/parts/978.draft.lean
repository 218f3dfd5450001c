def dfP (n k i _j : Nat) : Prop := 17 ≤ k ∧ k ≤ 33 ∧ n ≤ i
section DFT
variable {T : qqT} {G : qqG} {L : qqL} {A A' : kA} {ex ex' : Nat → Nat → Prop} {K K' : kS} {S S' : cS} {σ σ' : mS} {v v' n : Nat} {PI PR : Nat → Nat → Nat → Prop}
theorem JCa.df (t : JCa T G ex K σ) (mono : ∀ a b, ex a b → ex' a b) (b : kB PI PR K K') (h1 : ∀ k i j, PI k i j → ¬ dCI k i j ∨ (k = 17 ∧ Gs G ≤ i)) (h2 : ∀ k i j, PR k i j → ¬ dCR k i j) (e1 : ∀ f, f ∈ [27, 28, 29, 30, 32, 33, 34, 35, 37, 38, 39, 40, 41, 42] → σ'.1 f = σ.1 f) (e2 : ∀ s, s < Gs G → σ'.1 20 s = σ.1 20 s ∧ σ'.1 23 s = σ.1 23 s ∧ σ'.1 24 s = σ.1 24 s ∧ σ'.1 25 s = σ.1 25 s) (g2 : ∀ f, f ∈ [31, 36, 50] → σ'.2 f = σ.2 f) : JCa T G ex' K' σ' := by
  obtain ⟨c1, c2, c3, c4, c5⟩ := t
  have hr' := c1
  have eI : ∀ k i j, dCI k i j → ¬ (k = 17 ∧ Gs G ≤ i) → K'.1 k i j = K.1 k i j := fun k i j d n => b.1 k i j (fun z => (h1 k i j z).elim (fun y => y d) n)
  have eR : ∀ k i j, dCR k i j → K'.2 k i j = K.2 k i j := fun k i j d => b.2 k i j (fun z => h2 k i j z d)
  have gse : ∀ r, r < Gr G → Gse G r < Gs G := fun r hr => (c1.e hr).2
  refine ⟨c1.cg (fun f hf => e1 f (by revert f; decide)) (fun f hf => g2 f (by revert f; decide)), ?_, fun a ha => ?_, c4.cg (fun f hf => e1 f (by revert f; decide)), ?_⟩
  · obtain ⟨b1, b2', b3, b4, b5⟩ := c2
    refine ⟨fun k hk => ?_, fun r hr => ?_, fun e he => ?_, ?_, fun s hs => ?_⟩
    · rw [eI 16 k 0 (by unfold dCI; omega) (by omega), eI 16 k 1 (by unfold dCI; omega) (by omega), eR 16 k 2 (by unfold dCR; omega), eI 16 k 3 (by unfold dCI; omega) (by omega), eI 16 k 4 (by unfold dCI; omega) (by omega), eR 59 0 k (by unfold dCR; omega), e1 27 (by decide), e1 29 (by decide), e1 30 (by decide)]
      exact ⟨mono _ _ (b1 k hk).1, (b1 k hk).2⟩
    · rw [eI 11 r 0 (by unfold dCI; omega) (by omega), eR 11 r 1 (by unfold dCR; omega), eR 11 r 2 (by unfold dCR; omega), eI 11 r 3 (by unfold dCI; omega) (by omega), eI 11 r 4 (by unfold dCI; omega) (by omega), eI 11 r 5 (by unfold dCI; omega) (by omega), eR 11 r 8 (by unfold dCR; omega), eR 11 r 9 (by unfold dCR; omega), eR 11 r 10 (by unfold dCR; omega), eR 11 r 11 (by unfold dCR; omega), eR 11 r 14 (by unfold dCR; omega), eR 60 0 r (by unfold dCR; omega), e1 27 (by decide), e1 34 (by decide), e1 35 (by decide)]
      exact ⟨fun k a1 a2 => mono _ _ ((b2' r hr).1 k a1 a2), (b2' r hr).2⟩
    · rw [eR 1 e 1 (by unfold dCR; omega), eR 1 e 2 (by unfold dCR; omega), eI 1 e 3 (by unfold dCI; omega) (by omega), eR 1 e 8 (by unfold dCR; omega), eR 1 e 9 (by unfold dCR; omega), eR 1 e 10 (by unfold dCR; omega), eR 1 e 11 (by unfold dCR; omega)]
      exact b3 e he
    · rw [eI 58 0 4 (by unfold dCI; omega) (by omega), eI 58 0 5 (by unfold dCI; omega) (by omega), eI 58 0 8 (by unfold dCI; omega) (by omega), eR 58 0 6 (by unfold dCR; omega), eR 58 0 7 (by unfold dCR; omega), g2 31 (by decide), g2 36 (by decide), g2 50 (by decide)]
      exact b4
    · rw [eI 17 s 6 (by unfold dCI; omega) (by omega), (e2 s hs).1]
      exact ⟨mono _ _ (b5 s hs).1, (b5 s hs).2⟩
  · have hk := bkr_k a
    exact ((c3 a ha).cg (fun f hf => e1 f (by revert f; decide))).cgK (fun j hj => eI _ _ _ (by unfold dCI; omega) (by omega)) (fun t j a1 a5 => eI _ _ _ (by unfold dCI; omega) (by omega))
  · obtain ⟨f1, f2, f3, f4⟩ := c5
    have o23 : orF (fun r => σ'.1 23 (Gse G r)) (Gr G) = orF (fun r => σ.1 23 (Gse G r)) (Gr G) := orF_cg (fun r hr => (e2 _ (gse r hr)).2.1)
    have o24 : orF (fun r => σ'.1 24 (Gse G r)) (Gr G) = orF (fun r => σ.1 24 (Gse G r)) (Gr G) := orF_cg (fun r hr => (e2 _ (gse r hr)).2.2.1)
    have o25 : gAl G σ' = gAl G σ := orF_cg (fun r hr => (e2 _ (gse r hr)).2.2.2)
    refine ⟨fun s hs => ?_, ?_, ?_, ?_⟩
    · rw [eI 17 s 10 (by unfold dCI; omega) (by omega), eI 17 s 11 (by unfold dCI; omega) (by omega), eI 17 s 12 (by unfold dCI; omega) (by omega), eI 17 s 7 (by unfold dCI; omega) (by omega), eI 17 s 8 (by unfold dCI; omega) (by omega), (e2 s hs).2.1, (e2 s hs).2.2.1, (e2 s hs).2.2.2]
      exact f1 s hs
    · rw [eI 58 0 9 (by unfold dCI; omega) (by omega), eI 58 0 10 (by unfold dCI; omega) (by omega), o23, o24]; exact f2
    · rw [eI 58 0 11 (by unfold dCI; omega) (by omega), o25]; exact f3
    · rw [eI 58 0 12 (by unfold dCI; omega) (by omega), o25]; exact f4
theorem J0.df (j : J0 T G L ex K σ v) (mono : ∀ a b, ex a b → ex' a b) (b : kB (dfP (Gs G)) (dfP (Gs G)) K K') (sb : sB [14, 15, 16, 17, 18, 19, 21, 22] [] σ σ') (ag : sAg (Gs G) σ σ') (d : JDf G ex' K' σ') (fr : JFr T G L ex' σ') : J0 T G L ex' K' σ' v := by
  obtain ⟨t, ca, an, va, mk, ⟨m, s26⟩, -, -⟩ := j
  refine ⟨JTr_ex mono ((t.kp b (fun k i j z => by unfold dfP at z; unfold dTI; omega) (fun k i j z => by unfold dfP at z; unfold dTR; omega)).cg (fun f hf => sb.1 f (by revert f; decide)) (sb.2 13 (by decide))), ca.df mono b (fun k i j z => ?_) (fun k i j z => by unfold dfP at z; unfold dCR; omega) (fun f hf => sb.1 f (by revert f; decide)) (fun s hs => by rw [sb.1 20 (by decide), sb.1 23 (by decide), sb.1 24 (by decide), sb.1 25 (by decide)]; exact ⟨rfl, rfl, rfl, rfl⟩) (fun f hf => sb.2 f (by simp)), JAn_ex mono ((an.kp b (fun k i j z => by unfold dfP at z; unfold dNI; omega) (fun k i j z => by unfold dfP at z; unfold dNR; omega)).cg (fun f hf => sb.1 f (by revert f; decide)) (fun f hf => sb.2 f (by simp))), (va.kp b (fun k i j z => by unfold dfP at z; omega)).cg (fun f hf => sb.1 f (by revert f; decide)) (sb.2 48 (by simp)), (mk.kp b (fun k i j z => by unfold dfP at z; omega)).cg (fun f hf => sb.2 f (by simp)), ⟨m.ag mono b (fun k i j z => by unfold dfP at z; omega) (fun k i j z => by unfold dfP at z; omega) ag, by rw [sb.2 26 (by simp)]; exact s26⟩, d, fr⟩
  by_cases c : k = 17
  · exact Or.inr ⟨c, z.2.2⟩
  · exact Or.inl (by unfold dfP at z; unfold dCI; omega)
end DFT
