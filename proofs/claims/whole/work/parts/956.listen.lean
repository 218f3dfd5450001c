/-! MATHS, 72: a listener is made -/
section LSN
variable {T : qqT} {G : qqG} {L : qqL} {A : kA} {ex : Nat → Nat → Prop} {K K' : kS} {S S' : cS} {σ σ' : mS} {v v' nw k : Nat}
def lsP (n k i j : Nat) : Prop := (k = 38 ∧ i = n) ∨ (k = 49 ∧ i = 0 ∧ j = 5)
def lsR (n k i j : Nat) : Prop := (k = 38 ∧ i = n) ∨ (k = 63 ∧ i = 0 ∧ j = n)
theorem J0.ls (j : J0 T G L ex K σ v) {n e p q c : Nat} (hn : n = L.1) (hn6 : n < 6) (he : e < Tn T) (hp : p < 15) (hq : q < Tn T) (hc : c < 8) {ex' : Nat → Nat → Prop} (hex : ex' = fun a b => ex a b ∨ (a = 38 ∧ b = n)) (b : kB (lsP n) (lsR n) K K') (s : sB [65, 66, 67, 68] [70] σ σ')
    (k1 : K'.1 49 0 5 = nI (n + 1) ∧ K'.2 63 0 n = some (38, n) ∧ K'.2 38 n 0 = some (0, e) ∧ K'.1 38 n 1 = nI p ∧ K'.2 38 n 2 = some (0, q) ∧ K'.1 38 n 3 = nI c)
    (s1 : σ'.2 70 = nI (n + 1) ∧ (σ'.1 65 n = nI e ∧ σ'.1 66 n = nI p ∧ σ'.1 67 n = nI q ∧ σ'.1 68 n = nI c) ∧ ∀ i, i ≠ n → σ'.1 65 i = σ.1 65 i ∧ σ'.1 66 i = σ.1 66 i ∧ σ'.1 67 i = σ.1 67 i ∧ σ'.1 68 i = σ.1 68 i) :
    J0 T G (n + 1, fun i => if i = n then (e, p, q, c) else L.2 i) ex' K' σ' v := by
  subst hn
  subst hex
  have mono : ∀ a b, ex a b → (ex a b ∨ (a = 38 ∧ b = L.1)) := fun a b h => Or.inl h
  obtain ⟨t, ca, ⟨n1, n2, n3, n4, ⟨n5, n6, n7⟩, n8, n9⟩, va, mk, ⟨m, s26⟩, d, fr⟩ := j
  refine ⟨JTr_ex mono ((t.kp b (fun k i j z => by unfold lsP at z; unfold dTI; omega) (fun k i j z => by unfold lsR at z; unfold dTR; omega)).cg (fun f hf => s.1 f (by revert f; decide)) (s.2 13 (by decide))), JCa_ex mono ((ca.kp b (fun k i j z => by unfold lsP at z; unfold dCI; omega) (fun k i j z => by unfold lsR at z; unfold dCR; omega)).cg (fun f hf => s.1 f (by revert f; decide)) (fun f hf => s.2 f (by revert f; decide))), ⟨n1.cg (fun f hf => s.1 f (by revert f; decide)), (n2.keep b (fun i j => by unfold lsP; omega)).cg (fun f hf => s.1 f (by revert f; decide)), n3.cg (fun f hf => s.1 f (by revert f; decide)) (s.2 54 (by decide)), by rw [s.2 54 (by decide), b.1 49 0 6 (by unfold lsP; omega)]; exact n4, ⟨s1.1, by show L.1 + 1 ≤ 6; omega, fun i hi => ?_⟩, k1.1, fun i hi => ?_⟩, (va.kp b (fun k i j z => by unfold lsP at z; omega)).cg (fun f hf => s.1 f (by revert f; decide)) (s.2 48 (by decide)), (mk.kp b (fun k i j z => by unfold lsP at z; omega)).cg (fun f hf => s.2 f (by revert f; decide)), ⟨KMt_ex mono ((m.keep b (fun k i j z => by unfold lsP at z; omega) (fun k i j z => by unfold lsR at z; omega)).cg (fun f hf => s.1 f (by revert f; decide))), by rw [s.2 26 (by decide)]; exact s26⟩, JDf_ex mono ((d.kp b (fun k i j z => by unfold lsP at z; omega) (fun k i j z => by unfold lsR at z; omega)).cg (fun f hf => s.1 f (by revert f; decide))), ?_⟩
  · show (σ'.1 65 i = nI (if i = L.1 then (e, p, q, c) else L.2 i).1 ∧ (if i = L.1 then (e, p, q, c) else L.2 i).1 < Tn T) ∧ (σ'.1 66 i = nI (if i = L.1 then (e, p, q, c) else L.2 i).2.1 ∧ (if i = L.1 then (e, p, q, c) else L.2 i).2.1 < 15) ∧ (σ'.1 67 i = nI (if i = L.1 then (e, p, q, c) else L.2 i).2.2.1 ∧ (if i = L.1 then (e, p, q, c) else L.2 i).2.2.1 < Tn T) ∧ σ'.1 68 i = nI (if i = L.1 then (e, p, q, c) else L.2 i).2.2.2 ∧ (if i = L.1 then (e, p, q, c) else L.2 i).2.2.2 < 8
    by_cases z : i = L.1
    · rw [if_pos z, z]
      obtain ⟨x1, x2, x3, x4⟩ := s1.2.1
      exact ⟨⟨x1, he⟩, ⟨x2, hp⟩, ⟨x3, hq⟩, x4, hc⟩
    · rw [if_neg z]
      obtain ⟨x1, x2, x3, x4⟩ := s1.2.2 i z
      rw [x1, x2, x3, x4]
      exact n7 i (by have hi' : i < L.1 + 1 := hi; omega)
  · show (ex 38 i ∨ (38 = 38 ∧ i = L.1)) ∧ K'.2 63 0 i = some (38, i) ∧ K'.2 38 i 0 = some (0, (if i = L.1 then (e, p, q, c) else L.2 i).1) ∧ K'.1 38 i 1 = nI (if i = L.1 then (e, p, q, c) else L.2 i).2.1 ∧ K'.2 38 i 2 = some (0, (if i = L.1 then (e, p, q, c) else L.2 i).2.2.1) ∧ K'.1 38 i 3 = nI (if i = L.1 then (e, p, q, c) else L.2 i).2.2.2
    by_cases z : i = L.1
    · rw [if_pos z, z]
      exact ⟨Or.inr ⟨rfl, rfl⟩, k1.2⟩
    · rw [if_neg z, b.2 63 0 i (by unfold lsR; omega), b.2 38 i 0 (by unfold lsR; omega), b.2 38 i 2 (by unfold lsR; omega), b.1 38 i 1 (by unfold lsP; omega), b.1 38 i 3 (by unfold lsP; omega)]
      obtain ⟨y1, y2⟩ := n9 i (by have hi' : i < L.1 + 1 := hi; omega)
      exact ⟨Or.inl y1, y2⟩
  · have fr' : JFr T G L ex σ' := fr.cg (fun f hf => s.1 f (by revert f; decide)) (fun e _ _ => rY.of (fun f hf => s.1 f (by revert f; decide)))
    obtain ⟨⟨d1, d2, d3, d4, d5, d6⟩, d7⟩ := fr'
    refine ⟨⟨fun k e h1 h2 z => ?_, fun k h1 z => ?_, fun k r h1 h2 h3 z => ?_, fun s h1 k h2 h3 z => ?_, fun j h1 h2 => ?_, fun k h1 z => ?_⟩, d7⟩
    · rcases z with z | z
      · exact d1 k e h1 h2 z
      · omega
    · rcases z with z | z
      · exact d2 k h1 z
      · omega
    · rcases z with z | z
      · exact d3 k r h1 h2 h3 z
      · omega
    · rcases z with z | z
      · exact d4 s h1 k h2 h3 z
      · omega
    · obtain ⟨y1, y2, y3, y4⟩ := d5 j h1 h2
      exact ⟨fun z => z.elim y1 (by omega), fun z => z.elim y2 (by omega), fun z => z.elim y3 (by omega), fun z => z.elim y4 (by omega)⟩
    · have h1' : L.1 + 1 ≤ k := h1
      rcases z with z | z
      · exact d6 k (by omega) z
      · omega
end LSN
