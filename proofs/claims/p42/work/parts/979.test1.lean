def tsS (σ σ' : mS) (k c : Nat) (x1 x2 x3 : Int32) : Prop := sB [16, 17, 18, 19, 21, 22] [] σ σ' ∧ (σ'.1 16 (120 + k) = nI (c + 1) ∧ ∀ i, i ≠ 120 + k → σ'.1 16 i = σ.1 16 i) ∧ (σ'.1 17 (480 + 4 * k + c) = x1 ∧ σ'.1 18 (480 + 4 * k + c) = x2 ∧ σ'.1 19 (480 + 4 * k + c) = x3) ∧ (∀ i, i ≠ 480 + 4 * k + c → σ'.1 17 i = σ.1 17 i ∧ σ'.1 18 i = σ.1 18 i ∧ σ'.1 19 i = σ.1 19 i) ∧ ∀ s, s ≠ 30 → σ'.1 21 s = σ.1 21 s ∧ σ'.1 22 s = σ.1 22 s
def tsP (n k c a b d : Nat) : Prop := b = n ∧ ((a = 17 ∧ 4 ≤ d ∧ d ≤ 9) ∨ (a = 18 + k ∧ 4 ≤ d ∧ d ≤ 8) ∨ ((a = 22 + k ∨ a = 26 + k ∨ a = 30 + k) ∧ d = c))
def tIn (σ : mS) (i a : Nat) : Prop := ((σ.1 17 i = 5 ∨ σ.1 17 i = 6) ∧ tA σ i = a) ∨ (σ.1 17 i = 7 ∧ tB σ i = a)
section TS1
variable {T : qqT} {G : qqG} {L : qqL} {A A' : kA} {ex ex' : Nat → Nat → Prop} {K K' : kS} {S S' : cS} {σ σ' : mS} {v v' n k c : Nat} {x1 x2 x3 : Int32}
theorem tsS_nC (s : tsS σ σ' k c x1 x2 x3) (r : Nat) : nC σ' r = nC σ r := by unfold nC; rw [s.1.1 14 (by decide)]
theorem tsS_cO (s : tsS σ σ' k c x1 x2 x3) (r q : Nat) : cO σ' r q = cO σ r q := by unfold cO; rw [s.1.1 15 (by decide)]
theorem tsS_nT (s : tsS σ σ' k c x1 x2 x3) (hc : c < 4) (q : Nat) : nTt σ' 30 q = if q = k then c + 1 else nTt σ 30 q := by
  unfold nTt
  by_cases z : q = k
  · rw [if_pos z, z, show 4 * 30 + k = 120 + k by omega, s.2.1.1]; exact nI_clamp (by omega)
  · rw [if_neg z, s.2.1.2 _ (by omega)]
theorem tsS_o (s : tsS σ σ' k c x1 x2 x3) {i : Nat} (hi : i ≠ 480 + 4 * k + c) : tNr σ' i = tNr σ i ∧ tFr σ' i = tFr σ i ∧ tAl σ' i = tAl σ i ∧ tWt σ' i = tWt σ i := by
  obtain ⟨e1, e2, e3⟩ := s.2.2.2.1 i hi
  have a1 : tA σ' i = tA σ i := by unfold tA; rw [e2]
  have a2 : tB σ' i = tB σ i := by unfold tB; rw [e3]
  have a3 : tBi σ' i = tBi σ i := by unfold tBi; rw [e1, e2]
  have a4 : tDp σ' i = tDp σ i := by unfold tDp; rw [e1, a1, a2, s.1.1 25 (by decide)]
  have a5 : tNs σ' i = tNs σ i := by unfold tNs; rw [e1, a1, tsS_nC s]
  refine ⟨?_, ?_, ?_, ?_⟩
  · unfold tNr; rw [a3, a5, a1, s.1.1 23 (by decide)]
  · unfold tFr; rw [a4, a5, a1, s.1.1 24 (by decide)]
  · unfold tAl; rw [a3, a4, a1, e1]
  · unfold tWt; rw [e1, a1, a2, s.1.1 20 (by decide)]
theorem or_as (x y z : Int32) : (x ||| y) ||| z = x ||| (y ||| z) := b_ext (fun i _ => by rw [b_or, b_or, b_or, b_or, Bool.or_assoc])
theorem tsS_or {F : mS → Nat → Int32} (s : tsS σ σ' k c x1 x2 x3) (hF : ∀ i, i ≠ 480 + 4 * k + c → F σ' i = F σ i) (hc : c = nTt σ 30 k) (hc4 : c < 4) {q : Nat} (hq : nTt σ 30 q ≤ 4) : orF (fun t => F σ' (480 + 4 * q + t)) (nTt σ' 30 q) = if q = k then orF (fun t => F σ (480 + 4 * q + t)) (nTt σ 30 q) ||| F σ' (480 + 4 * k + c) else orF (fun t => F σ (480 + 4 * q + t)) (nTt σ 30 q) := by
  rw [tsS_nT s hc4]
  by_cases z : q = k
  · rw [if_pos z, if_pos z, z, ← hc]
    show orF (fun t => F σ' (480 + 4 * k + t)) c ||| F σ' (480 + 4 * k + c) = _
    rw [orF_cg (g := fun t => F σ (480 + 4 * k + t)) (fun t ht => hF _ (by omega))]
  · rw [if_neg z, if_neg z]
    exact orF_cg (fun t ht => hF _ (by omega))
theorem tsS_sAl (s : tsS σ σ' k c x1 x2 x3) (hk : k + 1 = nC σ 30) (hc : c = nTt σ 30 k) (hc4 : c < 4) (h4 : ∀ q, q < nC σ 30 → nTt σ 30 q ≤ 4) : sAl σ' 30 = sAl σ 30 ||| tAl σ' (480 + 4 * k + c) := by
  have key : ∀ q, q < nC σ 30 → ((if 0 < q ∧ 1 < cO σ' 30 q then (16384 : Int32) else 0) ||| orF (fun t => tAl σ' (16 * 30 + 4 * q + t)) (nTt σ' 30 q)) = (if q = k then ((if 0 < q ∧ 1 < cO σ 30 q then (16384 : Int32) else 0) ||| orF (fun t => tAl σ (16 * 30 + 4 * q + t)) (nTt σ 30 q)) ||| tAl σ' (480 + 4 * k + c) else ((if 0 < q ∧ 1 < cO σ 30 q then (16384 : Int32) else 0) ||| orF (fun t => tAl σ (16 * 30 + 4 * q + t)) (nTt σ 30 q))) := by
    intro q hq
    have e := tsS_or (F := tAl) s (fun i hi => (tsS_o s hi).2.2.1) hc hc4 (h4 q hq)
    rw [tsS_cO s]
    show ((if 0 < q ∧ 1 < cO σ 30 q then (16384 : Int32) else 0) ||| orF (fun t => tAl σ' (480 + 4 * q + t)) (nTt σ' 30 q)) = _
    rw [e]
    by_cases z : q = k
    · rw [if_pos z, if_pos z, or_as]
    · rw [if_neg z, if_neg z]
  unfold sAl
  rw [tsS_nC s, ← hk]
  have last : ∀ (f g : Nat → Int32) (a : Int32), (∀ q, q < k → f q = g q) → f k = g k ||| a → orF f (k + 1) = orF g (k + 1) ||| a := fun f g a h1 h2 => by
    show orF f k ||| f k = (orF g k ||| g k) ||| a
    rw [h2, orF_cg h1, or_as]
  exact last _ _ _ (fun q hq => (key q (by omega)).trans (if_neg (by omega))) ((key k (by omega)).trans (if_pos rfl))
theorem add_sw (a x d : Int32) : a + x + d = a + d + x := by rw [Int32.add_assoc, Int32.add_comm x d, ← Int32.add_assoc]
theorem tsS_wSm (s : tsS σ σ' k c x1 x2 x3) (hk : k + 1 = nC σ 30) (hc : c = nTt σ 30 k) (hc4 : c < 4) : ∀ j, wSm σ' 30 j = wSm σ 30 j + (if 4 * k + c < j then tWt σ' (480 + 4 * k + c) else 0) := by
  intro j
  induction j with
  | zero => rw [if_neg (by omega)]; rfl
  | succ j ih =>
    show wSm σ' 30 j + (if j / 4 < nC σ' 30 ∧ j % 4 < nTt σ' 30 (j / 4) then tWt σ' (16 * 30 + j) else 0) = wSm σ 30 j + (if j / 4 < nC σ 30 ∧ j % 4 < nTt σ 30 (j / 4) then tWt σ (16 * 30 + j) else 0) + (if 4 * k + c < j + 1 then tWt σ' (480 + 4 * k + c) else 0)
    rw [ih, tsS_nC s, tsS_nT s hc4]
    by_cases z : j = 4 * k + c
    · have e1 : j / 4 = k := by omega
      have e2 : j % 4 = c := by omega
      rw [if_neg (by omega : ¬ 4 * k + c < j), e1, e2, if_pos rfl, if_pos (by omega), ← hc, if_neg (by omega), if_pos (by omega), show 16 * 30 + j = 480 + 4 * k + c by omega, Int32.add_zero]
    · rw [(tsS_o s (show 16 * 30 + j ≠ 480 + 4 * k + c by omega)).2.2.2]
      have e3 : (j / 4 < nC σ 30 ∧ j % 4 < if j / 4 = k then c + 1 else nTt σ 30 (j / 4)) ↔ (j / 4 < nC σ 30 ∧ j % 4 < nTt σ 30 (j / 4)) := by
        by_cases y : j / 4 = k
        · rw [if_pos y, y, ← hc]; omega
        · rw [if_neg y]
      by_cases y : j / 4 < nC σ 30 ∧ j % 4 < nTt σ 30 (j / 4)
      · rw [if_pos y, if_pos (e3.mpr y), add_sw]
        by_cases x : 4 * k + c < j
        · rw [if_pos x, if_pos (by omega)]
        · rw [if_neg x, if_neg (by omega)]
      · rw [if_neg y, if_neg (fun x => y (e3.mp x)), add_sw]
        by_cases x : 4 * k + c < j
        · rw [if_pos x, if_pos (by omega)]
        · rw [if_neg x, if_neg (by omega)]
theorem tsS_qHs (s : tsS σ σ' k c x1 x2 x3) (hc : c = nTt σ 30 k) (hc4 : c < 4) {q : Nat} (h4 : nTt σ 30 q ≤ 4) : qHs σ' 30 q = if q = k then qHs σ 30 q || decide (x1 = 8) else qHs σ 30 q := by
  unfold qHs
  rw [tsS_nT s hc4]
  by_cases z : q = k
  · rw [if_pos z, if_pos z, z, ← hc]
    show (qAny (fun t => decide (σ'.1 17 (16 * 30 + 4 * k + t) = 8)) c || decide (σ'.1 17 (16 * 30 + 4 * k + c) = 8)) = _
    rw [qAny_cg (g := fun t => decide (σ.1 17 (16 * 30 + 4 * k + t) = 8)) (fun t ht => by rw [(s.2.2.2.1 (16 * 30 + 4 * k + t) (by omega)).1]), show 16 * 30 + 4 * k + c = 480 + 4 * k + c by omega, s.2.2.1.1]
  · rw [if_neg z, if_neg z]
    exact qAny_cg (fun t ht => by rw [(s.2.2.2.1 (16 * 30 + 4 * q + t) (by omega)).1])
theorem tsS_ag (s : tsS σ σ' k c x1 x2 x3) (hn : n ≤ 30) : sAg n σ σ' := by
  refine ⟨fun r hr => ?_, fun i hi => ?_, fun i hi => s.2.2.2.1 i (by omega), fun f hf => s.1.1 f (by revert f; decide)⟩
  · rw [s.1.1 14 (by decide)]
    exact ⟨rfl, s.2.2.2.2 r (by omega)⟩
  · rw [s.1.1 15 (by decide)]
    exact ⟨rfl, s.2.1.2 i (by omega)⟩
theorem tsS_qIn (s : tsS σ σ' k c x1 x2 x3) (hk : k + 1 = nC σ 30) (hc : c = nTt σ 30 k) (hc4 : c < 4) (h4 : ∀ q, q < nC σ 30 → nTt σ 30 q ≤ 4) (a : Nat) : qIn σ' 30 a ↔ (qIn σ 30 a ∨ tIn σ' (480 + 4 * k + c) a) := by
  have o : ∀ i, i ≠ 480 + 4 * k + c → σ'.1 17 i = σ.1 17 i ∧ tA σ' i = tA σ i ∧ tB σ' i = tB σ i := fun i hi => by
    obtain ⟨e1, e2, e3⟩ := s.2.2.2.1 i hi
    unfold tA tB
    rw [e1, e2, e3]
    exact ⟨rfl, rfl, rfl⟩
  unfold qIn
  constructor
  · rintro ⟨q, t, hq, ht, hx⟩
    rw [tsS_nC s] at hq
    rw [tsS_nT s hc4] at ht
    by_cases z : 16 * 30 + 4 * q + t = 480 + 4 * k + c
    · rw [z] at hx; exact Or.inr hx
    · obtain ⟨e1, e2, e3⟩ := o _ z
      rw [e1, e2, e3] at hx
      refine Or.inl ⟨q, t, hq, ?_, hx⟩
      by_cases y : q = k
      · rw [if_pos y] at ht; rw [y, ← hc]; omega
      · rw [if_neg y] at ht; exact ht
  · rintro (⟨q, t, hq, ht, hx⟩ | hx)
    · have h4' := h4 q hq
      have ne : 16 * 30 + 4 * q + t ≠ 480 + 4 * k + c := fun z => by
        have : q = k := by omega
        rw [this, ← hc] at ht
        omega
      obtain ⟨e1, e2, e3⟩ := o _ ne
      refine ⟨q, t, by rw [tsS_nC s]; exact hq, ?_, by rw [e1, e2, e3]; exact hx⟩
      rw [tsS_nT s hc4]
      by_cases y : q = k
      · rw [if_pos y]; rw [y, ← hc] at ht; omega
      · rw [if_neg y]; exact ht
    · refine ⟨k, c, by rw [tsS_nC s]; omega, by rw [tsS_nT s hc4, if_pos rfl]; omega, ?_⟩
      rw [show 16 * 30 + 4 * k + c = 480 + 4 * k + c by omega]
      exact hx
end TS1
