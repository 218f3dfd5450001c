section TS3
variable {T : qqT} {G : qqG} {L : qqL} {A A' : kA} {ex ex' : Nat → Nat → Prop} {K K' : kS} {S S' : cS} {σ σ' : mS} {v v' n k c : Nat} {x1 x2 x3 : Int32}
def drC (ex : Nat → Nat → Prop) (K : kS) (n k c : Nat) : Prop := (ex 17 n ∧ ex (18 + k) n ∧ ex (22 + k) n ∧ ex (26 + k) n ∧ ex (30 + k) n) ∧ k < 4 ∧ (K.2 17 n 1 = some (18 + k, n) ∧ K.2 (18 + k) n 1 = some (22 + k, n) ∧ K.2 (18 + k) n 2 = some (26 + k, n) ∧ K.2 (18 + k) n 3 = some (30 + k, n)) ∧ K.1 (18 + k) n 4 = nI c
theorem kT18 {k : Nat} (hk : k < 4) : kT (18 + k) = (2, 0) ∧ kT (22 + k) = (20, 4) ∧ kT (26 + k) = (20, 4) ∧ kT (30 + k) = (20, 4) := by
  have : k = 0 ∨ k = 1 ∨ k = 2 ∨ k = 3 := by omega
  rcases this with rfl | rfl | rfl | rfl <;> exact ⟨rfl, rfl, rfl, rfl⟩
theorem drC.l (d : drC ex K n k c) (hA : KA A ex K' S) (e : K'.2 = K.2) : gR S (some (A 17 n)) 7 1 = some (some (A (18 + k) n)) := by
  rw [hA.R 17 7 d.1.1 rfl, e, d.2.2.1.1]; rfl
theorem drC.cI (d : drC ex K n k c) (hA : KA A ex K' S) (j : Nat) : gI S (some (A (18 + k) n)) 2 j = some (K'.1 (18 + k) n j) := hA.I (18 + k) 2 d.1.2.1 (by rw [(kT18 d.2.1).1])
theorem drC.dI (d : drC ex K n k c) (hA : KA A ex K' S) (j : Nat) : gI S (some (A 17 n)) 7 j = some (K'.1 17 n j) := hA.I 17 7 d.1.1 rfl
theorem drC.cP (d : drC ex K n k c) (hA : KA A ex K' S) (j : Nat) (x : Int32) : ∃ S', pI S (some (A (18 + k) n)) 2 j x = some S' ∧ KA A ex (kwI K' (18 + k) n j x) S' := hA.PI d.1.2.1 (by rw [(kT18 d.2.1).1]) (by have := d.2.1; omega) x
theorem drC.dP (d : drC ex K n k c) (hA : KA A ex K' S) (j : Nat) (x : Int32) : ∃ S', pI S (some (A 17 n)) 7 j x = some S' ∧ KA A ex (kwI K' 17 n j x) S' := hA.PI d.1.1 rfl (by decide) x
theorem drC.dR (d : drC ex K n k c) (hA : KA A ex K' S) : rc S (some (A 17 n)) 7 = some (A 17 n) := hA.Rc 17 7 d.1.1 rfl
def ts4 (K : kS) (n k c : Nat) (x1 x2 x3 : Int32) : kS := kwI (kwI (kwI (kwI K (22 + k) n c x1) (26 + k) n c x2) (30 + k) n c x3) (18 + k) n 4 (nI (c + 1))
theorem c_add4 (d : drC ex K n k c) (hc : c < 4) (hA : KA A ex K S) (x1 x2 x3 : Int32) : ∃ S4, KA A ex (ts4 K n k c x1 x2 x3) S4 ∧ ∀ x4, f_X7_addTest (A 17 n) x1 x2 x3 x4 S = if x4 = none then ((gI S4 (some (A 17 n)) 7 6).bind (fun v21 => if x1 = (0:Int32) then (f_X7_addTest_101 (A 17 n) x1 x2 (some (A 17 n)) v21 S4) else (if x1 = (9:Int32) then (f_X7_addTest_101 (A 17 n) x1 x2 (some (A 17 n)) v21 S4) else (f_X7_addTest_107 (A 17 n) x1 x2 (some (A 17 n)) v21 100 S4)))) else ((rc S4 (some (A 17 n)) 7).bind (fun v22 => (f_X7_addInner v22 x1 x4 S4).bind (fun v23 => some v23))) := by
  obtain ⟨⟨d1, d2, d3, d4, d5⟩, hk, ⟨r1, r2, r3, r4⟩, hc4⟩ := id d
  obtain ⟨t1, t2, t3, t4⟩ := kT18 hk
  obtain ⟨S1, e1, h1⟩ := hA.SI (k := 22 + k) (i := n) (N := 4) (j := c) d3 t2 (by omega) hc x1
  obtain ⟨S2, e2, h2⟩ := h1.SI (k := 26 + k) (i := n) (N := 4) (j := c) d4 t3 (by omega) hc x2
  obtain ⟨S3, e3, h3⟩ := h2.SI (k := 30 + k) (i := n) (N := 4) (j := c) d5 t4 (by omega) hc x3
  obtain ⟨S4, e4, h4⟩ := d.cP h3 4 (nI (c + 1))
  refine ⟨S4, h4, fun x4 => ?_⟩
  have gC : ∀ (K' : kS) (S' : cS), KA A ex K' S' → K'.2 = K.2 → gR S' (some (A (18 + k) n)) 2 1 = some (some (A (22 + k) n)) ∧ gR S' (some (A (18 + k) n)) 2 2 = some (some (A (26 + k) n)) ∧ gR S' (some (A (18 + k) n)) 2 3 = some (some (A (30 + k) n)) := fun K' S' h e => by
    have kc : (kT (18 + k)).1 = 2 := by rw [t1]
    rw [h.R (18 + k) 2 d2 kc, h.R (18 + k) 2 d2 kc, h.R (18 + k) 2 d2 kc, e, r2, r3, r4]
    exact ⟨rfl, rfl, rfl⟩
  have c0 : gI S (some (A (18 + k) n)) 2 4 = some (nI c) := by rw [d.cI hA, hc4]
  have c1 : gI S1 (some (A (18 + k) n)) 2 4 = some (nI c) := by rw [d.cI h1, kwI_row (by omega), hc4]
  have c2 : gI S2 (some (A (18 + k) n)) 2 4 = some (nI c) := by rw [d.cI h2, kwI_row (by omega), kwI_row (by omega), hc4]
  have c3 : gI S3 (some (A (18 + k) n)) 2 4 = some (nI c) := by rw [d.cI h3, kwI_row (by omega), kwI_row (by omega), kwI_row (by omega), hc4]
  unfold f_X7_addTest
  rw [d.l hA rfl, qqx, c0, qqx, if_pos (show nI c < 4 from nI_lt (b := 4) hc (by decide)), qqx, (gC K S hA rfl).1, qqx, qqx, c0, qqx, e1, qqx, d.l h1 rfl, qqx, (gC _ S1 h1 rfl).2.1, qqx, qqx, c1, qqx, e2, qqx, d.l h2 rfl, qqx, (gC _ S2 h2 rfl).2.2, qqx, qqx, c2, qqx, e3, qqx, d.l h3 rfl, qqx, c3, qqx, nI_1, e4, qqx]
theorem c_addTestN (d : drC ex K n k c) (hc : c < 4) (hA : KA A ex K S) {ft : Int32} (hf : f_X7_feature x1 x2 = some ft) {o : Bool} (h7 : K.1 17 n 7 = b2 o) (x3 : Int32) : ∃ S' K', f_X7_addTest (A 17 n) x1 x2 x3 none S = some S' ∧ KA A ex K' S' ∧ kB (tsP n k c) F3 K K' ∧ (K'.1 (18 + k) n 4 = nI (c + 1) ∧ K'.1 (18 + k) n 5 = if x1 = 8 then 1 else K.1 (18 + k) n 5) ∧ (K'.1 (22 + k) n c = x1 ∧ K'.1 (26 + k) n c = x2 ∧ K'.1 (30 + k) n c = x3) ∧ (K'.1 17 n 4 = (if x1 = 9 then x2 else K.1 17 n 4) ∧ K'.1 17 n 5 = if x1 = 8 then 1 else K.1 17 n 5) ∧ (K'.1 (18 + k) n 6 = K.1 (18 + k) n 6 ||| ft ∧ K'.1 (18 + k) n 7 = K.1 (18 + k) n 7 ∧ K'.1 (18 + k) n 8 = K.1 (18 + k) n 8 ||| ft) ∧ K'.1 17 n 6 = K.1 17 n 6 + (if x1 = 0 ∨ x1 = 9 then 1 else 100) ∧ K'.1 17 n 7 = K.1 17 n 7 ||| b2 (decide (x1 = 4)) ∧ K'.1 17 n 8 = K.1 17 n 8 ∧ K'.1 17 n 9 = K.1 17 n 9 := by
  have hk := d.2.1
  obtain ⟨S4, h4, run⟩ := c_add4 d hc hA x1 x2 x3
  have b4 : kB (tsP n k c) F3 K (ts4 K n k c x1 x2 x3) := ((((kB.rf K).I (by unfold tsP; omega)).I (by unfold tsP; omega)).I (by unfold tsP; omega)).I (by unfold tsP; omega)
  have r4 : ∀ j, (ts4 K n k c x1 x2 x3).1 17 n j = K.1 17 n j := fun j => by unfold ts4; rw [kwI_row (by omega), kwI_row (by omega), kwI_row (by omega), kwI_row (by omega)]
  have q4 : ∀ j, j ≠ 4 → (ts4 K n k c x1 x2 x3).1 (18 + k) n j = K.1 (18 + k) n j := fun j hj => by unfold ts4; rw [kwI_row (by omega), kwI_row (by omega), kwI_row (by omega), kwI_row (by omega)]
  have q44 : (ts4 K n k c x1 x2 x3).1 (18 + k) n 4 = nI (c + 1) := kwI_s _ _ _ _ _
  have q22 : (ts4 K n k c x1 x2 x3).1 (22 + k) n c = x1 ∧ (ts4 K n k c x1 x2 x3).1 (26 + k) n c = x2 ∧ (ts4 K n k c x1 x2 x3).1 (30 + k) n c = x3 := by
    unfold ts4
    refine ⟨?_, ?_, ?_⟩
    · rw [kwI_row (by omega), kwI_row (by omega), kwI_row (by omega), kwI_s]
    · rw [kwI_row (by omega), kwI_row (by omega), kwI_s]
    · rw [kwI_row (by omega), kwI_s]
  have e42 : (ts4 K n k c x1 x2 x3).2 = K.2 := rfl
  generalize ts4 K n k c x1 x2 x3 = K4 at h4 b4 r4 q4 q44 q22 e42
  have lst : ∀ (K' : kS) (S' : cS), KA A ex K' S' → K'.2 = K4.2 → gR S' (some (A 17 n)) 7 1 = some (some (A (18 + k) n)) := fun K' S' h e => d.l h (e.trans e42)
  obtain ⟨S5, e5, h5⟩ := d.dP h4 6 (K.1 17 n 6 + (if x1 = 0 ∨ x1 = 9 then 1 else 100))
  obtain ⟨S6, e6, h6⟩ := d.cP h5 6 (K.1 (18 + k) n 6 ||| ft)
  obtain ⟨S7, e7, h7'⟩ := d.cP h6 8 (K.1 (18 + k) n 8 ||| ft)
  obtain ⟨S8, e8, h8⟩ := d.dP h7' 7 (K.1 17 n 7 ||| b2 (decide (x1 = 4)))
  have e8' : pZ S7 (some (A 17 n)) 7 7 (K.1 17 n 7 ||| b2 (decide (x1 = 4))) = some S8 := by
    rw [h7, b2_or] at e8 ⊢
    rw [pZ_b2]; exact e8
  have g5 : gI S4 (some (A 17 n)) 7 6 = some (K.1 17 n 6) := by rw [d.dI h4, r4]
  have g6 : gI S5 (some (A (18 + k) n)) 2 6 = some (K.1 (18 + k) n 6) := by rw [d.cI h5, kwI_row (by omega), q4 6 (by decide)]
  have g7 : gI S6 (some (A (18 + k) n)) 2 8 = some (K.1 (18 + k) n 8) := by rw [d.cI h6, kwI_row (by omega), kwI_row (by omega), q4 8 (by decide)]
  have g8 : gI S7 (some (A 17 n)) 7 7 = some (K.1 17 n 7) := by rw [d.dI h7', kwI_row (by omega), kwI_row (by omega), kwI_row (by omega), r4]
  have b8 : kB (tsP n k c) F3 K (kwI (kwI (kwI (kwI K4 17 n 6 (K.1 17 n 6 + (if x1 = 0 ∨ x1 = 9 then 1 else 100))) (18 + k) n 6 (K.1 (18 + k) n 6 ||| ft)) (18 + k) n 8 (K.1 (18 + k) n 8 ||| ft)) 17 n 7 (K.1 17 n 7 ||| b2 (decide (x1 = 4)))) := (((b4.I (by unfold tsP; omega)).I (by unfold tsP; omega)).I (by unfold tsP; omega)).I (by unfold tsP; omega)
  have o8 : ∀ j, j ≠ 6 → j ≠ 7 → (kwI (kwI (kwI (kwI K4 17 n 6 (K.1 17 n 6 + (if x1 = 0 ∨ x1 = 9 then 1 else 100))) (18 + k) n 6 (K.1 (18 + k) n 6 ||| ft)) (18 + k) n 8 (K.1 (18 + k) n 8 ||| ft)) 17 n 7 (K.1 17 n 7 ||| b2 (decide (x1 = 4)))).1 17 n j = K.1 17 n j := fun j h6 h7 => by rw [kwI_row (by omega), kwI_row (by omega), kwI_row (by omega), kwI_row (by omega), r4]
  have p8 : ∀ j, j ≠ 6 → j ≠ 8 → (kwI (kwI (kwI (kwI K4 17 n 6 (K.1 17 n 6 + (if x1 = 0 ∨ x1 = 9 then 1 else 100))) (18 + k) n 6 (K.1 (18 + k) n 6 ||| ft)) (18 + k) n 8 (K.1 (18 + k) n 8 ||| ft)) 17 n 7 (K.1 17 n 7 ||| b2 (decide (x1 = 4)))).1 (18 + k) n j = K4.1 (18 + k) n j := fun j h6 h7 => by rw [kwI_row (by omega), kwI_row (by omega), kwI_row (by omega), kwI_row (by omega)]
  have m8 : ∀ a, 22 ≤ a → (kwI (kwI (kwI (kwI K4 17 n 6 (K.1 17 n 6 + (if x1 = 0 ∨ x1 = 9 then 1 else 100))) (18 + k) n 6 (K.1 (18 + k) n 6 ||| ft)) (18 + k) n 8 (K.1 (18 + k) n 8 ||| ft)) 17 n 7 (K.1 17 n 7 ||| b2 (decide (x1 = 4)))).1 a n c = K4.1 a n c := fun a ha => by rw [kwI_row (by omega), kwI_row (by omega), kwI_row (by omega), kwI_row (by omega)]
  have z6 : (kwI (kwI (kwI (kwI K4 17 n 6 (K.1 17 n 6 + (if x1 = 0 ∨ x1 = 9 then 1 else 100))) (18 + k) n 6 (K.1 (18 + k) n 6 ||| ft)) (18 + k) n 8 (K.1 (18 + k) n 8 ||| ft)) 17 n 7 (K.1 17 n 7 ||| b2 (decide (x1 = 4)))).1 17 n 6 = K.1 17 n 6 + (if x1 = 0 ∨ x1 = 9 then 1 else 100) := by rw [kwI_row (by omega), kwI_row (by omega), kwI_row (by omega), kwI_s]
  have z7 : (kwI (kwI (kwI (kwI K4 17 n 6 (K.1 17 n 6 + (if x1 = 0 ∨ x1 = 9 then 1 else 100))) (18 + k) n 6 (K.1 (18 + k) n 6 ||| ft)) (18 + k) n 8 (K.1 (18 + k) n 8 ||| ft)) 17 n 7 (K.1 17 n 7 ||| b2 (decide (x1 = 4)))).1 17 n 7 = K.1 17 n 7 ||| b2 (decide (x1 = 4)) := kwI_s _ _ _ _ _
  have z16 : (kwI (kwI (kwI (kwI K4 17 n 6 (K.1 17 n 6 + (if x1 = 0 ∨ x1 = 9 then 1 else 100))) (18 + k) n 6 (K.1 (18 + k) n 6 ||| ft)) (18 + k) n 8 (K.1 (18 + k) n 8 ||| ft)) 17 n 7 (K.1 17 n 7 ||| b2 (decide (x1 = 4)))).1 (18 + k) n 6 = K.1 (18 + k) n 6 ||| ft := by rw [kwI_row (by omega), kwI_row (by omega), kwI_s]
  have z18 : (kwI (kwI (kwI (kwI K4 17 n 6 (K.1 17 n 6 + (if x1 = 0 ∨ x1 = 9 then 1 else 100))) (18 + k) n 6 (K.1 (18 + k) n 6 ||| ft)) (18 + k) n 8 (K.1 (18 + k) n 8 ||| ft)) 17 n 7 (K.1 17 n 7 ||| b2 (decide (x1 = 4)))).1 (18 + k) n 8 = K.1 (18 + k) n 8 ||| ft := by rw [kwI_row (by omega), kwI_s]
  have run107 : f_X7_addTest_107 (A 17 n) x1 x2 (some (A 17 n)) (K.1 17 n 6) (if x1 = 0 ∨ x1 = 9 then 1 else 100) S4 = if x1 = (8:Int32) then ((gR S8 (some (A 17 n)) 7 1).bind (fun v2 => (pZ S8 v2 2 5 (1:Int32)).bind (fun v3 => (pZ v3 (some (A 17 n)) 7 5 (1:Int32)).bind (fun v4 => f_X7_addTest_183 (A 17 n) x1 x2 v4)))) else (f_X7_addTest_183 (A 17 n) x1 x2 S8) := by
    unfold f_X7_addTest_107
    rw [e5, qqx, lst _ _ h5 rfl, qqx, g6, qqx, hf, qqx, e6, qqx, lst _ _ h6 rfl, qqx, g7, qqx, qqx, e7, qqx, g8, qqx]
    unfold f_X7_addTest_160
    by_cases z : x1 = 4
    · rw [if_pos z]
      rw [decide_eq_true z] at e8'
      have e8'' : pZ S7 (some (A 17 n)) 7 7 (K.1 17 n 7 ||| 1) = some S8 := e8'
      rw [e8'', qqx]
    · rw [if_neg z]
      rw [decide_eq_false z] at e8'
      have e8'' : pZ S7 (some (A 17 n)) 7 7 (K.1 17 n 7 ||| 0) = some S8 := e8'
      rw [e8'', qqx]
  have run0 : f_X7_addTest (A 17 n) x1 x2 x3 none S = if x1 = (8:Int32) then ((gR S8 (some (A 17 n)) 7 1).bind (fun v2 => (pZ S8 v2 2 5 (1:Int32)).bind (fun v3 => (pZ v3 (some (A 17 n)) 7 5 (1:Int32)).bind (fun v4 => f_X7_addTest_183 (A 17 n) x1 x2 v4)))) else (f_X7_addTest_183 (A 17 n) x1 x2 S8) := by
    rw [run none, if_pos rfl, g5, qqx, ← run107]
    unfold f_X7_addTest_101
    by_cases z0 : x1 = 0
    · rw [if_pos z0, if_pos (Or.inl z0)]
    · by_cases z9 : x1 = 9
      · rw [if_neg z0, if_pos z9, if_pos (Or.inr z9)]
      · rw [if_neg z0, if_neg z9, if_neg (fun z => z.elim z0 z9)]
  clear run run107
  rw [run0]
  generalize hK8 : kwI (kwI (kwI (kwI K4 17 n 6 (K.1 17 n 6 + (if x1 = 0 ∨ x1 = 9 then 1 else 100))) (18 + k) n 6 (K.1 (18 + k) n 6 ||| ft)) (18 + k) n 8 (K.1 (18 + k) n 8 ||| ft)) 17 n 7 (K.1 17 n 7 ||| b2 (decide (x1 = 4))) = K8 at h8 b8 o8 p8 m8 z6 z7 z16 z18
  have e82 : K8.2 = K4.2 := by rw [← hK8]; rfl
  unfold f_X7_addTest_183 f_X7_addTest_194
  by_cases c8 : x1 = 8
  · have c9 : ¬ x1 = 9 := fun z => by rw [z] at c8; exact absurd c8 (by decide)
    obtain ⟨S9, e9, h9⟩ := d.cP h8 5 1
    obtain ⟨S10, e10, h10⟩ := d.dP h9 5 1
    refine ⟨S10, _, ?_, h10, (b8.I (by unfold tsP; omega)).I (by unfold tsP; omega), ⟨?_, ?_⟩, ⟨?_, ?_, ?_⟩, ⟨?_, ?_⟩, ⟨?_, ?_, ?_⟩, ?_, ?_, ?_, ?_⟩
    · rw [if_pos c8, lst _ _ h8 e82, qqx, show pZ S8 (some (A (18 + k) n)) 2 5 1 = some S9 from (pZ_b2 _ _ _ _ true).trans e9, qqx, show pZ S9 (some (A 17 n)) 7 5 1 = some S10 from (pZ_b2 _ _ _ _ true).trans e10, qqx, if_neg c9]
    · rw [kwI_row (by omega), kwI_row (by omega), p8 4 (by decide) (by decide), q44]
    · rw [if_pos c8, kwI_row (by omega), kwI_s]
    · rw [kwI_row (by omega), kwI_row (by omega), m8 _ (by omega)]; exact q22.1
    · rw [kwI_row (by omega), kwI_row (by omega), m8 _ (by omega)]; exact q22.2.1
    · rw [kwI_row (by omega), kwI_row (by omega), m8 _ (by omega)]; exact q22.2.2
    · rw [if_neg c9, kwI_row (by omega), kwI_row (by omega), o8 4 (by decide) (by decide)]
    · rw [if_pos c8, kwI_s]
    · rw [kwI_row (by omega), kwI_row (by omega), z16]
    · rw [kwI_row (by omega), kwI_row (by omega), p8 7 (by decide) (by decide), q4 7 (by decide)]
    · rw [kwI_row (by omega), kwI_row (by omega), z18]
    · rw [kwI_row (by omega), kwI_row (by omega), z6]
    · rw [kwI_row (by omega), kwI_row (by omega), z7]
    · rw [kwI_row (by omega), kwI_row (by omega), o8 8 (by decide) (by decide)]
    · rw [kwI_row (by omega), kwI_row (by omega), o8 9 (by decide) (by decide)]
  · rw [if_neg c8, if_neg c8, if_neg c8]
    by_cases c9 : x1 = 9
    · rw [if_pos c9]
      obtain ⟨S9, e9, h9⟩ := d.dP h8 4 x2
      refine ⟨S9, _, ?_, h9, b8.I (by unfold tsP; omega), ⟨?_, ?_⟩, ⟨?_, ?_, ?_⟩, ⟨?_, ?_⟩, ⟨?_, ?_, ?_⟩, ?_, ?_, ?_, ?_⟩
      · rw [e9, qqx]
      · rw [kwI_row (by omega), p8 4 (by decide) (by decide), q44]
      · rw [kwI_row (by omega), p8 5 (by decide) (by decide), q4 5 (by decide)]
      · rw [kwI_row (by omega), m8 _ (by omega)]; exact q22.1
      · rw [kwI_row (by omega), m8 _ (by omega)]; exact q22.2.1
      · rw [kwI_row (by omega), m8 _ (by omega)]; exact q22.2.2
      · rw [if_pos c9, kwI_s]
      · rw [kwI_row (by omega), o8 5 (by decide) (by decide)]
      · rw [kwI_row (by omega), z16]
      · rw [kwI_row (by omega), p8 7 (by decide) (by decide), q4 7 (by decide)]
      · rw [kwI_row (by omega), z18]
      · rw [kwI_row (by omega), z6]
      · rw [kwI_row (by omega), z7]
      · rw [kwI_row (by omega), o8 8 (by decide) (by decide)]
      · rw [kwI_row (by omega), o8 9 (by decide) (by decide)]
    · rw [if_neg c9, if_neg c9]
      exact ⟨S8, K8, rfl, h8, b8, ⟨(p8 4 (by decide) (by decide)).trans q44, (p8 5 (by decide) (by decide)).trans (q4 5 (by decide))⟩, ⟨(m8 _ (by omega)).trans q22.1, (m8 _ (by omega)).trans q22.2.1, (m8 _ (by omega)).trans q22.2.2⟩, ⟨o8 4 (by decide) (by decide), o8 5 (by decide) (by decide)⟩, ⟨z16, (p8 7 (by decide) (by decide)).trans (q4 7 (by decide)), z18⟩, z6, z7, o8 8 (by decide) (by decide), o8 9 (by decide) (by decide)⟩
end TS3
