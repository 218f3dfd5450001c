section JN2
variable {T : qqT} {G : qqG} {L : qqL} {A A' : kA} {ex ex' : Nat → Nat → Prop} {K K' : kS} {S S' : cS} {σ σ' : mS} {v v' n k c m nw9 : Nat}
def in2K (K : kS) (m n : Nat) (x : Int32) : kS := kwI (kwR (kNw (kwR (kNw (kwR (kNw K (22 + m) n) (18 + m) n 1 (some (22 + m, n))) (26 + m) n) (18 + m) n 2 (some (26 + m, n))) (30 + m) n) (18 + m) n 3 (some (30 + m, n))) (18 + m) n 0 x
theorem c_init2 (hA : KA A ex K S) (hm : m < 4) (x : ex (18 + m) n) (hn : ¬ ex (22 + m) n ∧ ¬ ex (26 + m) n ∧ ¬ ex (30 + m) n) (ha : A (22 + m) n = S.2 ∧ A (26 + m) n = S.2 + 1 ∧ A (30 + m) n = S.2 + 2) (h0 : S.2 ≠ 0) (y : Int32) : ∃ S', f_X2_init (A (18 + m) n) y S = some S' ∧ KA A (exU (exU (exU ex (22 + m) n) (26 + m) n) (30 + m) n) (in2K K m n y) S' ∧ S'.2 = S.2 + 3 := by
  obtain ⟨t1, t2, t3, t4⟩ := kT18 hm
  have k2 : (kT (18 + m)).1 = 2 := by rw [t1]
  have h1 := hA.al t2 hn.1 ha.1 h0
  have n1 : (na S 20 4).2 = S.2 + 1 := rfl
  obtain ⟨S2, e2, h2, n2⟩ := h1.PR2 (k := 18 + m) (i := n) (t := 2) (j := 1) (Or.inl x) k2 (by omega) (some (22 + m, n)) (fun r z => by cases z; exact Or.inr ⟨rfl, rfl⟩)
  have h3 := h2.al t3 (fun z => z.elim hn.2.1 (by omega)) (by rw [ha.2.1, n2, n1]) (by rw [n2, n1]; omega)
  have n3 : (na S2 20 4).2 = S.2 + 2 := by rw [na_2, n2, n1]
  obtain ⟨S4, e4, h4, n4⟩ := h3.PR2 (k := 18 + m) (i := n) (t := 2) (j := 2) (Or.inl (Or.inl x)) k2 (by omega) (some (26 + m, n)) (fun r z => by cases z; exact Or.inr ⟨rfl, rfl⟩)
  have h5 := h4.al t4 (fun z => z.elim (fun z => z.elim hn.2.2 (by omega)) (by omega)) (by rw [ha.2.2, n4, n3]) (by rw [n4, n3]; omega)
  have n5 : (na S4 20 4).2 = S.2 + 3 := by rw [na_2, n4, n3]
  obtain ⟨S6, e6, h6, n6⟩ := h5.PR2 (k := 18 + m) (i := n) (t := 2) (j := 3) (Or.inl (Or.inl (Or.inl x))) k2 (by omega) (some (30 + m, n)) (fun r z => by cases z; exact Or.inr ⟨rfl, rfl⟩)
  obtain ⟨S7, e7, h7, n7⟩ := h6.PI2 (k := 18 + m) (i := n) (t := 2) (j := 0) (Or.inl (Or.inl (Or.inl x))) k2 (by omega) y
  refine ⟨S7, ?_, h7, by rw [n7, n6, n5]⟩
  have e2' : pR (na S 20 4) (some (A (18 + m) n)) 2 1 (some S.2) = some S2 := by rw [← ha.1]; exact e2
  have e4' : pR (na S2 20 4) (some (A (18 + m) n)) 2 2 (some S2.2) = some S4 := by rw [show S2.2 = A (26 + m) n by rw [ha.2.1, n2, n1]]; exact e4
  have e6' : pR (na S4 20 4) (some (A (18 + m) n)) 2 3 (some S4.2) = some S6 := by rw [show S4.2 = A (30 + m) n by rw [ha.2.2, n4, n3]]; exact e6
  unfold f_X2_init
  rw [e2', qqx, e4', qqx, e6', qqx, e7, qqx]
theorem in2K_at (K : kS) (m n : Nat) (x : Int32) : ((in2K K m n x).1 (18 + m) n 0 = x ∧ ∀ j, j ≠ 0 → (in2K K m n x).1 (18 + m) n j = K.1 (18 + m) n j) ∧ ((in2K K m n x).2 (18 + m) n 1 = some (22 + m, n) ∧ (in2K K m n x).2 (18 + m) n 2 = some (26 + m, n) ∧ (in2K K m n x).2 (18 + m) n 3 = some (30 + m, n) ∧ ∀ j, ¬ (1 ≤ j ∧ j ≤ 3) → (in2K K m n x).2 (18 + m) n j = K.2 (18 + m) n j) := by
  unfold in2K
  refine ⟨⟨kwI_s _ _ _ _ _, fun j hj => ?_⟩, ?_, ?_, ?_, fun j hj => ?_⟩
  · rw [kwI_row (by omega), kwR_1, kNw_i (by omega), kwR_1, kNw_i (by omega), kwR_1, kNw_i (by omega)]
  · rw [kwI_2, kwR_row (by omega), kNw_r (by omega), kwR_row (by omega), kNw_r (by omega), kwR_ss]
  · rw [kwI_2, kwR_row (by omega), kNw_r (by omega), kwR_ss]
  · rw [kwI_2, kwR_ss]
  · rw [kwI_2, kwR_row (by omega), kNw_r (by omega), kwR_row (by omega), kNw_r (by omega), kwR_row (by omega), kNw_r (by omega)]
theorem in2K_b {PI PR : Nat → Nat → Nat → Prop} (b : kB PI PR K K') {m n : Nat} (h : ∀ a d, (a = 18 + m ∨ a = 22 + m ∨ a = 26 + m ∨ a = 30 + m) → PI a n d ∧ PR a n d) (x : Int32) : kB PI PR K (in2K K' m n x) := by
  unfold in2K
  exact ((((((b.nw (fun _ => (h _ _ (by omega)).1) (fun _ => (h _ _ (by omega)).2)).R (h _ _ (by omega)).2).nw (fun _ => (h _ _ (by omega)).1) (fun _ => (h _ _ (by omega)).2)).R (h _ _ (by omega)).2).nw (fun _ => (h _ _ (by omega)).1) (fun _ => (h _ _ (by omega)).2)).R (h _ _ (by omega)).2).I (h _ _ (by omega)).1
theorem c_addCompound (hA : KA A ex K S) {q : Nat} (hm : q + 1 < 4) (d : drC ex K n q c) (hx : ¬ ex (18 + (q + 1)) n ∧ ¬ ex (22 + (q + 1)) n ∧ ¬ ex (26 + (q + 1)) n ∧ ¬ ex (30 + (q + 1)) n) (ha : A (18 + (q + 1)) n = S.2 ∧ A (22 + (q + 1)) n = S.2 + 1 ∧ A (26 + (q + 1)) n = S.2 + 2 ∧ A (30 + (q + 1)) n = S.2 + 3) (h0 : S.2 ≠ 0) (k2 : K.1 17 n 2 = nI (q + 1)) {o : Bool} (h7 : K.1 17 n 7 = b2 o) {y : Nat} (hy : y < 4) : ∃ S' K', f_X7_addCompound (A 17 n) (nI y) S = some S' ∧ KA A (exJ ex (q + 1) n) K' S' ∧ kB (jnI n (q + 1)) (jnR n (q + 1)) K K' ∧
    (K'.2 17 n 1 = some (18 + (q + 1), n) ∧ K'.1 17 n 2 = nI (q + 1 + 1)) ∧ (K'.1 (18 + (q + 1)) n 0 = nI y ∧ K'.1 (18 + (q + 1)) n 4 = 0 ∧ K'.1 (18 + (q + 1)) n 5 = 0 ∧ K'.1 (18 + (q + 1)) n 6 = 0 ∧ K'.1 (18 + (q + 1)) n 7 = 0 ∧ K'.1 (18 + (q + 1)) n 8 = 0) ∧ (K'.2 (18 + (q + 1)) n 1 = some (22 + (q + 1), n) ∧ K'.2 (18 + (q + 1)) n 2 = some (26 + (q + 1), n) ∧ K'.2 (18 + (q + 1)) n 3 = some (30 + (q + 1), n) ∧ K'.2 (18 + (q + 1)) n 9 = none) ∧ (∀ r, r + 1 = q + 1 → K'.2 (18 + r) n 9 = some (18 + (q + 1), n)) ∧ K'.1 17 n 7 = K.1 17 n 7 ||| b2 (decide (1 < y)) := by
  obtain ⟨⟨d1, d2, d3, d4, d5⟩, hk, ⟨r1, r2, r3, r4⟩, hc4⟩ := id d
  obtain ⟨t1, t2, t3, t4⟩ := kT18 hm
  have kq : (kT (18 + q)).1 = 2 := by rw [(kT18 hk).1]
  have h1 := hA.al t1 hx.1 ha.1 h0
  have n1 : (na S 2 0).2 = S.2 + 1 := rfl
  obtain ⟨S2, e2, h2, n2⟩ := c_init2 h1 hm (Or.inr ⟨rfl, rfl⟩) ⟨fun z => z.elim hx.2.1 (by omega), fun z => z.elim hx.2.2.1 (by omega), fun z => z.elim hx.2.2.2 (by omega)⟩ ⟨by rw [n1]; exact ha.2.1, by rw [n1]; exact ha.2.2.1, by rw [n1]; exact ha.2.2.2⟩ (by rw [n1]; omega) (nI y)
  obtain ⟨⟨i0, io⟩, i1, i2, i3, iR⟩ := in2K_at (kNw K (18 + (q + 1)) n) (q + 1) n (nI y)
  have b2' : kB (jnI n (q + 1)) (jnR n (q + 1)) K (in2K (kNw K (18 + (q + 1)) n) (q + 1) n (nI y)) := in2K_b ((kB.rf K).nw (fun _ => by unfold jnI; omega) (fun _ => by unfold jnR; omega)) (fun a d h => ⟨by unfold jnI; omega, by unfold jnR; omega⟩) _
  have i9 : (in2K (kNw K (18 + (q + 1)) n) (q + 1) n (nI y)).2 (18 + (q + 1)) n 9 = none := by rw [iR 9 (by omega), kNw_rs]
  have iz : ∀ j, j ≠ 0 → (in2K (kNw K (18 + (q + 1)) n) (q + 1) n (nI y)).1 (18 + (q + 1)) n j = 0 := fun j hj => by rw [io j hj, kNw_is]
  have i17 : ∀ j, (in2K (kNw K (18 + (q + 1)) n) (q + 1) n (nI y)).1 17 n j = K.1 17 n j := fun j => by
    unfold in2K
    rw [kwI_row (by omega), kwR_1, kNw_i (by omega), kwR_1, kNw_i (by omega), kwR_1, kNw_i (by omega), kNw_i (by omega)]
  have i17R : ∀ j, (in2K (kNw K (18 + (q + 1)) n) (q + 1) n (nI y)).2 17 n j = K.2 17 n j := fun j => by
    unfold in2K
    rw [kwI_2, kwR_row (by omega), kNw_r (by omega), kwR_row (by omega), kNw_r (by omega), kwR_row (by omega), kNw_r (by omega), kNw_r (by omega)]
  have X : ∀ a b, ex a b → exU (exU (exU (exU ex (18 + (q + 1)) n) (22 + (q + 1)) n) (26 + (q + 1)) n) (30 + (q + 1)) n a b := fun a b h => Or.inl (Or.inl (Or.inl (Or.inl h)))
  have xN : exU (exU (exU (exU ex (18 + (q + 1)) n) (22 + (q + 1)) n) (26 + (q + 1)) n) (30 + (q + 1)) n (18 + (q + 1)) n := Or.inl (Or.inl (Or.inl (Or.inr ⟨rfl, rfl⟩)))
  generalize in2K (kNw K (18 + (q + 1)) n) (q + 1) n (nI y) = K2 at h2 i0 io i1 i2 i3 iR b2' i9 iz i17 i17R
  obtain ⟨S3, e3, h3⟩ := h2.PR (k := 18 + q) (i := n) (t := 2) (j := 9) (X _ _ d2) kq (by omega) (some (18 + (q + 1), n)) (fun r z => by cases z; exact xN)
  obtain ⟨S4, e4, h4⟩ := h3.PR (k := 17) (i := n) (t := 7) (j := 1) (X _ _ d1) rfl (by decide) (some (18 + (q + 1), n)) (fun r z => by cases z; exact xN)
  obtain ⟨S5, e5, h5⟩ := h4.PI (k := 17) (i := n) (t := 7) (j := 2) (X _ _ d1) rfl (by decide) (nI (q + 1 + 1))
  obtain ⟨S6, e6, h6⟩ := h5.PI (k := 17) (i := n) (t := 7) (j := 7) (X _ _ d1) rfl (by decide) (K.1 17 n 7 ||| b2 (decide (1 < y)))
  have e6' : pZ S5 (some (A 17 n)) 7 7 (K.1 17 n 7 ||| b2 (decide (1 < y))) = some S6 := by
    rw [h7, b2_or] at e6 ⊢
    rw [pZ_b2]; exact e6
  have g1 : gR S (some (A 17 n)) 7 1 = some (some (A (18 + q) n)) := d.l hA rfl
  have rcN : rc (na S 2 0) (some (A (18 + (q + 1)) n)) 2 = some (A (18 + (q + 1)) n) := h1.Rc (18 + (q + 1)) 2 (Or.inr ⟨rfl, rfl⟩) (by rw [t1])
  have g3 : gR S3 (some (A 17 n)) 7 1 = some (some (A (18 + q) n)) := by rw [h3.R 17 7 (X _ _ d1) rfl, kwR_row (by omega), i17R, r1]; rfl
  have g39 : gR S3 (some (A (18 + q) n)) 2 9 = some (some (A (18 + (q + 1)) n)) := by rw [h3.R (18 + q) 2 (X _ _ d2) kq, kwR_ss]; rfl
  have g42 : gI S4 (some (A 17 n)) 7 2 = some (nI (q + 1)) := by rw [h4.I 17 7 (X _ _ d1) rfl, kwR_1, kwR_1, i17, k2]
  have g57 : gI S5 (some (A 17 n)) 7 7 = some (K.1 17 n 7) := by rw [h5.I 17 7 (X _ _ d1) rfl, kwI_j (by decide), kwR_1, kwR_1, i17]
  have e3' : pR S2 (some (A (18 + q) n)) 2 9 (some (A (18 + (q + 1)) n)) = some S3 := e3
  have e4' : pR S3 (some (A 17 n)) 7 1 (some (A (18 + (q + 1)) n)) = some S4 := e4
  refine ⟨S6, _, ?_, h6, (((b2'.R (by unfold jnR; omega)).R (by unfold jnR; omega)).I (by unfold jnI; omega)).I (by unfold jnI; omega), ⟨?_, ?_⟩, ⟨?_, ?_, ?_, ?_, ?_, ?_⟩, ⟨?_, ?_, ?_, ?_⟩, fun r hr => ?_, kwI_s _ _ _ _ _⟩
  · unfold f_X7_addCompound f_X7_addCompound_51 f_X7_addCompound_56
    rw [g1, qqx, nw_na, ← ha.1, rcN, qqx, e2, qqx, e3', qqx, g3, qqx, g39, qqx, e4', qqx, g42, qqx, nI_1, e5, qqx, g57, qqx]
    have q4 : y = 0 ∨ y = 1 ∨ y = 2 ∨ y = 3 := by omega
    rcases q4 with rfl | rfl | rfl | rfl
    · rw [if_neg (by decide), if_neg (by decide)]
      have e : pZ S5 (some (A 17 n)) 7 7 (K.1 17 n 7 ||| 0) = some S6 := e6'
      rw [e, qqx]
    · rw [if_neg (by decide), if_neg (by decide)]
      have e : pZ S5 (some (A 17 n)) 7 7 (K.1 17 n 7 ||| 0) = some S6 := e6'
      rw [e, qqx]
    · rw [if_pos (by decide)]
      have e : pZ S5 (some (A 17 n)) 7 7 (K.1 17 n 7 ||| 1) = some S6 := e6'
      rw [e, qqx]
    · rw [if_neg (by decide), if_pos (by decide)]
      have e : pZ S5 (some (A 17 n)) 7 7 (K.1 17 n 7 ||| 1) = some S6 := e6'
      rw [e, qqx]
  · rw [kwI_2, kwI_2, kwR_ss]
  · rw [kwI_j (by decide), kwI_s]
  · rw [kwI_row (by omega), kwI_row (by omega), kwR_1, kwR_1, i0]
  · rw [kwI_row (by omega), kwI_row (by omega), kwR_1, kwR_1, iz 4 (by decide)]
  · rw [kwI_row (by omega), kwI_row (by omega), kwR_1, kwR_1, iz 5 (by decide)]
  · rw [kwI_row (by omega), kwI_row (by omega), kwR_1, kwR_1, iz 6 (by decide)]
  · rw [kwI_row (by omega), kwI_row (by omega), kwR_1, kwR_1, iz 7 (by decide)]
  · rw [kwI_row (by omega), kwI_row (by omega), kwR_1, kwR_1, iz 8 (by decide)]
  · rw [kwI_2, kwI_2, kwR_row (by omega), kwR_row (by omega), i1]
  · rw [kwI_2, kwI_2, kwR_row (by omega), kwR_row (by omega), i2]
  · rw [kwI_2, kwI_2, kwR_row (by omega), kwR_row (by omega), i3]
  · rw [kwI_2, kwI_2, kwR_row (by omega), kwR_row (by omega), i9]
  · have : r = q := by omega
    rw [this, kwI_2, kwI_2, kwR_row (by omega), kwR_ss]
def P_jn (T : qqT) (G : qqG) (σ : mS) (T' : qqT) (G' : qqG) (σ' : mS) : Prop := T' = T ∧ G' = G ∧ ∃ m y, m = nC σ 30 ∧ 1 ≤ m ∧ m < 4 ∧ y < 4 ∧ σ' = up (up (sf σ 81 0) 15 (120 + m) (nI y)) 14 30 (nI (m + 1))
theorem sq_join {T : qqT} {G : qqG} {L : qqL} {A : kA} {ex : Nat → Nat → Prop} {K : kS} {v nw9 k : Nat} {S : cS} {σ : mS} (w : JW k T G L A ex K v nw9 S σ) (a1 : Int32) : sJR [0, 1] lvN (JP (pf T G σ (P_jn T G σ)) (k + 1)) (f_X11_join 1 a1 S) (f_join a1 σ) := by
  obtain ⟨⟨hw, hA, hin⟩, h49, ⟨hv, hn, h54⟩, j⟩ := id w
  have h30 := hw.n30
  have q9 := j.1.1
  have df := j.2.2.2.2.2.2.1
  obtain ⟨q, c, hq, hc, hc4, hq4, h14, h16, d⟩ := drf j
  have x49 : ex 49 0 := q9.2.1.x (by decide) (by decide) (by decide)
  refine at49 (P := fun x => sJR [0, 1] lvN (JP (pf T G σ (P_jn T G σ)) (k + 1)) (f_X11_join x a1 S) (f_join a1 σ)) h49 ?_
  unfold f_X11_join f_join f_join_36
  have r1 : f_join_41 a1 1 σ = some (-1, sf σ 81 1) := by unfold f_join_41; rw [r_holds1, qqx]; rfl
  have r2 : f_join_41 a1 2 σ = some (-1, sf σ 81 2) := by unfold f_join_41; rw [r_holds2, qqx]; rfl
  rw [r_in0 a1 (n := 4) (by decide) (by decide), qqx, r1, r2]
  show sJR _ _ _ ((f_X11_isBelow a1 (nI 4)).bind _) _
  rw [c_isBelow, qqx]
  unfold f_X11_join_13
  rcases ix_cases a1 (n := 4) (by decide) with ⟨y, hy, rfl⟩ | hx
  · rw [if_dt (nI_inn hy (by decide)), if_dt (nI_inn hy (by decide)), c_refA0, qqx, show (30 : Int32) = nI 30 from rfl, rd_14 (by decide), qqx, h14, rd_21 (by decide), qqx]
    have g52 : gR S (some (A 52 0)) 5 3 = some (some (A 17 (Gs G))) := by
      rw [hA.R 52 5 (q9.2.1.x (by decide) (by decide) (by decide)) rfl, df.1.2.2.1]; rfl
    have k2 : K.1 17 (Gs G) 2 = nI (q + 1) := by rw [df.1.1.1.2.2.2.1, ← hq]
    have g2 : gI S (some (A 17 (Gs G))) 7 2 = some (nI (q + 1)) := by rw [d.dI hA, k2]
    have g4 : gI S (some (A 17 (Gs G))) 7 4 = some (σ.1 21 30) := by rw [d.dI hA, df.1.1.1.2.2.2.2.1]
    show sJR _ _ _ ((gR S (some (A 49 0)) 11 1).bind _) _
    rw [q9.2.1.matcher hA, qqx, g52, qqx, g2, qqx]
    have full : sJR [0, 1] lvN (JP (pf T G σ (P_jn T G σ)) (k + 1)) (f_X11_join_40 (A 49 0) (nI y) (some (A 17 (Gs G))) S) (some (-1, sf σ 81 2)) := by
      unfold f_X11_join_40 f_X11_join_45
      rw [c_refS1, qqx]
      exact sJR.l rfl (w.no 2)
    by_cases c4 : q + 1 = 4
    · rw [if_pos (show (4 : Int32) ≤ nI (q + 1) by rw [c4]; decide), if_pos (show nI (q + 1) = 4 by rw [c4]; rfl)]
      exact full
    · rw [if_neg (show ¬ (4 : Int32) ≤ nI (q + 1) from nI_ge (b := 4) (by omega) (by decide)), if_neg (show ¬ nI (q + 1) = 4 from fun z => c4 ((nI_eqE (b := 4) (by omega) (by decide)).mp z)), g4, qqx]
      rcases df.1.2.1.2.1 with h | ⟨p, hp4, h⟩
      · rw [h, if_pos rfl, if_pos (show (-1 : Int32) < 0 by decide)]
        have j0 := j.scR (scR_sf σ 0)
        have hS0 : S.2 ≠ 0 := by have := (hA.1 49 0 x49).2.1; omega
        obtain ⟨u1, u2, u3, u4⟩ := j.2.2.2.2.2.2.2.1.2.2.2.2.1 (q + 1) (by omega) (by omega)
        obtain ⟨A', hAA, hAn⟩ : ∃ A' : kA, (∀ a b, ex a b → A' a b = A a b) ∧ (A' (18 + (q + 1)) (Gs G) = S.2 ∧ A' (22 + (q + 1)) (Gs G) = S.2 + 1 ∧ A' (26 + (q + 1)) (Gs G) = S.2 + 2 ∧ A' (30 + (q + 1)) (Gs G) = S.2 + 3) := by
          refine ⟨fun a b => if b = Gs G ∧ a = 18 + (q + 1) then S.2 else if b = Gs G ∧ a = 22 + (q + 1) then S.2 + 1 else if b = Gs G ∧ a = 26 + (q + 1) then S.2 + 2 else if b = Gs G ∧ a = 30 + (q + 1) then S.2 + 3 else A a b, fun a b hx => ?_, ?_, ?_, ?_, ?_⟩
          · show (if _ then _ else _) = _
            rw [if_neg (fun z => u1 (by rw [← z.1, ← z.2]; exact hx)), if_neg (fun z => u2 (by rw [← z.1, ← z.2]; exact hx)), if_neg (fun z => u3 (by rw [← z.1, ← z.2]; exact hx)), if_neg (fun z => u4 (by rw [← z.1, ← z.2]; exact hx))]
          · exact if_pos ⟨rfl, rfl⟩
          · show (if _ then _ else _) = _
            rw [if_neg (by omega), if_pos ⟨rfl, rfl⟩]
          · show (if _ then _ else _) = _
            rw [if_neg (by omega), if_neg (by omega), if_pos ⟨rfl, rfl⟩]
          · show (if _ then _ else _) = _
            rw [if_neg (by omega), if_neg (by omega), if_neg (by omega), if_pos ⟨rfl, rfl⟩]
        have h1' := hA.chA hAA
        obtain ⟨o, ho⟩ := df.2.2.2.1.b
        obtain ⟨S', K', f1, f2, f3, f4, f5, f6, f7, f8⟩ := c_addCompound h1' (by omega) d ⟨u1, u2, u3, u4⟩ hAn hS0 k2 ho hy
        rw [hAA 17 _ d.1.1] at f1
        have s : jnS (sf σ 81 0) (up (up (sf σ 81 0) 15 (120 + (q + 1)) (nI y)) 14 30 (nI (q + 1 + 1))) (q + 1) y := by
          refine ⟨((sB.rf _).up (by simp)).up (by simp), ?_, fun s hs => ?_, ?_, fun i hi => ?_⟩
          · rw [up_s, if_pos rfl]
          · rw [up_s, if_neg hs, up_o (by decide)]
          · rw [up_o (by decide), up_s, if_pos rfl]
          · rw [up_o (by decide), up_s, if_neg hi]
        have j1 := j0.jn rfl hq (by omega) hy s f3 f4 f5 f6 f7 f8
        have ref : f_join_41 (nI y) 0 σ = some (nI (q + 1 + 1), up (up (sf σ 81 0) 15 (120 + (q + 1)) (nI y)) 14 30 (nI (q + 1 + 1))) := by
          have h14' : (sf σ 81 0).1 14 30 = nI (q + 1) := h14
          unfold f_join_41
          rw [r_holds0, qqx, if_pos rfl, show (30 : Int32) = nI 30 from rfl, rd_14 (by decide), qqx, h14', show (120 : Int32) = nI 120 from rfl, nI_add, wr_15 (by omega), qqx, rd_14 (by decide), qqx, up_o (by decide), h14', nI_1, wr_14 (by decide), qqx, rd_14 (by decide), qqx, up_s, if_pos rfl]
        rw [ref]
        unfold f_X11_join_45
        rw [c_refS0, qqx]
        show sJR _ _ _ ((rc S (some (A 17 (Gs G))) 7).bind _) _
        have x17' : exJ ex (q + 1) (Gs G) 17 (Gs G) := (exJ_i _ _).mpr (Or.inl d.1.1)
        have g2' : gI S' (some (A 17 (Gs G))) 7 2 = some (nI (q + 1 + 1)) := by
          rw [← hAA 17 _ d.1.1, f2.I 17 7 x17' rfl, f4.2]
        rw [d.dR hA, qqx, f1, qqx, g2', qqx]
        refine sJR.r rfl rfl (fun n hn1 => ⟨T, G, L, A', _, _, v, nw9, ⟨⟨hw, f2.mono hn1, kIn_ex (fun a b h => (exJ_i _ _).mpr (Or.inl h)) hAA (hin.kp f3 (fun i j => by unfold jnI; omega))⟩, (hAA 49 0 x49).trans h49, ⟨by omega, hn, h54⟩, j1⟩, Or.inr ⟨rfl, rfl, rfl, q + 1, y, hq, by omega, by omega, hy, rfl⟩⟩)
      · rw [h, if_neg (nI_m1 (by omega)), if_neg (nI_pos (by omega))]
        exact full
  · rw [if_df hx, if_df hx, c_refA1, qqx]
    exact sJR.l rfl (w.no 1)
end JN2
