def n7P (n k i _j : Nat) : Prop := 7 ≤ k ∧ k ≤ 10 ∧ i = n
def n6P (n k i _j : Nat) : Prop := 6 ≤ k ∧ k ≤ 10 ∧ i = n
section MK3
variable {T : qqT} {G : qqG} {L : qqL} {A A' : kA} {ex ex' : Nat → Nat → Prop} {K K' : kS} {S S' : cS} {σ σ' : mS} {v v' n k nw9 : Nat} {x : Int32}
theorem c_init9 (hA : KA A ex K S) (x6 : ex 6 n) (hn : ∀ k, 7 ≤ k → k ≤ 10 → ¬ ex k n) (ha : A 7 n = S.2 ∧ A 8 n = S.2 + 1 ∧ A 9 n = S.2 + 2 ∧ A 10 n = S.2 + 3) (h0 : S.2 ≠ 0) : ∃ S' K', f_X9_init (A 6 n) S = some S' ∧ KA A (exU (exU (exU (exU ex 7 n) 8 n) 9 n) 10 n) K' S' ∧ kB (n7P n) (n6P n) K K' ∧ (K'.2 6 n 0 = some (7, n) ∧ K'.2 6 n 5 = some (8, n) ∧ K'.2 6 n 6 = some (9, n) ∧ K'.2 6 n 7 = some (10, n)) ∧ ∀ k, 7 ≤ k → k ≤ 10 → ∀ d, K'.1 k n d = 0 := by
  obtain ⟨a7, a8, a9, a10⟩ := ha
  have h1 := hA.al (k := 7) (i := n) (t := 20) (N := 15) rfl (hn 7 (by decide) (by decide)) a7 h0
  obtain ⟨S2, e2, h2, n2⟩ := h1.PR2 (k := 6) (i := n) (t := 9) (j := 0) (Or.inl x6) rfl (by decide) (some (7, n)) (fun r z => by cases z; exact Or.inr ⟨rfl, rfl⟩)
  have m2 : S2.2 = S.2 + 1 := by rw [n2, na_2]
  have h3 := h2.al (k := 8) (i := n) (t := 20) (N := 5) rfl (fun z => z.elim (hn 8 (by decide) (by decide)) (by omega)) (by rw [a8, m2]) (by omega)
  obtain ⟨S4, e4, h4, n4⟩ := h3.PR2 (k := 6) (i := n) (t := 9) (j := 5) (Or.inl (Or.inl x6)) rfl (by decide) (some (8, n)) (fun r z => by cases z; exact Or.inr ⟨rfl, rfl⟩)
  have m4 : S4.2 = S.2 + 2 := by rw [n4, na_2, m2]
  have h5 := h4.al (k := 9) (i := n) (t := 20) (N := 5) rfl (fun z => z.elim (fun z => z.elim (hn 9 (by decide) (by decide)) (by omega)) (by omega)) (by rw [a9, m4]) (by omega)
  obtain ⟨S6, e6, h6, n6⟩ := h5.PR2 (k := 6) (i := n) (t := 9) (j := 6) (Or.inl (Or.inl (Or.inl x6))) rfl (by decide) (some (9, n)) (fun r z => by cases z; exact Or.inr ⟨rfl, rfl⟩)
  have m6 : S6.2 = S.2 + 3 := by rw [n6, na_2, m4]
  have h7 := h6.al (k := 10) (i := n) (t := 20) (N := 5) rfl (fun z => z.elim (fun z => z.elim (fun z => z.elim (hn 10 (by decide) (by decide)) (by omega)) (by omega)) (by omega)) (by rw [a10, m6]) (by omega)
  obtain ⟨S8, e8, h8, n8⟩ := h7.PR2 (k := 6) (i := n) (t := 9) (j := 7) (Or.inl (Or.inl (Or.inl (Or.inl x6)))) rfl (by decide) (some (10, n)) (fun r z => by cases z; exact Or.inr ⟨rfl, rfl⟩)
  have e2' : pR (na S 20 15) (some (A 6 n)) 9 0 (some S.2) = some S2 := by rw [← a7]; exact e2
  have e4' : pR (na S2 20 5) (some (A 6 n)) 9 5 (some S2.2) = some S4 := by rw [show S2.2 = A 8 n by rw [a8, m2]]; exact e4
  have e6' : pR (na S4 20 5) (some (A 6 n)) 9 6 (some S4.2) = some S6 := by rw [show S4.2 = A 9 n by rw [a9, m4]]; exact e6
  have e8' : pR (na S6 20 5) (some (A 6 n)) 9 7 (some S6.2) = some S8 := by rw [show S6.2 = A 10 n by rw [a10, m6]]; exact e8
  have I : ∀ k, 7 ≤ k → k ≤ 10 → ∀ d, n7P n k n d := fun k h1 h2 _ => ⟨h1, h2, rfl⟩
  have R : ∀ k, 6 ≤ k → k ≤ 10 → ∀ d, n6P n k n d := fun k h1 h2 _ => ⟨h1, h2, rfl⟩
  refine ⟨S8, _, ?_, h8, (((((((((kB.rf K).nw (I 7 (by decide) (by decide)) (R 7 (by decide) (by decide))).R (R 6 (by decide) (by decide) _)).nw (I 8 (by decide) (by decide)) (R 8 (by decide) (by decide))).R (R 6 (by decide) (by decide) _)).nw (I 9 (by decide) (by decide)) (R 9 (by decide) (by decide))).R (R 6 (by decide) (by decide) _)).nw (I 10 (by decide) (by decide)) (R 10 (by decide) (by decide))).R (R 6 (by decide) (by decide) _)), ⟨?_, ?_, ?_, ?_⟩, fun k h1 h2 d => ?_⟩
  · unfold f_X9_init
    rw [e2', qqx, e4', qqx, e6', qqx, e8', qqx]
  · rw [kwR_row (by omega), kNw_r (by omega), kwR_row (by omega), kNw_r (by omega), kwR_row (by omega), kNw_r (by omega), kwR_ss]
  · rw [kwR_row (by omega), kNw_r (by omega), kwR_row (by omega), kNw_r (by omega), kwR_ss]
  · rw [kwR_row (by omega), kNw_r (by omega), kwR_ss]
  · rw [kwR_ss]
  · have : k = 7 ∨ k = 8 ∨ k = 9 ∨ k = 10 := by omega
    rcases this with rfl | rfl | rfl | rfl
    · rw [kwR_1, kNw_i (by omega), kwR_1, kNw_i (by omega), kwR_1, kNw_i (by omega), kwR_1, kNw_is]
    · rw [kwR_1, kNw_i (by omega), kwR_1, kNw_i (by omega), kwR_1, kNw_is]
    · rw [kwR_1, kNw_i (by omega), kwR_1, kNw_is]
    · rw [kwR_1, kNw_is]
def m0P (n k i _j : Nat) : Prop := k ≤ 10 ∧ i = n
theorem c_init3 (hA : KA A ex K S) (hn : ∀ k, k ≤ 10 → ¬ ex k n) (ha : ∀ k, k ≤ 10 → A k n = S.2 + k) (h0 : S.2 ≠ 0) (y x : Int32) : ∃ S' K' ex', rc (nw S 3) (some S.2) 3 = some (A 0 n) ∧ f_X3_init (A 0 n) y x (nw S 3) = some S' ∧ KA A ex' K' S' ∧ (∀ a c, ex' a c ↔ (ex a c ∨ (a ≤ 10 ∧ c = n))) ∧ kB (m0P n) (m0P n) K K' ∧
    (K'.1 0 n 0 = y ∧ K'.1 0 n 1 = x ∧ K'.1 0 n 2 = 0 ∧ K'.1 0 n 3 = 0 ∧ K'.1 0 n 4 = -1 ∧ K'.1 0 n 5 = -1 ∧ K'.1 0 n 6 = -1 ∧ K'.1 0 n 7 = 0 ∧ K'.1 0 n 14 = 1) ∧ ((∀ d, 8 ≤ d → d ≤ 17 → K'.2 0 n d = none) ∧ K'.2 0 n 18 = some (1, n) ∧ K'.2 0 n 19 = some (6, n)) ∧
    (K'.1 1 n 3 = 2 ∧ K'.1 1 n 6 = 0 ∧ K'.1 1 n 12 = 0) ∧ (K'.2 1 n 1 = none ∧ K'.2 1 n 2 = none ∧ K'.2 1 n 8 = some (2, n) ∧ K'.2 1 n 9 = some (3, n) ∧ K'.2 1 n 10 = some (4, n) ∧ K'.2 1 n 11 = some (5, n)) ∧
    (∀ k, 6 ≤ k → k ≤ 10 → ∀ d, K'.1 k n d = 0) ∧ (K'.2 6 n 0 = some (7, n) ∧ K'.2 6 n 5 = some (8, n) ∧ K'.2 6 n 6 = some (9, n) ∧ K'.2 6 n 7 = some (10, n)) := by
  have h1 := hA.al (k := 0) (i := n) (t := 3) (N := 0) rfl (hn 0 (by decide)) (ha 0 (by decide)) h0
  have x0 : exU ex 0 n 0 n := Or.inr ⟨rfl, rfl⟩
  obtain ⟨S2, e2, h2, n2⟩ := h1.PI2 (k := 0) (i := n) (t := 3) (j := 4) x0 rfl (by decide) (-1)
  obtain ⟨S3, e3, h3, n3⟩ := h2.PI2 (k := 0) (i := n) (t := 3) (j := 5) x0 rfl (by decide) (-1)
  obtain ⟨S4, e4, h4, n4⟩ := h3.PI2 (k := 0) (i := n) (t := 3) (j := 6) x0 rfl (by decide) (-1)
  obtain ⟨S5, e5, h5, n5⟩ := h4.PI2 (k := 0) (i := n) (t := 3) (j := 14) x0 rfl (by decide) 1
  have m5 : S5.2 = S.2 + 1 := by rw [n5, n4, n3, n2, na_2]
  have rc0 : rc (na S 3 0) (some (A 0 n)) 3 = some (A 0 n) := h1.Rc 0 3 x0 rfl
  have q4 : (∀ d, d ≠ 4 → d ≠ 5 → d ≠ 6 → d ≠ 14 → (kwI (kwI (kwI (kwI (kNw K 0 n) 0 n 4 (-1)) 0 n 5 (-1)) 0 n 6 (-1)) 0 n 14 1).1 0 n d = 0) ∧ (kwI (kwI (kwI (kwI (kNw K 0 n) 0 n 4 (-1)) 0 n 5 (-1)) 0 n 6 (-1)) 0 n 14 1).1 0 n 4 = -1 ∧ (kwI (kwI (kwI (kwI (kNw K 0 n) 0 n 4 (-1)) 0 n 5 (-1)) 0 n 6 (-1)) 0 n 14 1).1 0 n 5 = -1 ∧ (kwI (kwI (kwI (kwI (kNw K 0 n) 0 n 4 (-1)) 0 n 5 (-1)) 0 n 6 (-1)) 0 n 14 1).1 0 n 6 = -1 ∧ (kwI (kwI (kwI (kwI (kNw K 0 n) 0 n 4 (-1)) 0 n 5 (-1)) 0 n 6 (-1)) 0 n 14 1).1 0 n 14 = 1 ∧ ∀ d, (kwI (kwI (kwI (kwI (kNw K 0 n) 0 n 4 (-1)) 0 n 5 (-1)) 0 n 6 (-1)) 0 n 14 1).2 0 n d = none := by
    refine ⟨fun d d1 d2 d3 d4 => ?_, ?_, ?_, ?_, ?_, fun d => ?_⟩
    · rw [kwI_j d4, kwI_j d3, kwI_j d2, kwI_j d1, kNw_is]
    · rw [kwI_j (by decide), kwI_j (by decide), kwI_j (by decide), kwI_s]
    · rw [kwI_j (by decide), kwI_j (by decide), kwI_s]
    · rw [kwI_j (by decide), kwI_s]
    · rw [kwI_s]
    · rw [kwI_2, kwI_2, kwI_2, kwI_2, kNw_rs]
  have P : ∀ k, k ≤ 10 → ∀ d, m0P n k n d := fun k h _ => ⟨h, rfl⟩
  have b4 : kB (m0P n) (m0P n) K (kwI (kwI (kwI (kwI (kNw K 0 n) 0 n 4 (-1)) 0 n 5 (-1)) 0 n 6 (-1)) 0 n 14 1) := (((((kB.rf K).nw (P 0 (by decide)) (P 0 (by decide))).I (P 0 (by decide) _)).I (P 0 (by decide) _)).I (P 0 (by decide) _)).I (P 0 (by decide) _)
  generalize kwI (kwI (kwI (kwI (kNw K 0 n) 0 n 4 (-1)) 0 n 5 (-1)) 0 n 6 (-1)) 0 n 14 1 = K4 at h5 q4 b4
  have nx : ∀ k, 1 ≤ k → k ≤ 10 → ¬ exU ex 0 n k n := fun k h1 h2 z => z.elim (hn k h2) (by omega)
  have h6 := h5.al (k := 1) (i := n) (t := 6) (N := 0) rfl (nx 1 (by decide) (by decide)) (by rw [ha 1 (by decide), m5]) (by omega)
  have ct : ∀ t, 1 ≤ t → t ≤ 4 → kT (1 + t) = (20, 15) := fun t t1 t4 => by
    have : t = 1 ∨ t = 2 ∨ t = 3 ∨ t = 4 := by omega
    rcases this with rfl | rfl | rfl | rfl <;> rfl
  have m6 : (na S5 6 0).2 = S.2 + 2 := by rw [na_2, m5]
  obtain ⟨S7, e7, h7, n7⟩ := c_initRule h6 (c := 1) (i := n) (Or.inr ⟨rfl, rfl⟩) rfl (by decide) ct (fun t t1 t4 z => z.elim (nx (1 + t) (by omega) (by omega)) (by omega)) (fun t t1 t4 => by rw [ha (1 + t) (by omega), m6]; omega) (by rw [m6]; omega) (f := none) (s := none) (fun q z => by cases z) (fun q z => by cases z) (-1) (o := 2) ⟨(fun _ => rfl), (fun q z => by cases z)⟩ (fun t ht => by omega)
  have m7 : S7.2 = S.2 + 6 := by rw [n7, m6]
  obtain ⟨i0, i3, i4, io⟩ := iruK_I (kNw K4 1 n) 1 n (-1) none none 2
  obtain ⟨r1, r2, r8, r9, r10, r11, rO⟩ := iruK_R (kNw K4 1 n) 1 n (-1) none none 2
  have b7 : kB (fun k i _ => 1 ≤ k ∧ k ≤ 5 ∧ i = n) (fun k i _ => 1 ≤ k ∧ k ≤ 5 ∧ i = n) K4 (iruK (kNw K4 1 n) 1 n (-1) none none 2) := iruK_b ((kB.rf K4).nw (fun _ => ⟨by decide, by decide, rfl⟩) (fun _ => ⟨by decide, by decide, rfl⟩)) (fun k j h1 h2 => ⟨h1, by omega, rfl⟩) (fun k j h1 h2 => ⟨h1, by omega, rfl⟩) _ _ _ _
  have z6 : (iruK (kNw K4 1 n) 1 n (-1) none none 2).1 1 n 6 = 0 ∧ (iruK (kNw K4 1 n) 1 n (-1) none none 2).1 1 n 12 = 0 := ⟨by rw [io 6 (by decide) (by decide) (by decide), kNw_is], by rw [io 12 (by decide) (by decide) (by decide), kNw_is]⟩
  have rcR : rc (na S5 6 0) (some (A 1 n)) 6 = some (A 1 n) := h6.Rc 1 6 (Or.inr ⟨rfl, rfl⟩) rfl
  have e7' : f_X6_init (A 1 n) (-1) none none (na S5 6 0) = some S7 := e7
  generalize iruK (kNw K4 1 n) 1 n (-1) none none 2 = K7 at h7 i0 i3 i4 r1 r2 r8 r9 r10 r11 b7 z6
  have X : ∀ a c, exR (exU (exU ex 0 n) 1 n) 1 n a c ↔ (ex a c ∨ (a ≤ 5 ∧ c = n)) := fun a c => by
    unfold exR exU
    constructor
    · rintro (((((h | h) | h) | h) | h) | h)
      · exact h.elim Or.inl (fun z => Or.inr (by omega))
      all_goals exact Or.inr (by omega)
    · rintro (h | ⟨h, h2⟩)
      · exact Or.inl (Or.inl (Or.inl (Or.inl (Or.inl (Or.inl h)))))
      · have : a = 0 ∨ a = 1 ∨ a = 2 ∨ a = 3 ∨ a = 4 ∨ a = 5 := by omega
        rcases this with rfl | rfl | rfl | rfl | rfl | rfl
        · exact Or.inl (Or.inl (Or.inl (Or.inl (Or.inl (Or.inr ⟨rfl, h2⟩)))))
        · exact Or.inl (Or.inl (Or.inl (Or.inl (Or.inr ⟨rfl, h2⟩))))
        · exact Or.inl (Or.inl (Or.inl (Or.inr ⟨rfl, h2⟩)))
        · exact Or.inl (Or.inl (Or.inr ⟨rfl, h2⟩))
        · exact Or.inl (Or.inr ⟨rfl, h2⟩)
        · exact Or.inr ⟨rfl, h2⟩
  generalize exR (exU (exU ex 0 n) 1 n) 1 n = exA at h7 X
  have xA0 : exA 0 n := (X _ _).mpr (Or.inr ⟨by decide, rfl⟩)
  obtain ⟨S8, e8, h8, n8⟩ := h7.PR2 (k := 0) (i := n) (t := 3) (j := 18) xA0 rfl (by decide) (some (1, n)) (fun r z => by cases z; exact (X _ _).mpr (Or.inr ⟨show (1 : Nat) ≤ 5 by decide, rfl⟩))
  have m8 : S8.2 = S.2 + 6 := by rw [n8, m7]
  have nA : ∀ k, 6 ≤ k → k ≤ 10 → ¬ exA k n := fun k h1 h2 z => ((X _ _).mp z).elim (hn k h2) (by omega)
  have h9 := h8.al (k := 6) (i := n) (t := 9) (N := 0) rfl (nA 6 (by decide) (by decide)) (by rw [ha 6 (by decide), m8]) (by omega)
  have m9 : (na S8 9 0).2 = S.2 + 7 := by rw [na_2, m8]
  obtain ⟨S10, K10, e10, h10, b10, r610, z10⟩ := c_init9 h9 (Or.inr ⟨rfl, rfl⟩) (fun k h1 h2 z => z.elim (nA k (by omega) h2) (by omega)) ⟨by rw [ha 7 (by decide), m9], by rw [ha 8 (by decide), m9], by rw [ha 9 (by decide), m9], by rw [ha 10 (by decide), m9]⟩ (by rw [m9]; omega)
  have rcS : rc (na S8 9 0) (some (A 6 n)) 9 = some (A 6 n) := h9.Rc 6 9 (Or.inr ⟨rfl, rfl⟩) rfl
  have Y : ∀ a c, exU (exU (exU (exU (exU exA 6 n) 7 n) 8 n) 9 n) 10 n a c ↔ (ex a c ∨ (a ≤ 10 ∧ c = n)) := fun a c => by
    unfold exU
    constructor
    · rintro (((((h | h) | h) | h) | h) | h)
      · exact ((X _ _).mp h).imp id (fun z => by omega)
      all_goals exact Or.inr (by omega)
    · rintro (h | ⟨h, h2⟩)
      · exact Or.inl (Or.inl (Or.inl (Or.inl (Or.inl ((X _ _).mpr (Or.inl h))))))
      · have : a ≤ 5 ∨ a = 6 ∨ a = 7 ∨ a = 8 ∨ a = 9 ∨ a = 10 := by omega
        rcases this with h | rfl | rfl | rfl | rfl | rfl
        · exact Or.inl (Or.inl (Or.inl (Or.inl (Or.inl ((X _ _).mpr (Or.inr ⟨h, h2⟩))))))
        · exact Or.inl (Or.inl (Or.inl (Or.inl (Or.inr ⟨rfl, h2⟩))))
        · exact Or.inl (Or.inl (Or.inl (Or.inr ⟨rfl, h2⟩)))
        · exact Or.inl (Or.inl (Or.inr ⟨rfl, h2⟩))
        · exact Or.inl (Or.inr ⟨rfl, h2⟩)
        · exact Or.inr ⟨rfl, h2⟩
  generalize exU (exU (exU (exU (exU exA 6 n) 7 n) 8 n) 9 n) 10 n = exB at h10 Y
  have xB0 : exB 0 n := (Y _ _).mpr (Or.inr ⟨by decide, rfl⟩)
  obtain ⟨S11, e11, h11, -⟩ := h10.PR2 (k := 0) (i := n) (t := 3) (j := 19) xB0 rfl (by decide) (some (6, n)) (fun r z => by cases z; exact (Y _ _).mpr (Or.inr ⟨show (6 : Nat) ≤ 10 by decide, rfl⟩))
  obtain ⟨S12, e12, h12, -⟩ := h11.PI2 (k := 0) (i := n) (t := 3) (j := 0) xB0 rfl (by decide) y
  obtain ⟨S13, e13, h13, -⟩ := h12.PI2 (k := 0) (i := n) (t := 3) (j := 1) xB0 rfl (by decide) x
  have a0 : A 0 n = S.2 := ha 0 (by decide)
  have e8' : pR S7 (some (A 0 n)) 3 18 (some (A 1 n)) = some S8 := e8
  have e11' : pR S10 (some (A 0 n)) 3 19 (some (A 6 n)) = some S11 := e11
  have s5 : S5.2 = A 1 n := by rw [ha 1 (by decide), m5]
  have s8 : S8.2 = A 6 n := by rw [ha 6 (by decide), m8]
  have k0 : ∀ d, K10.1 0 n d = K4.1 0 n d := fun d => by
    rw [b10.1 _ _ _ (by unfold n7P; omega), kNw_i (by omega), kwR_1, b7.1 _ _ _ (by omega)]
  have k0R : ∀ d, K10.2 0 n d = if d = 18 then some (1, n) else none := fun d => by
    rw [b10.2 _ _ _ (by unfold n6P; omega), kNw_r (by omega)]
    by_cases c : d = 18
    · rw [if_pos c, c, kwR_ss]
    · rw [if_neg c, kwR_row (by omega), b7.2 _ _ _ (by omega)]; exact q4.2.2.2.2.2 d
  have k1 : ∀ d, K10.1 1 n d = K7.1 1 n d := fun d => by
    rw [b10.1 _ _ _ (by unfold n7P; omega), kNw_i (by omega), kwR_1]
  have k1R : ∀ d, K10.2 1 n d = K7.2 1 n d := fun d => by
    rw [b10.2 _ _ _ (by unfold n6P; omega), kNw_r (by omega), kwR_row (by omega)]
  have k6 : ∀ d, K10.1 6 n d = 0 := fun d => by
    rw [b10.1 _ _ _ (by unfold n7P; omega), kNw_is]
  have bb : kB (m0P n) (m0P n) K K10 := ((((b4.tr (b7.wd (fun a c d z => ⟨by omega, z.2.2⟩) (fun a c d z => ⟨by omega, z.2.2⟩))).R (P 0 (by decide) _)).nw (P 6 (by decide)) (P 6 (by decide)))).tr (b10.wd (fun a c d z => ⟨z.2.1, z.2.2⟩) (fun a c d z => ⟨z.2.1, z.2.2⟩))
  refine ⟨S13, _, exB, by rw [← a0, nw_na]; exact rc0, ?_, h13, Y, ((bb.R (P 0 (by decide) _)).I (P 0 (by decide) _)).I (P 0 (by decide) _), ⟨?_, ?_, ?_, ?_, ?_, ?_, ?_, ?_, ?_⟩, ⟨fun d h1 h2 => ?_, ?_, ?_⟩, ⟨?_, ?_, ?_⟩, ⟨?_, ?_, ?_, ?_, ?_, ?_⟩, fun k h1 h2 d => ?_, ⟨?_, ?_, ?_, ?_⟩⟩
  · unfold f_X3_init
    rw [nw_na, e2, qqx, e3, qqx, e4, qqx, e5, qqx, nw_na, s5, rcR, qqx, e7', qqx, e8', qqx, nw_na, s8, rcS, qqx, e10, qqx, e11', qqx, e12, qqx, e13, qqx]
  · rw [kwI_j (by decide), kwI_s]
  · rw [kwI_s]
  · rw [kwI_j (by decide), kwI_j (by decide), kwR_1, k0]; exact q4.1 2 (by decide) (by decide) (by decide) (by decide)
  · rw [kwI_j (by decide), kwI_j (by decide), kwR_1, k0]; exact q4.1 3 (by decide) (by decide) (by decide) (by decide)
  · rw [kwI_j (by decide), kwI_j (by decide), kwR_1, k0]; exact q4.2.1
  · rw [kwI_j (by decide), kwI_j (by decide), kwR_1, k0]; exact q4.2.2.1
  · rw [kwI_j (by decide), kwI_j (by decide), kwR_1, k0]; exact q4.2.2.2.1
  · rw [kwI_j (by decide), kwI_j (by decide), kwR_1, k0]; exact q4.1 7 (by decide) (by decide) (by decide) (by decide)
  · rw [kwI_j (by decide), kwI_j (by decide), kwR_1, k0]; exact q4.2.2.2.2.1
  · rw [kwI_2, kwI_2, kwR_row (by omega), k0R, if_neg (by omega)]
  · rw [kwI_2, kwI_2, kwR_row (by omega), k0R, if_pos rfl]
  · rw [kwI_2, kwI_2, kwR_ss]
  · rw [kwI_k (by decide), kwI_k (by decide), kwR_1, k1, i3]
  · rw [kwI_k (by decide), kwI_k (by decide), kwR_1, k1, z6.1]
  · rw [kwI_k (by decide), kwI_k (by decide), kwR_1, k1, z6.2]
  · rw [kwI_2, kwI_2, kwR_row (by omega), k1R, r1]; rfl
  · rw [kwI_2, kwI_2, kwR_row (by omega), k1R, r2]; rfl
  · rw [kwI_2, kwI_2, kwR_row (by omega), k1R, r8]
  · rw [kwI_2, kwI_2, kwR_row (by omega), k1R, r9]
  · rw [kwI_2, kwI_2, kwR_row (by omega), k1R, r10]
  · rw [kwI_2, kwI_2, kwR_row (by omega), k1R, r11]
  · rw [kwI_k (by omega), kwI_k (by omega), kwR_1]
    by_cases c : k = 6
    · rw [c]; exact k6 d
    · exact z10 k (by omega) h2 d
  · rw [kwI_2, kwI_2, kwR_row (by omega)]; exact r610.1
  · rw [kwI_2, kwI_2, kwR_row (by omega)]; exact r610.2.1
  · rw [kwI_2, kwI_2, kwR_row (by omega)]; exact r610.2.2.1
  · rw [kwI_2, kwI_2, kwR_row (by omega)]; exact r610.2.2.2
def P_mk (T : qqT) (G : qqG) (σ : mS) (T' : qqT) (G' : qqG) (σ' : mS) : Prop := G' = G ∧ ∃ x b, T' = Tnw T b ∧ Tn T < 30 ∧ σ' = sf (up (sf σ 81 0) 0 (Tn T) x) 13 (nI (Tn T + 1))
theorem sq_make {T : qqT} {G : qqG} {L : qqL} {A : kA} {ex : Nat → Nat → Prop} {K : kS} {v nw9 k : Nat} {S : cS} {σ : mS} (w : JW k T G L A ex K v nw9 S σ) (a1 : Int32) : sJR [0, 1] lvN (JP (pf T G σ (P_mk T G σ)) (k + 1)) (f_X11_make 1 a1 S) (f_make a1 σ) := by
  obtain ⟨⟨hw, hA, hin⟩, h49, ⟨hv, hn54, h54⟩, j⟩ := id w
  have h30 := hw.n30
  have q := j.1.1
  have rt := j.1.2.2.2
  have s13 := rt.1
  have x49 : ex 49 0 := q.2.1.x (by decide) (by decide) (by decide)
  have x50 := q.1.2.1
  have x51 := q.1.2.2.1
  refine at49 (P := fun x => sJR [0, 1] lvN (JP (pf T G σ (P_mk T G σ)) (k + 1)) (f_X11_make x a1 S) (f_make a1 σ)) h49 ?_
  unfold f_X11_make f_make
  have r1 : f_make_30 a1 1 σ = some (-1, sf σ 81 1) := by unfold f_make_30; rw [r_holds1, qqx]; rfl
  have r2 : f_make_30 a1 2 σ = some (-1, sf σ 81 2) := by unfold f_make_30; rw [r_holds2, qqx]; rfl
  rw [r_in0 a1 (n := 8) (by decide) (by decide), qqx, r1, r2]
  show sJR _ _ _ ((f_X11_isBelow a1 (nI 8)).bind _) _
  rw [c_isBelow, qqx]
  unfold f_X11_make_14
  by_cases hx : 0 ≤ a1 ∧ a1 < nI 8
  · rw [if_dt hx, if_dt hx, c_refA0, qqx, s13]
    show sJR _ _ _ ((gR S (some (A 49 0)) 11 0).bind _) _
    have g1 : gI S (some (A 50 0)) 10 1 = some (nI (Tn T)) := by rw [hA.I 50 10 x50 rfl, q.1.2.2.2.1]
    rw [q.2.1.trees hA, qqx, g1, qqx]
    unfold f_X11_make_34
    by_cases full : Tn T = 30
    · rw [if_neg (show ¬ nI (Tn T) < 30 by rw [full]; decide), if_pos (show nI (Tn T) = 30 by rw [full]; rfl), c_refS1, qqx]
      exact sJR.l rfl (w.no 2)
    · have lt : Tn T < 30 := by omega
      rw [if_pos (show nI (Tn T) < 30 from nI_lt (b := 30) lt (by decide)), if_neg (show ¬ nI (Tn T) = 30 from fun z => full ((nI_eqE (b := 30) (by omega) (by decide)).mp z)), c_refS0, qqx]
      show sJR _ _ _ ((gR S (some (A 49 0)) 11 0).bind _) _
      have hS0 : S.2 ≠ 0 := by have := (hA.1 49 0 x49).2.1; omega
      have nx : ∀ k, k ≤ 10 → ¬ ex k (Tn T) := fun k hk => j.2.2.2.2.2.2.2.1.1 k (Tn T) hk (Nat.le_refl _)
      obtain ⟨A', hAA, hAn⟩ : ∃ A' : kA, (∀ a b, ex a b → A' a b = A a b) ∧ ∀ k, k ≤ 10 → A' k (Tn T) = S.2 + k := by
        refine ⟨fun a b => if a ≤ 10 ∧ b = Tn T then S.2 + a else A a b, fun a b hx => if_neg (fun z => nx a z.1 (by rw [← z.2]; exact hx)), fun k hk => if_pos ⟨hk, rfl⟩⟩
      have h1 := hA.chA hAA
      obtain ⟨S3, K3, ex', rcE, e3, h3, exI, b3, f0, r0, f1, r1', f6, r6⟩ := c_init3 h1 nx hAn hS0 (nI (Tn T)) a1
      have mono : ∀ a b, ex a b → ex' a b := fun a b h => (exI a b).mpr (Or.inl h)
      obtain ⟨S4, e4, h4⟩ := h3.SR (k := 51) (i := 0) (ci := 3) (N := 30) (j := Tn T) (mono _ _ x51) rfl (by decide) lt (some (0, Tn T)) (fun r z => by cases z; exact ⟨(exI _ _).mpr (Or.inr ⟨show (0 : Nat) ≤ 10 by decide, rfl⟩), rfl⟩)
      obtain ⟨S5, e5, h5⟩ := h4.PI (k := 50) (i := 0) (t := 10) (j := 1) (mono _ _ x50) rfl (by decide) (nI (Tn T + 1))
      have A50 : A' 50 0 = A 50 0 := hAA 50 0 x50
      have A51 : A' 51 0 = A 51 0 := hAA 51 0 x51
      have run : f_X10_addElement (A 50 0) a1 S = some (nI (Tn T + 1) - 1, S5) := by
        have g4 : gR S (some (A 50 0)) 10 4 = some (some (A 51 0)) := by rw [hA.R 50 10 x50 rfl, q.1.2.2.2.2.2.1]; rfl
        have h1a := h1.al (k := 0) (i := Tn T) (t := 3) (N := 0) rfl (nx 0 (by decide)) (hAn 0 (by decide)) hS0
        have g1' : gI (nw S 3) (some (A 50 0)) 10 1 = some (nI (Tn T)) := by rw [nw_na, ← A50, h1a.I 50 10 (Or.inl x50) rfl, kNw_i (by omega), q.1.2.2.2.1]
        have a0 : A' 0 (Tn T) = S.2 := hAn 0 (by decide)
        have e4' : sR S3 (some (A 51 0)) 3 (nI (Tn T)) (some S.2) = some S4 := by rw [← A51, ← a0]; exact e4
        have g7 : gI S4 (some (A 50 0)) 10 1 = some (nI (Tn T)) := by rw [← A50, h4.I 50 10 (mono _ _ x50) rfl, kwR_1, b3.1 _ _ _ (by unfold m0P; omega), q.1.2.2.2.1]
        have g9 : gI S5 (some (A 50 0)) 10 1 = some (nI (Tn T + 1)) := by rw [← A50, h5.I 50 10 (mono _ _ x50) rfl, kwI_s]
        rw [A50] at e5
        unfold f_X10_addElement f_X10_addElement_40
        rw [g1, qqx, if_neg (show ¬ (30 : Int32) ≤ nI (Tn T) from nI_ge (b := 30) lt (by decide)), g4, qqx, qqx, g1', qqx, rcE, qqx, e3, qqx, e4', qqx, g7, qqx, nI_1, e5, qqx, g9, qqx]
      rw [q.2.1.trees hA, qqx, hA.Rc 50 10 x50 rfl, qqx, run, qqx]
      have e : nI (Tn T + 1) - 1 = nI (Tn T) := by rw [show (1 : Int32) = nI 1 from rfl, pk_sub (by omega)]; rfl
      have ref : f_make_30 a1 0 σ = some (nI (Tn T), sf (up (sf σ 81 0) 0 (Tn T) a1) 13 (nI (Tn T + 1))) := by
        have s13' : (sf σ 81 0).2 13 = nI (Tn T) := s13
        unfold f_make_30
        rw [r_holds0, qqx, if_pos rfl]
        dsimp only
        rw [s13', wr_0 (by omega), qqx, up_2, s13', nI_1, sf_s, e]
      rw [ref, e]
      have bk : kB (mkP (Tn T)) (mkR (Tn T)) K (kwI (kwR K3 51 0 (Tn T) (some (0, Tn T))) 50 0 1 (nI (Tn T + 1))) := ((b3.wd (fun a c d z => by unfold m0P at z; unfold mkP; omega) (fun a c d z => by unfold m0P at z; unfold mkR; omega)).R (by unfold mkR; omega)).I (by unfold mkP; omega)
      have j0 := j.scR (scR_sf σ 0)
      have cI : ∀ k d, k ≤ 10 → (kwI (kwR K3 51 0 (Tn T) (some (0, Tn T))) 50 0 1 (nI (Tn T + 1))).1 k (Tn T) d = K3.1 k (Tn T) d := fun k d hk => by rw [kwI_k (by omega), kwR_1]
      have cR : ∀ k d, k ≤ 10 → (kwI (kwR K3 51 0 (Tn T) (some (0, Tn T))) 50 0 1 (nI (Tn T + 1))).2 k (Tn T) d = K3.2 k (Tn T) d := fun k d hk => by rw [kwI_2, kwR_row (by omega)]
      have c50 : (kwI (kwR K3 51 0 (Tn T) (some (0, Tn T))) 50 0 1 (nI (Tn T + 1))).1 50 0 1 = nI (Tn T + 1) ∧ (kwI (kwR K3 51 0 (Tn T) (some (0, Tn T))) 50 0 1 (nI (Tn T + 1))).2 51 0 (Tn T) = some (0, Tn T) := ⟨kwI_s _ _ _ _ _, by rw [kwI_2, kwR_ss]⟩
      have in65 := hin.kp bk (fun i d => by unfold mkP; omega)
      generalize kwI (kwR K3 51 0 (Tn T) (some (0, Tn T))) 50 0 1 (nI (Tn T + 1)) = K5 at h5 bk cI cR c50 in65
      have j1 := j0.mke (σ' := sf (up (sf σ 81 0) 0 (Tn T) a1) 13 (nI (Tn T + 1))) (b := decide (a1 = nI 7)) hw rfl lt ⟨fun f hf => show (up (sf σ 81 0) 0 (Tn T) a1).1 f = _ from up_o hf, fun e he => show (up (sf σ 81 0) 0 (Tn T) a1).1 0 e = _ from up_sn he⟩ ⟨sf_s _ _ _, fun f hf => sf_o hf⟩ (show (up (sf σ 81 0) 0 (Tn T) a1).1 0 (Tn T) = a1 from up_ss _ _ _ _) (by rw [decide_eq_true_iff]) bk (by simp only [cI 0 _ (by decide)]; exact f0) (by simp only [cR 0 _ (by decide)]; exact r0) (by simp only [cI 1 _ (by decide)]; exact f1) (by simp only [cR 1 _ (by decide)]; exact r1') (fun k h1 h2 d => by rw [cI k d h2]; exact f6 k h1 h2 d) (by simp only [cR 6 _ (by decide)]; exact r6) c50 exI
      refine sJR.r rfl (show (sf (up (sf σ 81 0) 0 (Tn T) a1) 13 (nI (Tn T + 1))).2 81 = 0 by rw [sf_o (by decide), up_2, sf_s]) (fun n hn1 => ⟨Tnw T (decide (a1 = nI 7)), G, L, A', ex', K5, v, nw9, ⟨⟨Tw_nw hw lt, h5.mono hn1, kIn_ex mono hAA in65⟩, (hAA 49 0 x49).trans h49, ⟨by omega, hn54, ?_⟩, j1⟩, Or.inr ⟨by rw [sf_o (by decide), up_2, sf_s], rfl, a1, _, rfl, lt, rfl⟩⟩)
      rw [sf_o (by decide), up_2, sf_o (by decide)]; exact h54
  · rw [if_df hx, if_df hx, c_refA1, qqx]
    exact sJR.l rfl (w.no 1)
end MK3
