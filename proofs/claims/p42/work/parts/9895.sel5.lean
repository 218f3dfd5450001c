def fiP (n k i j : Nat) : Prop := k = 17 ∧ i = n ∧ (j = 3 ∨ (9 ≤ j ∧ j ≤ 12))
def f7E (x0 : Nat) (S : cS) : Option cS := (gR S (some x0) 7 1).bind (fun v1 => (gI S v1 2 6).bind (fun v2 => (pI S (some x0) 7 10 v2).bind (fun v3 => (rc v3 (some x0) 7).bind (fun v4 => (f_X7_reachesOut v4 v3).bind (fun v5 => if v5 = (0:Int32) then (f_X7_finish_101 x0 v3) else ((gI v3 (some x0) 7 12).bind (fun v6 => (pI v3 (some x0) 7 11 v6).bind (fun v7 => f_X7_finish_101 x0 v7))))))))
section SL5
variable {T : qqT} {G : qqG} {L : qqL} {A A' : kA} {ex ex' : Nat → Nat → Prop} {K K' K1 : kS} {S S' S1 : cS} {σ σ' : mS} {v v' n m k i nw9 : Nat}
def alK (K : kS) (n j : Nat) : Int32 := orF (fun k => K.1 (18 + k) n 8) j
def faK (K : kS) (n m j : Nat) : Int32 := orF (fun k => if k = m then K.1 (18 + k) n 7 else K.1 (18 + k) n 8) j
theorem c_fin22 (hm : m < 4) (x17 : ex 17 n) (x18 : ∀ k, k ≤ m → ex (18 + k) n) (r1 : K.2 17 n 1 = some (18 + m, n)) (r9 : ∀ k, k ≤ m → K.2 (18 + k) n 9 = if k < m then some (18 + (k + 1), n) else none) : ∀ d f k K1 S1, k + d = m + 1 → d < f → KA A ex K1 S1 → kB (fiP n) F3 K K1 → K1.1 17 n 12 = alK K n k → K1.1 17 n 11 = faK K n m k → ∃ S' K', f_X7_finish_22 (A 17 n) f (if k ≤ m then some (A (18 + k) n) else none) S1 = f7E (A 17 n) S' ∧ KA A ex K' S' ∧ kB (fiP n) F3 K K' ∧ K'.1 17 n 12 = alK K n (m + 1) ∧ K'.1 17 n 11 = faK K n m (m + 1) ∧ K'.1 17 n 3 = K1.1 17 n 3 ∧ K'.1 17 n 9 = K1.1 17 n 9 := by
  intro d
  induction d with
  | zero =>
    intro f k K1 S1 hk hf hA b e12 e11
    obtain ⟨f, rfl⟩ : ∃ f', f = f' + 1 := ⟨f - 1, by omega⟩
    have hk : k = m + 1 := by omega
    subst hk
    rw [if_neg (by omega)]
    exact ⟨S1, K1, rfl, hA, b, e12, e11, rfl, rfl⟩
  | succ d ih =>
    intro f k K1 S1 hk hf hA b e12 e11
    obtain ⟨f, rfl⟩ : ∃ f', f = f' + 1 := ⟨f - 1, by omega⟩
    have hk' : k ≤ m := by omega
    have xk := x18 k hk'
    have kk : (kT (18 + k)).1 = 2 := by rw [(kT18 (show k < 4 by omega)).1]
    have bI : ∀ x y z, ¬ fiP n x y z → K1.1 x y z = K.1 x y z := b.1
    have bR : ∀ x y z, K1.2 x y z = K.2 x y z := fun x y z => b.2 x y z (fun w => w)
    obtain ⟨S2, p2, h2⟩ := hA.PI (k := 17) (i := n) (t := 7) (j := 12) x17 rfl (by decide) (alK K n k ||| K.1 (18 + k) n 8)
    obtain ⟨S3, p3, h3⟩ := h2.PI (k := 17) (i := n) (t := 7) (j := 11) x17 rfl (by decide) (faK K n m k ||| (if k = m then K.1 (18 + k) n 7 else K.1 (18 + k) n 8))
    obtain ⟨S', K', q1, q2, q3, q4, q5, q6, q7⟩ := ih f (k + 1) _ S3 (by omega) (by omega) h3 ((b.I ⟨rfl, rfl, by omega⟩).I ⟨rfl, rfl, by omega⟩) (by rw [kwI_j (by decide), kwI_s]; rfl) (by rw [kwI_s]; rfl)
    refine ⟨S', K', ?_, q2, q3, q4, q5, by rw [q6, kwI_j (by decide), kwI_j (by decide)], by rw [q7, kwI_j (by decide), kwI_j (by decide)]⟩
    have g12 : gI S1 (some (A 17 n)) 7 12 = some (alK K n k) := by rw [hA.I 17 7 x17 rfl, e12]
    have g8 : gI S1 (some (A (18 + k) n)) 2 8 = some (K.1 (18 + k) n 8) := by rw [hA.I (18 + k) 2 xk kk, bI _ _ _ (by unfold fiP; omega)]
    have g11 : gI S2 (some (A 17 n)) 7 11 = some (faK K n m k) := by rw [h2.I 17 7 x17 rfl, kwI_j (by decide), e11]
    have g1 : gR S2 (some (A 17 n)) 7 1 = some (some (A (18 + m) n)) := by rw [h2.R 17 7 x17 rfl, kwI_2, bR, r1]; rfl
    have g28 : gI S2 (some (A (18 + k) n)) 2 8 = some (K.1 (18 + k) n 8) := by rw [h2.I (18 + k) 2 xk kk, kwI_k (by omega), bI _ _ _ (by unfold fiP; omega)]
    have g27 : gI S2 (some (A (18 + k) n)) 2 7 = some (K.1 (18 + k) n 7) := by rw [h2.I (18 + k) 2 xk kk, kwI_k (by omega), bI _ _ _ (by unfold fiP; omega)]
    have g9 : gR S3 (some (A (18 + k) n)) 2 9 = some (if k + 1 ≤ m then some (A (18 + (k + 1)) n) else none) := by
      rw [h3.R (18 + k) 2 xk kk, kwI_2, kwI_2, bR, r9 k hk']
      by_cases z : k < m
      · rw [if_pos z, if_pos (by omega)]; rfl
      · rw [if_neg z, if_neg (by omega)]; rfl
    rw [if_pos hk', f_X7_finish_22, if_neg (by simp), g12, qqx, g8, qqx, p2, qqx, g11, qqx, g1, qqx]
    unfold f_X7_finish_63
    by_cases z : k = m
    · subst z
      rw [if_pos rfl] at p3
      rw [if_pos rfl, g27, qqx, p3, qqx, g9, qqx]; exact q1
    · rw [if_neg z] at p3
      have ne : ¬ (some (A (18 + k) n) = some (A (18 + m) n)) := fun y => by
        have := (hA.2.1 _ _ _ _ xk (x18 m (by omega)) (Option.some.inj y)).1
        omega
      rw [if_neg ne, g28, qqx, p3, qqx, g9, qqx]; exact q1
theorem c_finish (hA : KA A ex K S) (hm : m < 4) (x17 : ex 17 n) (x18 : ∀ k, k ≤ m → ex (18 + k) n) (r0 : K.2 17 n 0 = some (18, n)) (r1 : K.2 17 n 1 = some (18 + m, n)) (r9 : ∀ k, k ≤ m → K.2 (18 + k) n 9 = if k < m then some (18 + (k + 1), n) else none) (z11 : K.1 17 n 11 = 0) (z12 : K.1 17 n 12 = 0) {c : Bool} (h5 : K.1 17 n 5 = b2 c) (x : Int32) : ∃ S' K', f_X7_finish (A 17 n) x S = some S' ∧ KA A ex K' S' ∧ kB (fiP n) F3 K K' ∧ K'.1 17 n 3 = x ∧ K'.1 17 n 9 = K.1 17 n 9 ||| ((1 : Int32) <<< (x &&& 31)) ∧ K'.1 17 n 10 = K.1 (18 + m) n 6 ∧ K'.1 17 n 12 = alK K n (m + 1) ∧ K'.1 17 n 11 = if K.1 17 n 5 = 0 ∧ K.1 17 n 4 = -1 then faK K n m (m + 1) else alK K n (m + 1) := by
  obtain ⟨S1, p1, h1⟩ := hA.PI (k := 17) (i := n) (t := 7) (j := 3) x17 rfl (by decide) x
  obtain ⟨S2, p2, h2⟩ := h1.PI (k := 17) (i := n) (t := 7) (j := 9) x17 rfl (by decide) (K.1 17 n 9 ||| ((1 : Int32) <<< (x &&& 31)))
  obtain ⟨S3, K3, q1, q2, q3, q4, q5, q6, q7⟩ := c_fin22 (A := A) (ex := ex) (K := K) hm x17 x18 r1 r9 (m + 1) 4000 0 _ S2 (by omega) (by omega) h2 (((kB.rf K).I ⟨rfl, rfl, by omega⟩).I ⟨rfl, rfl, by omega⟩) (by rw [kwI_j (by decide), kwI_j (by decide), z12]; rfl) (by rw [kwI_j (by decide), kwI_j (by decide), z11]; rfl)
  rw [kwI_j (by decide), kwI_s] at q6
  rw [kwI_s] at q7
  have kk : (kT (18 + m)).1 = 2 := by rw [(kT18 hm).1]
  obtain ⟨S4, p4, h4⟩ := q2.PI (k := 17) (i := n) (t := 7) (j := 10) x17 rfl (by decide) (K.1 (18 + m) n 6)
  have run : f_X7_finish (A 17 n) x S = (f_X7_reachesOut (A 17 n) S4).bind (fun v5 => if v5 = (0:Int32) then (f_X7_finish_101 (A 17 n) S4) else ((gI S4 (some (A 17 n)) 7 12).bind (fun v6 => (pI S4 (some (A 17 n)) 7 11 v6).bind (fun v7 => f_X7_finish_101 (A 17 n) v7)))) := by
    have g9 : gI S1 (some (A 17 n)) 7 9 = some (K.1 17 n 9) := by rw [h1.I 17 7 x17 rfl, kwI_j (by decide)]
    have g0 : gR S2 (some (A 17 n)) 7 0 = some (some (A 18 n)) := by rw [h2.R 17 7 x17 rfl, kwI_2, kwI_2, r0]; rfl
    have q1' : f_X7_finish_22 (A 17 n) 4000 (some (A 18 n)) S2 = f7E (A 17 n) S3 := by
      rw [if_pos (Nat.zero_le m)] at q1; exact q1
    have g1 : gR S3 (some (A 17 n)) 7 1 = some (some (A (18 + m) n)) := by rw [q2.R 17 7 x17 rfl, q3.2 _ _ _ (fun w => w), r1]; rfl
    have g6 : gI S3 (some (A (18 + m) n)) 2 6 = some (K.1 (18 + m) n 6) := by rw [q2.I (18 + m) 2 (x18 m (by omega)) kk, q3.1 _ _ _ (by unfold fiP; omega)]
    unfold f_X7_finish
    rw [p1, qqx, g9, qqx, p2, qqx, g0, qqx, q1']
    unfold f7E
    rw [g1, qqx, g6, qqx, p4, qqx, h4.Rc 17 7 x17 rfl, qqx]
  have k4 : ∀ d, d ≠ 10 → (kwI K3 17 n 10 (K.1 (18 + m) n 6)).1 17 n d = K3.1 17 n d := fun d hd => kwI_j hd
  have i5 : gI S4 (some (A 17 n)) 7 5 = some (b2 c) := by rw [h4.I 17 7 x17 rfl, kwI_j (by decide), q3.1 _ _ _ (by unfold fiP; omega), h5]
  have i4 : gI S4 (some (A 17 n)) 7 4 = some (K.1 17 n 4) := by rw [h4.I 17 7 x17 rfl, kwI_j (by decide), q3.1 _ _ _ (by unfold fiP; omega)]
  have bb : kB (fiP n) F3 K (kwI K3 17 n 10 (K.1 (18 + m) n 6)) := q3.I ⟨rfl, rfl, by omega⟩
  have all : f_X7_reachesOut (A 17 n) S4 = some 1 → ¬ (K.1 17 n 5 = 0 ∧ K.1 17 n 4 = -1) → ∃ S' K', f_X7_finish (A 17 n) x S = some S' ∧ KA A ex K' S' ∧ kB (fiP n) F3 K K' ∧ K'.1 17 n 3 = x ∧ K'.1 17 n 9 = K.1 17 n 9 ||| ((1 : Int32) <<< (x &&& 31)) ∧ K'.1 17 n 10 = K.1 (18 + m) n 6 ∧ K'.1 17 n 12 = alK K n (m + 1) ∧ K'.1 17 n 11 = if K.1 17 n 5 = 0 ∧ K.1 17 n 4 = -1 then faK K n m (m + 1) else alK K n (m + 1) := fun ho hc => by
    obtain ⟨S5, p5, h5'⟩ := h4.PI (k := 17) (i := n) (t := 7) (j := 11) x17 rfl (by decide) (alK K n (m + 1))
    refine ⟨S5, _, ?_, h5', bb.I ⟨rfl, rfl, by omega⟩, ?_, ?_, ?_, ?_, ?_⟩
    · rw [run, ho, qqx, if_neg (by decide), show gI S4 (some (A 17 n)) 7 12 = some (alK K n (m + 1)) by rw [h4.I 17 7 x17 rfl, kwI_j (by decide), q4], qqx, p5, qqx]; rfl
    · rw [kwI_j (by decide), k4 3 (by decide), q6]
    · rw [kwI_j (by decide), k4 9 (by decide), q7]
    · rw [kwI_j (by decide), kwI_s]
    · rw [kwI_j (by decide), k4 12 (by decide), q4]
    · rw [kwI_s, if_neg hc]
  cases c with
  | true =>
    refine all ?_ (fun z => ?_)
    · unfold f_X7_reachesOut f_X7_reachesOut_15
      rw [i5, qqx, if_neg (by decide)]; rfl
    · rw [h5] at z; exact absurd z.1 (by decide)
  | false =>
    by_cases z : K.1 17 n 4 = -1
    · refine ⟨S4, _, ?_, h4, bb, ?_, ?_, ?_, ?_, ?_⟩
      · have ho : f_X7_reachesOut (A 17 n) S4 = some 0 := by
          unfold f_X7_reachesOut
          rw [i5, qqx, if_pos (show b2 false = 0 from rfl), i4, qqx, if_pos z]; rfl
        rw [run, ho, qqx, if_pos rfl]; rfl
      · rw [k4 3 (by decide), q6]
      · rw [k4 9 (by decide), q7]
      · rw [kwI_s]
      · rw [k4 12 (by decide), q4]
      · rw [k4 11 (by decide), q5, if_pos ⟨h5, z⟩]
    · refine all ?_ (fun y => z y.2)
      unfold f_X7_reachesOut f_X7_reachesOut_15
      rw [i5, qqx, if_pos (show b2 false = 0 from rfl), i4, qqx, if_neg z]; rfl
def nwP (i k b _j : Nat) : Prop := 17 ≤ k ∧ k ≤ 33 ∧ b = i
theorem c_newSel (hA : KA A ex K S) (hn : ∀ k, 17 ≤ k → k ≤ 33 → ¬ ex k i) (ha : A 17 i = S.2 ∧ A 18 i = S.2 + 1 ∧ A 22 i = S.2 + 2 ∧ A 26 i = S.2 + 3 ∧ A 30 i = S.2 + 4) (h0 : S.2 ≠ 0) : ∃ S' K', rc (nw S 7) (some S.2) 7 = some (A 17 i) ∧ f_X7_init (A 17 i) (nw S 7) = some S' ∧ KA A (exJ (exU ex 17 i) 0 i) K' S' ∧ kB (nwP i) (nwP i) K K' ∧ (K'.2 17 i 0 = some (18, i) ∧ K'.2 17 i 1 = some (18, i) ∧ K'.1 17 i 2 = 1 ∧ K'.1 17 i 3 = -1 ∧ K'.1 17 i 4 = -1 ∧ ∀ d, 5 ≤ d → K'.1 17 i d = 0) ∧ (K'.2 18 i 1 = some (22, i) ∧ K'.2 18 i 2 = some (26, i) ∧ K'.2 18 i 3 = some (30, i) ∧ K'.2 18 i 9 = none) ∧ ∀ d, K'.1 18 i d = 0 := by
  obtain ⟨a17, a18, a22, a26, a30⟩ := ha
  have N : ∀ k, 17 ≤ k → k ≤ 33 → ∀ q, q ≠ k → ¬ exU ex q i k i := fun k h1 h2 q hq z => z.elim (hn k h1 h2) (fun y => hq y.1.symm)
  have h1 := hA.al (k := 17) (i := i) (t := 7) (N := 0) rfl (hn 17 (by decide) (by decide)) a17 h0
  have h2 := h1.al (k := 18) (i := i) (t := 2) (N := 0) rfl (N 18 (by decide) (by decide) 17 (by decide)) (by rw [na_2, a18]) (by rw [na_2]; omega)
  obtain ⟨S3, e3, h3, n3⟩ := c_init2 (m := 0) h2 (by decide) (Or.inr ⟨rfl, rfl⟩) ⟨fun z => z.elim (N 22 (by decide) (by decide) 17 (by decide)) (by omega), fun z => z.elim (N 26 (by decide) (by decide) 17 (by decide)) (by omega), fun z => z.elim (N 30 (by decide) (by decide) 17 (by decide)) (by omega)⟩ ⟨by rw [na_2, na_2]; show A 22 i = _; rw [a22], by rw [na_2, na_2]; show A 26 i = _; rw [a26], by rw [na_2, na_2]; show A 30 i = _; rw [a30]⟩ (by rw [na_2, na_2]; omega) 0
  obtain ⟨⟨i0, io⟩, i1, i2, i3, iR⟩ := in2K_at (kNw (kNw K 17 i) 18 i) 0 i 0
  have b3 : kB (nwP i) (nwP i) K (in2K (kNw (kNw K 17 i) 18 i) 0 i 0) := in2K_b (((kB.rf K).nw (fun _ => ⟨by decide, by decide, rfl⟩) (fun _ => ⟨by decide, by decide, rfl⟩)).nw (fun _ => ⟨by decide, by decide, rfl⟩) (fun _ => ⟨by decide, by decide, rfl⟩)) (fun a d h => ⟨⟨by omega, by omega, rfl⟩, ⟨by omega, by omega, rfl⟩⟩) _
  have z18 : ∀ d, (in2K (kNw (kNw K 17 i) 18 i) 0 i 0).1 18 i d = 0 := fun d => by
    by_cases hd : d = 0
    · rw [hd]; exact i0
    · have := io d hd
      rw [show 18 + 0 = 18 from rfl] at this
      rw [this, kNw_is]
  have z17 : ∀ d, (in2K (kNw (kNw K 17 i) 18 i) 0 i 0).1 17 i d = 0 := fun d => by
    unfold in2K
    rw [kwI_row (by omega), kwR_1, kNw_i (by omega), kwR_1, kNw_i (by omega), kwR_1, kNw_i (by omega), kNw_i (by omega), kNw_is]
  have r9 : (in2K (kNw (kNw K 17 i) 18 i) 0 i 0).2 18 i 9 = none := by
    have := iR 9 (by omega)
    rw [show 18 + 0 = 18 from rfl] at this
    rw [this, kNw_rs]
  have x17 : exJ (exU ex 17 i) 0 i 17 i := (exJ_i _ _).mpr (Or.inl (Or.inr ⟨rfl, rfl⟩))
  have x18 : exJ (exU ex 17 i) 0 i 18 i := (exJ_i _ _).mpr (Or.inr ⟨by omega, rfl⟩)
  have h3' : KA A (exJ (exU ex 17 i) 0 i) (in2K (kNw (kNw K 17 i) 18 i) 0 i 0) S3 := h3
  have e3' : f_X2_init (A 18 i) 0 (na (na S 7 0) 2 0) = some S3 := e3
  have i1' : (in2K (kNw (kNw K 17 i) 18 i) 0 i 0).2 18 i 1 = some (22, i) := i1
  have i2' : (in2K (kNw (kNw K 17 i) 18 i) 0 i 0).2 18 i 2 = some (26, i) := i2
  have i3' : (in2K (kNw (kNw K 17 i) 18 i) 0 i 0).2 18 i 3 = some (30, i) := i3
  generalize in2K (kNw (kNw K 17 i) 18 i) 0 i 0 = K3 at h3' b3 z18 z17 r9 i1' i2' i3'
  obtain ⟨S4, p4, h4⟩ := h3'.PR (k := 17) (i := i) (t := 7) (j := 0) x17 rfl (by decide) (some (18, i)) (fun r z => by cases z; exact x18)
  obtain ⟨S5, p5, h5⟩ := h4.PR (k := 17) (i := i) (t := 7) (j := 1) x17 rfl (by decide) (some (18, i)) (fun r z => by cases z; exact x18)
  obtain ⟨S6, p6, h6⟩ := h5.PI (k := 17) (i := i) (t := 7) (j := 2) x17 rfl (by decide) 1
  obtain ⟨S7, p7, h7⟩ := h6.PI (k := 17) (i := i) (t := 7) (j := 3) x17 rfl (by decide) (-1)
  obtain ⟨S8, p8, h8⟩ := h7.PI (k := 17) (i := i) (t := 7) (j := 4) x17 rfl (by decide) (-1)
  have rcA : rc (na S 7 0) (some (A 17 i)) 7 = some (A 17 i) := h1.Rc 17 7 (Or.inr ⟨rfl, rfl⟩) rfl
  have rcB : rc (na (na S 7 0) 2 0) (some (A 18 i)) 2 = some (A 18 i) := h2.Rc 18 2 (Or.inr ⟨rfl, rfl⟩) rfl
  have g0 : gR S4 (some (A 17 i)) 7 0 = some (some (A 18 i)) := by rw [h4.R 17 7 x17 rfl, kwR_ss]; rfl
  have e18 : (na S 7 0).2 = A 18 i := by rw [na_2, a18]
  have p4' : pR S3 (some (A 17 i)) 7 0 (some (A 18 i)) = some S4 := p4
  have p5' : pR S4 (some (A 17 i)) 7 1 (some (A 18 i)) = some S5 := p5
  refine ⟨S8, _, by rw [← a17, nw_na]; exact rcA, ?_, h8, ((((b3.R ⟨by decide, by decide, rfl⟩).R ⟨by decide, by decide, rfl⟩).I ⟨by decide, by decide, rfl⟩).I ⟨by decide, by decide, rfl⟩).I ⟨by decide, by decide, rfl⟩, ⟨?_, ?_, ?_, ?_, ?_, fun d hd => ?_⟩, ⟨?_, ?_, ?_, ?_⟩, fun d => ?_⟩
  · unfold f_X7_init
    rw [nw_na, nw_na, e18, rcB, qqx, e3', qqx, p4', qqx, g0, qqx, p5', qqx, p6, qqx, p7, qqx, p8, qqx]
  · rw [kwI_2, kwI_2, kwI_2, kwR_row (by omega), kwR_ss]
  · rw [kwI_2, kwI_2, kwI_2, kwR_ss]
  · rw [kwI_j (by decide), kwI_j (by decide), kwI_s]
  · rw [kwI_j (by decide), kwI_s]
  · rw [kwI_s]
  · rw [kwI_j (by omega), kwI_j (by omega), kwI_j (by omega), kwR_1, kwR_1, z17]
  · rw [kwI_2, kwI_2, kwI_2, kwR_row (by omega), kwR_row (by omega), i1']
  · rw [kwI_2, kwI_2, kwI_2, kwR_row (by omega), kwR_row (by omega), i2']
  · rw [kwI_2, kwI_2, kwI_2, kwR_row (by omega), kwR_row (by omega), i3']
  · rw [kwI_2, kwI_2, kwI_2, kwR_row (by omega), kwR_row (by omega), r9]
  · rw [kwI_row (by omega), kwI_row (by omega), kwI_row (by omega), kwR_1, kwR_1, z18]
def P_se (T : qqT) (G : qqG) (σ : mS) (T' : qqT) (G' : qqG) (σ' : mS) : Prop := T' = T ∧ G' = gSe G ∧ Gs G < 30 ∧ seS (sf σ 81 0) σ' (Gs G)
theorem sq_select {T : qqT} {G : qqG} {L : qqL} {A : kA} {ex : Nat → Nat → Prop} {K : kS} {v nw9 k : Nat} {S : cS} {σ : mS} (w : JW k T G L A ex K v nw9 S σ) : sJR [1] lvN (JP (pf T G σ (P_se T G σ)) (k + 1)) (f_X11_select 1  S) (f_select  σ) := by
  obtain ⟨⟨hw, hA, hin⟩, h49, ⟨hv, hn54, h54⟩, j⟩ := id w
  have h30 := hw.n30
  have q9 := j.1.1
  have df := j.2.2.2.2.2.2.1
  have km := j.2.2.2.2.2.1.1
  have s26 := j.2.2.2.2.2.1.2
  have g30 := km.2.2.2.1
  have x49 : ex 49 0 := q9.2.1.x (by decide) (by decide) (by decide)
  have x52 : ex 52 0 := q9.2.1.x (by decide) (by decide) (by decide)
  have x53 : ex 53 0 := q9.2.1.x (by decide) (by decide) (by decide)
  refine at49 (P := fun x => sJR [1] lvN (JP (pf T G σ (P_se T G σ)) (k + 1)) (f_X11_select x S) (f_select σ)) h49 ?_
  unfold f_X11_select f_select
  show sJR _ _ _ ((gR S (some (A 49 0)) 11 1).bind _) _
  rw [q9.2.1.matcher hA, qqx, q9.2.1.I52 hA, km.2.2.1, qqx, s26]
  by_cases full : Gs G = 30
  · rw [if_neg (show ¬ nI (Gs G) < 30 by rw [full]; decide), if_pos (show nI (Gs G) = 30 by rw [full]; rfl)]
    unfold f_X11_select_17 f_select_15
    rw [c_refS1, qqx, r_holds1, qqx]
    exact sJR.l rfl (w.no 1)
  · have lt : Gs G < 30 := by omega
    rw [if_pos (show nI (Gs G) < 30 from nI_lt (b := 30) lt (by decide)), if_neg (show ¬ nI (Gs G) = 30 from fun z => full ((nI_eqE (b := 30) (by omega) (by decide)).mp z))]
    have hc : ∀ a, a < Gs G → σ.1 14 a = nI (nC σ a) ∧ nC σ a ≤ 4 := fun a ha => by
      have := (km.1 a ha).2.2.2.n
      exact ⟨this.2.2, this.2.1⟩
    obtain ⟨σ', rs, ss⟩ := r_select lt df.1.2.1 hc s26
    rw [rs]
    obtain ⟨⟨d1, d2, d3, d4, d5⟩, d6, d7, d8, d9, d10, d11⟩ := df
    have rn := d2.n
    obtain ⟨m, hm⟩ : ∃ m, nC σ 30 = m + 1 := ⟨nC σ 30 - 1, by omega⟩
    obtain ⟨⟨e1, e2, e3, e4, e5, e6⟩, e7⟩ := d1
    obtain ⟨cc, h22⟩ := d2.2.2.1
    obtain ⟨S1, K1, f1, f2, f3, f4, f5, f6, f7, f8⟩ := c_finish (n := Gs G) (m := m) hA (by omega) e1 (fun k hk => (e7 k (by omega)).1.1) e2 (by rw [e3, hm]; rfl) (fun k hk => by
      rw [(e7 k (by omega)).2.2.2.2.2.2.2.1, hm]
      by_cases z : k < m
      · rw [if_pos z, if_pos (by omega)]
      · rw [if_neg z, if_neg (by omega)]) d11.2.1 d11.2.2 (e6.trans h22) (nI (Gs G))
    have r53 : kT 53 = (30 + 7, 30) := rfl
    obtain ⟨S2, p2, h2⟩ := f2.SR (k := 53) (i := 0) (ci := 7) (N := 30) (j := Gs G) x53 r53 (by decide) lt (some (17, Gs G)) (fun r z => by cases z; exact ⟨e1, rfl⟩)
    have hS0 : S2.2 ≠ 0 := by have := (h2.1 49 0 x49).2.1; omega
    have fr4 := j.2.2.2.2.2.2.2.1.2.2.2.1
    have nx : ∀ k, 17 ≤ k → k ≤ 33 → ¬ ex k (Gs G + 1) := fun k h1 h2 => fr4 (Gs G + 1) (by omega) k h1 h2
    obtain ⟨A', hAA, a17, a18, a22, a26, a30⟩ : ∃ A' : kA, (∀ a b, ex a b → A' a b = A a b) ∧ A' 17 (Gs G + 1) = S2.2 ∧ A' 18 (Gs G + 1) = S2.2 + 1 ∧ A' 22 (Gs G + 1) = S2.2 + 2 ∧ A' 26 (Gs G + 1) = S2.2 + 3 ∧ A' 30 (Gs G + 1) = S2.2 + 4 := by
      refine ⟨fun a b => if b = Gs G + 1 ∧ 17 ≤ a ∧ a ≤ 33 then (if a = 17 then S2.2 else if a = 18 then S2.2 + 1 else if a = 22 then S2.2 + 2 else if a = 26 then S2.2 + 3 else S2.2 + 4) else A a b, fun a b hx => ?_, ?_, ?_, ?_, ?_, ?_⟩
      · exact if_neg (fun z => nx a z.2.1 z.2.2 (by rw [← z.1]; exact hx))
      · exact (if_pos ⟨rfl, by decide, by decide⟩).trans (if_pos rfl)
      · exact (if_pos ⟨rfl, by decide, by decide⟩).trans rfl
      · exact (if_pos ⟨rfl, by decide, by decide⟩).trans rfl
      · exact (if_pos ⟨rfl, by decide, by decide⟩).trans rfl
      · exact (if_pos ⟨rfl, by decide, by decide⟩).trans rfl
    obtain ⟨S3, K3, rcN, g1, g2, g3, g4, g5, g6⟩ := c_newSel (h2.chA hAA) nx ⟨a17, a18, a22, a26, a30⟩ hS0
    have exI : ∀ a b, exJ (exU ex 17 (Gs G + 1)) 0 (Gs G + 1) a b ↔ (ex a b ∨ ((a = 17 ∨ a = 18 ∨ a = 22 ∨ a = 26 ∨ a = 30) ∧ b = Gs G + 1)) := fun a b => by
      rw [exJ_i]
      unfold exU
      constructor
      · rintro ((h | h) | h)
        · exact Or.inl h
        · exact Or.inr (by omega)
        · exact Or.inr (by omega)
      · rintro (h | ⟨h, h2⟩)
        · exact Or.inl (Or.inl h)
        · rcases h with h | h | h | h | h
          · exact Or.inl (Or.inr ⟨h, h2⟩)
          all_goals exact Or.inr ⟨by omega, h2⟩
    generalize exJ (exU ex 17 (Gs G + 1)) 0 (Gs G + 1) = ex' at g2 exI
    have mono : ∀ a b, ex a b → ex' a b := fun a b h => (exI a b).mpr (Or.inl h)
    obtain ⟨S4, p4, h4⟩ := g2.PR (k := 52) (i := 0) (t := 5) (j := 3) (mono _ _ x52) rfl (by decide) (some (17, Gs G + 1)) (fun r z => by cases z; exact (exI _ _).mpr (Or.inr ⟨Or.inl rfl, rfl⟩))
    obtain ⟨S5, p5, h5⟩ := h4.PI (k := 52) (i := 0) (t := 5) (j := 2) (mono _ _ x52) rfl (by decide) (nI (Gs G + 1))
    have A52 : A' 52 0 = A 52 0 := hAA 52 0 x52
    have run : f_X5_keepDraft (A 52 0) S = some (nI (Gs G + 1) - 1, S5) := by
      have t1 : gI S1 (some (A 52 0)) 5 2 = some (nI (Gs G)) := by rw [f2.I 52 5 x52 rfl, f3.1 _ _ _ (by unfold fiP; omega), km.2.2.1]
      have t2 : gR S1 (some (A 52 0)) 5 1 = some (some (A 53 0)) := by rw [f2.R 52 5 x52 rfl, f3.2 _ _ _ (fun w => w), q9.2.1.2.2.1.2.1]; rfl
      have t3 : gR S1 (some (A 52 0)) 5 3 = some (some (A 17 (Gs G))) := by rw [f2.R 52 5 x52 rfl, f3.2 _ _ _ (fun w => w), d3]; rfl
      have t0 : gR S (some (A 52 0)) 5 3 = some (some (A 17 (Gs G))) := by rw [hA.R 52 5 x52 rfl, d3]; rfl
      have t4 : gI S4 (some (A 52 0)) 5 2 = some (nI (Gs G)) := by
        rw [← A52, h4.I 52 5 (mono _ _ x52) rfl, kwR_1, g3.1 _ _ _ (by unfold nwP; omega), kwR_1, f3.1 _ _ _ (by unfold fiP; omega), km.2.2.1]
      have t5 : gI S5 (some (A 52 0)) 5 2 = some (nI (Gs G + 1)) := by rw [← A52, h5.I 52 5 (mono _ _ x52) rfl, kwI_s]
      have p2' : sR S1 (some (A 53 0)) 7 (nI (Gs G)) (some (A 17 (Gs G))) = some S2 := p2
      have p4' : pR S3 (some (A 52 0)) 5 3 (some S2.2) = some S4 := by rw [← A52, ← a17]; exact p4
      rw [A52] at p5
      unfold f_X5_keepDraft f_X5_keepDraft_54
      rw [q9.2.1.I52 hA, km.2.2.1, qqx, if_neg (show ¬ (30 : Int32) ≤ nI (Gs G) from nI_ge (b := 30) lt (by decide)), t0, qqx, qqx, hA.Rc 17 7 e1 rfl, qqx, f1, qqx, t2, qqx, t1, qqx, t3, qqx, p2', qqx, rcN, qqx, g1, qqx, p4', qqx, t4, qqx, nI_1, p5, qqx, t5, qqx]
    unfold f_X11_select_17
    rw [c_refS0, qqx]
    show sJR _ _ _ ((gR S (some (A 49 0)) 11 1).bind _) _
    rw [q9.2.1.matcher hA, qqx, q9.2.1.r5 hA, qqx, run, qqx]
    have e : nI (Gs G + 1) - 1 = nI (Gs G) := by rw [show (1 : Int32) = nI 1 from rfl, pk_sub (by omega)]; rfl
    rw [e]
    have bb : kB (seI (Gs G)) (seR (Gs G)) K (kwI (kwR K3 52 0 3 (some (17, Gs G + 1))) 52 0 2 (nI (Gs G + 1))) := by
      have b1 : kB (seI (Gs G)) (seR (Gs G)) K (kwR K1 53 0 (Gs G) (some (17, Gs G))) := (f3.wd (fun a b c z => by unfold fiP at z; unfold seI; omega) (fun _ _ _ z => z.elim)).R (by unfold seR; omega)
      exact ((b1.tr (g3.wd (fun a b c z => by unfold nwP at z; unfold seI; omega) (fun a b c z => by unfold nwP at z; unfold seR; omega))).R (by unfold seR; omega)).I (by unfold seI; omega)
    have r17 : ∀ d, (kwI (kwR K3 52 0 3 (some (17, Gs G + 1))) 52 0 2 (nI (Gs G + 1))).1 17 (Gs G) d = K1.1 17 (Gs G) d := fun d => by
      rw [kwI_row (by omega), kwR_1, g3.1 _ _ _ (by unfold nwP; omega), kwR_1]
    have j0 := j.scR (scR_sf σ 0)
    have j1 := j0.se (σ' := σ') (m := m) hw rfl lt ss bb hm (by rw [r17, r17, r17, r17, r17]; exact ⟨f4, f5, f6, f7, f8⟩) ⟨by rw [kwI_2, kwR_row (by omega), g3.2 _ _ _ (by unfold nwP; omega), kwR_ss], by rw [kwI_s], by rw [kwI_2, kwR_ss]⟩ ⟨by
      rw [kwI_2]
      refine ⟨?_, ?_, ?_, ?_, ?_, fun d hd => ?_⟩
      · rw [kwR_row (by omega)]; exact g4.1
      · rw [kwR_row (by omega)]; exact g4.2.1
      · rw [kwI_row (by omega), kwR_1]; exact g4.2.2.1
      · rw [kwI_row (by omega), kwR_1]; exact g4.2.2.2.1
      · rw [kwI_row (by omega), kwR_1]; exact g4.2.2.2.2.1
      · rw [kwI_row (by omega), kwR_1]; exact g4.2.2.2.2.2 d hd, by
      rw [kwI_2, kwR_row (by omega), kwR_row (by omega), kwR_row (by omega), kwR_row (by omega)]; exact g5, fun d => by
      rw [kwI_row (by omega), kwR_1]; exact g6 d⟩ exI
    have x81 : σ'.2 81 = 0 := by rw [ss.1.2 81 (by decide), sf_s]
    have x54 : σ'.2 54 = σ.2 54 := by rw [ss.1.2 54 (by decide), sf_o (by decide)]
    refine sJR.r rfl x81 (fun n hn1 => ⟨T, gSe G, L, A', ex', _, v, nw9, ⟨⟨hw, h5.mono hn1, kIn_ex mono hAA (hin.kp bb (fun i j => by unfold seI; omega))⟩, (hAA 49 0 x49).trans h49, ⟨by omega, hn54, x54.trans h54⟩, j1⟩, Or.inr ⟨x81, rfl, rfl, lt, ss⟩⟩)
end SL5
