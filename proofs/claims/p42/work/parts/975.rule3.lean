section RU3
variable {T : qqT} {G : qqG} {L : qqL} {A A' : kA} {ex : Nat → Nat → Prop} {K K' : kS} {S S' : cS} {σ σ' : mS} {v v' nw9 k : Nat}
theorem iruK_I (K : kS) (c i : Nat) (num : Int32) (f s : Option Nat) (o : Int32) : (iruK K c i num f s o).1 c i 0 = num ∧ (iruK K c i num f s o).1 c i 3 = o ∧ (iruK K c i num f s o).1 c i 4 = -1 ∧ ∀ j, j ≠ 0 → j ≠ 3 → j ≠ 4 → (iruK K c i num f s o).1 c i j = K.1 c i j := by
  unfold iruK
  refine ⟨?_, kwI_s _ _ _ _ _, ?_, fun j h0 h3 h4 => ?_⟩
  · rw [kwI_row (by omega), kwR_1, kwR_1, kwI_s]
  · rw [kwI_row (by omega), kwR_1, kwR_1, kwI_row (by omega), kwR_1, kNw_i (by omega), kwR_1, kNw_i (by omega), kwR_1, kNw_i (by omega), kwR_1, kNw_i (by omega), kwI_s]
  · rw [kwI_row (by omega), kwR_1, kwR_1, kwI_row (by omega), kwR_1, kNw_i (by omega), kwR_1, kNw_i (by omega), kwR_1, kNw_i (by omega), kwR_1, kNw_i (by omega), kwI_row (by omega)]
theorem iruK_R (K : kS) (c i : Nat) (num : Int32) (f s : Option Nat) (o : Int32) : (iruK K c i num f s o).2 c i 1 = ro 16 f ∧ (iruK K c i num f s o).2 c i 2 = ro 17 s ∧ (iruK K c i num f s o).2 c i 8 = some (c + 1, i) ∧ (iruK K c i num f s o).2 c i 9 = some (c + 2, i) ∧ (iruK K c i num f s o).2 c i 10 = some (c + 3, i) ∧ (iruK K c i num f s o).2 c i 11 = some (c + 4, i) ∧ ∀ j, j ≠ 1 → j ≠ 2 → ¬ (8 ≤ j ∧ j ≤ 11) → (iruK K c i num f s o).2 c i j = K.2 c i j := by
  unfold iruK
  refine ⟨?_, ?_, ?_, ?_, ?_, ?_, fun j h1 h2 h8 => ?_⟩
  · rw [kwI_2, kwR_row (by omega), kwR_ss]
  · rw [kwI_2, kwR_ss]
  · rw [kwI_2, kwR_row (by omega), kwR_row (by omega), kwI_2, kwR_row (by omega), kNw_r (by omega), kwR_row (by omega), kNw_r (by omega), kwR_row (by omega), kNw_r (by omega), kwR_ss]
  · rw [kwI_2, kwR_row (by omega), kwR_row (by omega), kwI_2, kwR_row (by omega), kNw_r (by omega), kwR_row (by omega), kNw_r (by omega), kwR_ss]
  · rw [kwI_2, kwR_row (by omega), kwR_row (by omega), kwI_2, kwR_row (by omega), kNw_r (by omega), kwR_ss]
  · rw [kwI_2, kwR_row (by omega), kwR_row (by omega), kwI_2, kwR_ss]
  · rw [kwI_2, kwR_row (by omega), kwR_row (by omega), kwI_2, kwR_row (by omega), kNw_r (by omega), kwR_row (by omega), kNw_r (by omega), kwR_row (by omega), kNw_r (by omega), kwR_row (by omega), kNw_r (by omega), kwI_2]
theorem iruK_b {PI PR : Nat → Nat → Nat → Prop} (b : kB PI PR K K') {c i : Nat} (h1 : ∀ k j, c ≤ k → k ≤ c + 4 → PI k i j) (h2 : ∀ k j, c ≤ k → k ≤ c + 4 → PR k i j) (num : Int32) (f s : Option Nat) (o : Int32) : kB PI PR K (iruK K' c i num f s o) := by
  unfold iruK
  exact ((((((((((((b.I (h1 _ _ (by omega) (by omega))).nw (fun _ => h1 _ _ (by omega) (by omega)) (fun _ => h2 _ _ (by omega) (by omega))).R (h2 _ _ (by omega) (by omega))).nw (fun _ => h1 _ _ (by omega) (by omega)) (fun _ => h2 _ _ (by omega) (by omega))).R (h2 _ _ (by omega) (by omega))).nw (fun _ => h1 _ _ (by omega) (by omega)) (fun _ => h2 _ _ (by omega) (by omega))).R (h2 _ _ (by omega) (by omega))).nw (fun _ => h1 _ _ (by omega) (by omega)) (fun _ => h2 _ _ (by omega) (by omega))).R (h2 _ _ (by omega) (by omega))).I (h1 _ _ (by omega) (by omega))).R (h2 _ _ (by omega) (by omega))).R (h2 _ _ (by omega) (by omega))).I (h1 _ _ (by omega) (by omega))
def rqP (n k i j : Nat) : Prop := (11 ≤ k ∧ k ≤ 15 ∧ i = n) ∨ (k = 58 ∧ i = 0 ∧ j = 5)
theorem c_addRule (hA : KA A ex K S) {n f s : Nat} (hn40 : n < 40) (hx : ∀ t, t ≤ 4 → ¬ ex (11 + t) n) (ha : ∀ t, t ≤ 4 → A (11 + t) n = S.2 + t) (h0 : S.2 ≠ 0) (x58 : ex 58 0) (x60 : ex 60 0) (x16 : ex 16 f) (x17 : ex 17 s) (k583 : K.2 58 0 3 = some (60, 0)) (k585 : K.1 58 0 5 = nI n) (k587 : K.2 58 0 7 = if 0 < n then some (11, n - 1) else none) (k586 : 0 < n → K.2 58 0 6 = some (11, 0)) (x11 : ∀ r, r + 1 = n → ex 11 r) (o11 : ∃ b, K.1 58 0 11 ||| K.1 17 s 7 = b2 b) (o12 : ∃ b, K.1 58 0 12 ||| K.1 17 s 8 = b2 b) :
    ∃ S' K', f_X1_addRule (A 58 0) (some (A 16 f)) (some (A 17 s)) S = some (nI (n + 1) - 1, S') ∧ KA A (exR (exU ex 11 n) 11 n) K' S' ∧ kB (ruP n) (ruR n) K K' ∧
    ((K'.1 58 0 5 = nI (n + 1) ∧ K'.2 58 0 6 = some (11, 0) ∧ K'.2 58 0 7 = some (11, n) ∧ K'.2 60 0 n = some (11, n)) ∧ (K'.1 11 n 0 = nI n ∧ K'.2 11 n 1 = some (16, f) ∧ K'.2 11 n 2 = some (17, s) ∧ K'.1 11 n 3 = K.1 16 f 1 ∧ K'.1 11 n 4 = -1 ∧ K'.1 11 n 5 = 0 ∧ K'.1 11 n 6 = 0) ∧ (K'.2 11 n 8 = some (12, n) ∧ K'.2 11 n 9 = some (13, n) ∧ K'.2 11 n 10 = some (14, n) ∧ K'.2 11 n 11 = some (15, n) ∧ K'.2 11 n 14 = none) ∧ (∀ r, r + 1 = n → K'.2 11 r 14 = some (11, n)) ∧ ((∀ r j, r + 1 = n → j ≠ 14 → K'.2 11 r j = K.2 11 r j)) ∧ K'.1 58 0 9 = K.1 58 0 9 ||| K.1 17 s 10 ∧ K'.1 58 0 10 = K.1 58 0 10 ||| K.1 17 s 11 ∧ K'.1 58 0 11 = K.1 58 0 11 ||| K.1 17 s 7 ∧ K'.1 58 0 12 = K.1 58 0 12 ||| K.1 17 s 8) := by
  have h1 := hA.al (k := 11) (i := n) (t := 6) (N := 0) rfl (hx 0 (by decide)) (ha 0 (by decide)) h0
  have ct : ∀ t, 1 ≤ t → t ≤ 4 → kT (11 + t) = (20, 15) := fun t t1 t4 => by
    have : t = 1 ∨ t = 2 ∨ t = 3 ∨ t = 4 := by omega
    rcases this with rfl | rfl | rfl | rfl <;> rfl
  obtain ⟨S2, e2, h2, n2⟩ := c_initRule h1 (c := 11) (i := n) (Or.inr ⟨rfl, rfl⟩) rfl (by decide) ct (fun t t1 t4 z => z.elim (hx t t4) (by omega)) (fun t t1 t4 => by rw [ha t t4, na_2]; omega) (by rw [na_2]; omega) (f := some f) (s := some s) (fun q z => by cases z; exact ⟨Or.inl x16, by decide⟩) (fun q z => by cases z; exact Or.inl x17) (nI n) (o := K.1 16 f 1) ⟨(fun z => by cases z), (fun q z => by cases z; exact (kNw_i (by omega) 1).symm)⟩ (fun t ht => by omega)
  obtain ⟨i0, i3, i4, io⟩ := iruK_I (kNw K 11 n) 11 n (nI n) (some f) (some s) (K.1 16 f 1)
  obtain ⟨r1, r2, r8, r9, r10, r11, rO⟩ := iruK_R (kNw K 11 n) 11 n (nI n) (some f) (some s) (K.1 16 f 1)
  have b2' : kB (rqP n) (ruR n) K (iruK (kNw K 11 n) 11 n (nI n) (some f) (some s) (K.1 16 f 1)) := iruK_b ((kB.rf K).nw (fun _ => Or.inl ⟨by decide, by decide, rfl⟩) (fun _ => Or.inl ⟨by decide, by decide, rfl⟩)) (fun k j h1 h2 => Or.inl ⟨h1, by omega, rfl⟩) (fun k j h1 h2 => Or.inl ⟨h1, by omega, rfl⟩) _ _ _ _
  have e2' : f_X6_init (A 11 n) (nI n) (some (A 16 f)) (some (A 17 s)) (na S 6 0) = some S2 := e2
  generalize hK2 : iruK (kNw K 11 n) 11 n (nI n) (some f) (some s) (K.1 16 f 1) = K2 at h2 i0 i3 i4 io r1 r2 r8 r9 r10 r11 rO b2'
  rw [show (kNw K 11 n).1 11 n = fun _ => 0 from if_pos ⟨rfl, rfl⟩] at io
  rw [show (kNw K 11 n).2 11 n = fun _ => none from if_pos ⟨rfl, rfl⟩] at rO
  have X : ∀ a b, ex a b → exR (exU ex 11 n) 11 n a b := fun a b h => Or.inl (Or.inl (Or.inl (Or.inl (Or.inl h))))
  have x11n : exR (exU ex 11 n) 11 n 11 n := Or.inl (Or.inl (Or.inl (Or.inl (Or.inr ⟨rfl, rfl⟩))))
  have y58 := X _ _ x58
  obtain ⟨S3, e3, h3⟩ := h2.SR (k := 60) (i := 0) (ci := 6) (N := 40) (j := n) (X _ _ x60) rfl (by decide) hn40 (some (11, n)) (fun r z => by cases z; exact ⟨x11n, rfl⟩)
  obtain ⟨S4, e4, h4⟩ := h3.PI (k := 58) (i := 0) (t := 1) (j := 5) y58 rfl (by decide) (nI (n + 1))
  have b4 : kB (rqP n) (ruR n) K (kwI (kwR K2 60 0 n (some (11, n))) 58 0 5 (nI (n + 1))) := (b2'.R (Or.inr (Or.inl ⟨rfl, rfl, rfl⟩))).I (Or.inr ⟨rfl, rfl, rfl⟩)
  have g5 : gI S (some (A 58 0)) 1 5 = some (nI n) := by rw [hA.I 58 1 x58 rfl, k585]
  have g5' : gI (na S 6 0) (some (A 58 0)) 1 5 = some (nI n) := by rw [h1.I 58 1 (Or.inl x58) rfl, kNw_i (by omega), k585]
  have rc1 : rc (na S 6 0) (some (A 11 n)) 6 = some (A 11 n) := h1.Rc 11 6 (Or.inr ⟨rfl, rfl⟩) rfl
  have g23 : gR S2 (some (A 58 0)) 1 3 = some (some (A 60 0)) := by rw [h2.R 58 1 y58 rfl, b2'.2 58 0 3 (by unfold ruR; omega), k583]; rfl
  have k5851 : K2.1 58 0 5 = nI n := by
    rw [← hK2]
    unfold iruK
    rw [kwI_k (by decide), kwR_1, kwR_1, kwI_k (by decide), kwR_1, kNw_i (by omega), kwR_1, kNw_i (by omega), kwR_1, kNw_i (by omega), kwR_1, kNw_i (by omega), kwI_k (by decide), kNw_i (by omega), k585]
  have g25 : gI S2 (some (A 58 0)) 1 5 = some (nI n) := by rw [h2.I 58 1 y58 rfl, k5851]
  have e3' : sR S2 (some (A 60 0)) 6 (nI n) (some (A 11 n)) = some S3 := e3
  have g35 : gI S3 (some (A 58 0)) 1 5 = some (nI n) := by rw [h3.I 58 1 y58 rfl, kwR_1, k5851]
  have k47 : (kwI (kwR K2 60 0 n (some (11, n))) 58 0 5 (nI (n + 1))).2 58 0 7 = if 0 < n then some (11, n - 1) else none := by
    rw [kwI_2, kwR_row (by omega), ← hK2]
    unfold iruK
    rw [kwI_2, kwR_row (by omega), kwR_row (by omega), kwI_2, kwR_row (by omega), kNw_r (by omega), kwR_row (by omega), kNw_r (by omega), kwR_row (by omega), kNw_r (by omega), kwR_row (by omega), kNw_r (by omega), kwI_2, kNw_r (by omega), k587]
  have k46 : 0 < n → (kwI (kwR K2 60 0 n (some (11, n))) 58 0 5 (nI (n + 1))).2 58 0 6 = some (11, 0) := fun hn0 => by
    rw [kwI_2, kwR_row (by omega), ← hK2]
    unfold iruK
    rw [kwI_2, kwR_row (by omega), kwR_row (by omega), kwI_2, kwR_row (by omega), kNw_r (by omega), kwR_row (by omega), kNw_r (by omega), kwR_row (by omega), kNw_r (by omega), kwR_row (by omega), kNw_r (by omega), kwI_2, kNw_r (by omega), k586 hn0]
  have k4I : (kwI (kwR K2 60 0 n (some (11, n))) 58 0 5 (nI (n + 1))).1 58 0 5 = nI (n + 1) := kwI_s _ _ _ _ _
  have k4R : (kwI (kwR K2 60 0 n (some (11, n))) 58 0 5 (nI (n + 1))).2 60 0 n = some (11, n) := by rw [kwI_2, kwR_ss]
  have k4n : ∀ j, (kwI (kwR K2 60 0 n (some (11, n))) 58 0 5 (nI (n + 1))).1 11 n j = K2.1 11 n j := fun j => by rw [kwI_row (by omega), kwR_1]
  have k4m : ∀ j, (kwI (kwR K2 60 0 n (some (11, n))) 58 0 5 (nI (n + 1))).2 11 n j = K2.2 11 n j := fun j => by rw [kwI_2, kwR_row (by omega)]
  have k4p : ∀ r j, r + 1 = n → (kwI (kwR K2 60 0 n (some (11, n))) 58 0 5 (nI (n + 1))).2 11 r j = K.2 11 r j := fun r j hr => by
    rw [kwI_2, kwR_row (by omega), ← hK2]
    unfold iruK
    rw [kwI_2, kwR_row (by omega), kwR_row (by omega), kwI_2, kwR_row (by omega), kNw_r (by omega), kwR_row (by omega), kNw_r (by omega), kwR_row (by omega), kNw_r (by omega), kwR_row (by omega), kNw_r (by omega), kwI_2, kNw_r (by omega)]
  generalize hK4 : kwI (kwR K2 60 0 n (some (11, n))) 58 0 5 (nI (n + 1)) = K4 at h4 b4 k47 k46 k4I k4R k4n k4m k4p
  have g47 : gR S4 (some (A 58 0)) 1 7 = some (if 0 < n then some (A 11 (n - 1)) else none) := by
    rw [h4.R 58 1 y58 rfl, k47]
    by_cases c : 0 < n
    · rw [if_pos c, if_pos c]; rfl
    · rw [if_neg c, if_neg c]; rfl
  have fin : ∀ (S5 : cS) (K5 : kS), KA A (exR (exU ex 11 n) 11 n) K5 S5 → K5.1 = K4.1 → kB (fun _ _ _ => False) (fun k i j => (k = 58 ∧ i = 0 ∧ j = 6) ∨ (k = 11 ∧ i + 1 = n ∧ j = 14)) K4 K5 → K5.2 58 0 6 = some (11, 0) → (∀ r, r + 1 = n → K5.2 11 r 14 = some (11, n)) → ∃ S' K', f_X1_addRule_66 (A 58 0) (some (A 17 s)) (some (A 11 n)) S5 = some (nI (n + 1) - 1, S') ∧ KA A (exR (exU ex 11 n) 11 n) K' S' ∧ kB (ruP n) (ruR n) K K' ∧ ((K'.1 58 0 5 = nI (n + 1) ∧ K'.2 58 0 6 = some (11, 0) ∧ K'.2 58 0 7 = some (11, n) ∧ K'.2 60 0 n = some (11, n)) ∧ (K'.1 11 n 0 = nI n ∧ K'.2 11 n 1 = some (16, f) ∧ K'.2 11 n 2 = some (17, s) ∧ K'.1 11 n 3 = K.1 16 f 1 ∧ K'.1 11 n 4 = -1 ∧ K'.1 11 n 5 = 0 ∧ K'.1 11 n 6 = 0) ∧ (K'.2 11 n 8 = some (12, n) ∧ K'.2 11 n 9 = some (13, n) ∧ K'.2 11 n 10 = some (14, n) ∧ K'.2 11 n 11 = some (15, n) ∧ K'.2 11 n 14 = none) ∧ (∀ r, r + 1 = n → K'.2 11 r 14 = some (11, n)) ∧ ((∀ r j, r + 1 = n → j ≠ 14 → K'.2 11 r j = K.2 11 r j)) ∧ K'.1 58 0 9 = K.1 58 0 9 ||| K.1 17 s 10 ∧ K'.1 58 0 10 = K.1 58 0 10 ||| K.1 17 s 11 ∧ K'.1 58 0 11 = K.1 58 0 11 ||| K.1 17 s 7 ∧ K'.1 58 0 12 = K.1 58 0 12 ||| K.1 17 s 8) := by
    intro S5 K5 h5 eI b5 q6 q14
    have y17 := X _ _ x17
    obtain ⟨S6, e6, h6⟩ := h5.PR (k := 58) (i := 0) (t := 1) (j := 7) y58 rfl (by decide) (some (11, n)) (fun r z => by cases z; exact x11n)
    obtain ⟨S7, e7, h7⟩ := h6.PI (k := 58) (i := 0) (t := 1) (j := 9) y58 rfl (by decide) (K.1 58 0 9 ||| K.1 17 s 10)
    obtain ⟨S8, e8, h8⟩ := h7.PI (k := 58) (i := 0) (t := 1) (j := 10) y58 rfl (by decide) (K.1 58 0 10 ||| K.1 17 s 11)
    obtain ⟨S9, e9, h9⟩ := h8.PI (k := 58) (i := 0) (t := 1) (j := 11) y58 rfl (by decide) (K.1 58 0 11 ||| K.1 17 s 7)
    obtain ⟨S10, e10, h10⟩ := h9.PI (k := 58) (i := 0) (t := 1) (j := 12) y58 rfl (by decide) (K.1 58 0 12 ||| K.1 17 s 8)
    have o5 : ∀ k i j, ¬ rqP n k i j → K5.1 k i j = K.1 k i j := fun k i j z => by rw [eI]; exact b4.1 k i j z
    have e6' : pR S5 (some (A 58 0)) 1 7 (some (A 11 n)) = some S6 := e6
    have p9 : gI S6 (some (A 58 0)) 1 9 = some (K.1 58 0 9) := by rw [h6.I 58 1 y58 rfl, kwR_1, o5 _ _ _ (by unfold rqP; omega)]
    have p10 : gI S6 (some (A 17 s)) 7 10 = some (K.1 17 s 10) := by rw [h6.I 17 7 y17 rfl, kwR_1, o5 _ _ _ (by unfold rqP; omega)]
    have p11 : gI S7 (some (A 58 0)) 1 10 = some (K.1 58 0 10) := by rw [h7.I 58 1 y58 rfl, kwI_j (by decide), kwR_1, o5 _ _ _ (by unfold rqP; omega)]
    have p12 : gI S7 (some (A 17 s)) 7 11 = some (K.1 17 s 11) := by rw [h7.I 17 7 y17 rfl, kwI_k (by decide), kwR_1, o5 _ _ _ (by unfold rqP; omega)]
    have p13 : gI S8 (some (A 58 0)) 1 11 = some (K.1 58 0 11) := by rw [h8.I 58 1 y58 rfl, kwI_j (by decide), kwI_j (by decide), kwR_1, o5 _ _ _ (by unfold rqP; omega)]
    have p14 : gI S8 (some (A 17 s)) 7 7 = some (K.1 17 s 7) := by rw [h8.I 17 7 y17 rfl, kwI_k (by decide), kwI_k (by decide), kwR_1, o5 _ _ _ (by unfold rqP; omega)]
    have p15 : gI S9 (some (A 58 0)) 1 12 = some (K.1 58 0 12) := by rw [h9.I 58 1 y58 rfl, kwI_j (by decide), kwI_j (by decide), kwI_j (by decide), kwR_1, o5 _ _ _ (by unfold rqP; omega)]
    have p16 : gI S9 (some (A 17 s)) 7 8 = some (K.1 17 s 8) := by rw [h9.I 17 7 y17 rfl, kwI_k (by decide), kwI_k (by decide), kwI_k (by decide), kwR_1, o5 _ _ _ (by unfold rqP; omega)]
    have p17 : gI S10 (some (A 58 0)) 1 5 = some (nI (n + 1)) := by rw [h10.I 58 1 y58 rfl, kwI_j (by decide), kwI_j (by decide), kwI_j (by decide), kwI_j (by decide), kwR_1, eI, k4I]
    have e9' : pZ S8 (some (A 58 0)) 1 11 (K.1 58 0 11 ||| K.1 17 s 7) = some S9 := by
      obtain ⟨b, hb⟩ := o11
      rw [hb] at e9 ⊢
      rw [pZ_b2]; exact e9
    have e10' : pZ S9 (some (A 58 0)) 1 12 (K.1 58 0 12 ||| K.1 17 s 8) = some S10 := by
      obtain ⟨b, hb⟩ := o12
      rw [hb] at e10 ⊢
      rw [pZ_b2]; exact e10
    refine ⟨S10, _, ?_, h10, ?_, ⟨⟨?_, ?_, ?_, ?_⟩, ⟨?_, ?_, ?_, ?_, ?_, ?_, ?_⟩, ⟨?_, ?_, ?_, ?_, ?_⟩, fun r hr => ?_, fun r j hr hj => ?_, ?_, ?_, ?_, kwI_s _ _ _ _ _⟩⟩
    · unfold f_X1_addRule_66 f_X1_addRule_123
      rw [e6', qqx, p9, qqx, p10, qqx, e7, qqx, p11, qqx, p12, qqx, e8, qqx, p13, qqx, p14, qqx, e9', qqx, p15, qqx, p16, qqx, e10', qqx, p17, qqx]
    · have b45 : kB (ruP n) (ruR n) K K5 := (b4.wd (fun k i j z => by unfold rqP at z; unfold ruP; omega) (fun _ _ _ z => z)).tr (b5.wd (fun _ _ _ z => z.elim) (fun k i j z => by unfold ruR; omega))
      exact ((((b45.R (Or.inr (Or.inr (Or.inl ⟨rfl, rfl, Or.inr rfl⟩)))).I (Or.inr ⟨rfl, rfl, Or.inr (by decide)⟩)).I (Or.inr ⟨rfl, rfl, Or.inr (by decide)⟩)).I (Or.inr ⟨rfl, rfl, Or.inr (by decide)⟩)).I (Or.inr ⟨rfl, rfl, Or.inr (by decide)⟩)
    · rw [kwI_j (by decide), kwI_j (by decide), kwI_j (by decide), kwI_j (by decide), kwR_1, eI, k4I]
    · rw [kwI_2, kwI_2, kwI_2, kwI_2, kwR_row (by omega), q6]
    · rw [kwI_2, kwI_2, kwI_2, kwI_2, kwR_ss]
    · rw [kwI_2, kwI_2, kwI_2, kwI_2, kwR_row (by omega), b5.2 _ _ _ (by omega), k4R]
    · rw [kwI_k (by decide), kwI_k (by decide), kwI_k (by decide), kwI_k (by decide), kwR_1, eI, k4n, i0]
    · rw [kwI_2, kwI_2, kwI_2, kwI_2, kwR_row (by omega), b5.2 _ _ _ (by omega), k4m, r1]; rfl
    · rw [kwI_2, kwI_2, kwI_2, kwI_2, kwR_row (by omega), b5.2 _ _ _ (by omega), k4m, r2]; rfl
    · rw [kwI_k (by decide), kwI_k (by decide), kwI_k (by decide), kwI_k (by decide), kwR_1, eI, k4n, i3]
    · rw [kwI_k (by decide), kwI_k (by decide), kwI_k (by decide), kwI_k (by decide), kwR_1, eI, k4n, i4]
    · rw [kwI_k (by decide), kwI_k (by decide), kwI_k (by decide), kwI_k (by decide), kwR_1, eI, k4n, io 5 (by decide) (by decide) (by decide)]
    · rw [kwI_k (by decide), kwI_k (by decide), kwI_k (by decide), kwI_k (by decide), kwR_1, eI, k4n, io 6 (by decide) (by decide) (by decide)]
    · rw [kwI_2, kwI_2, kwI_2, kwI_2, kwR_row (by omega), b5.2 _ _ _ (by omega), k4m, r8]
    · rw [kwI_2, kwI_2, kwI_2, kwI_2, kwR_row (by omega), b5.2 _ _ _ (by omega), k4m, r9]
    · rw [kwI_2, kwI_2, kwI_2, kwI_2, kwR_row (by omega), b5.2 _ _ _ (by omega), k4m, r10]
    · rw [kwI_2, kwI_2, kwI_2, kwI_2, kwR_row (by omega), b5.2 _ _ _ (by omega), k4m, r11]
    · rw [kwI_2, kwI_2, kwI_2, kwI_2, kwR_row (by omega), b5.2 _ _ _ (by omega), k4m, rO 14 (by decide) (by decide) (by omega)]
    · rw [kwI_2, kwI_2, kwI_2, kwI_2, kwR_row (by omega), q14 r hr]
    · rw [kwI_2, kwI_2, kwI_2, kwI_2, kwR_row (by omega), b5.2 _ _ _ (by omega), k4p r j hr]
    · rw [kwI_j (by decide), kwI_j (by decide), kwI_j (by decide), kwI_s]
    · rw [kwI_j (by decide), kwI_j (by decide), kwI_s]
    · rw [kwI_j (by decide), kwI_s]
  have run : ∀ r, (if (if 0 < n then some (A 11 (n - 1)) else none) = (none : Option Nat) then ((pR S4 (some (A 58 0)) 1 6 (some (A 11 n))).bind (fun v13 => f_X1_addRule_66 (A 58 0) (some (A 17 s)) (some (A 11 n)) v13)) else ((gR S4 (some (A 58 0)) 1 7).bind (fun v11 => (pR S4 v11 6 14 (some (A 11 n))).bind (fun v12 => f_X1_addRule_66 (A 58 0) (some (A 17 s)) (some (A 11 n)) v12)))) = r → f_X1_addRule (A 58 0) (some (A 16 f)) (some (A 17 s)) S = r := by
    intro r hr
    unfold f_X1_addRule
    rw [g5, qqx, if_neg (show ¬ (40 : Int32) ≤ nI n from nI_ge (b := 40) hn40 (by decide)), nw_na, g5', qqx, ← show A 11 n = S.2 from ha 0 (by decide), rc1, qqx, e2', qqx, g23, qqx, g25, qqx, e3', qqx, g35, qqx, nI_1, e4, qqx, g47, qqx]
    rw [g47] at hr
    exact hr
  by_cases c : 0 < n
  · obtain ⟨S5, e5, h5⟩ := h4.PR (k := 11) (i := n - 1) (t := 6) (j := 14) (X _ _ (x11 (n - 1) (by omega))) rfl (by decide) (some (11, n)) (fun r z => by cases z; exact x11n)
    have e5' : pR S4 (some (A 11 (n - 1))) 6 14 (some (A 11 n)) = some S5 := e5
    obtain ⟨S', K', f1, f2, f3, f4⟩ := fin S5 _ h5 rfl ((kB.rf K4).R (Or.inr ⟨rfl, by omega, rfl⟩)) (by rw [kwR_row (by omega)]; exact k46 c) (fun r hr => by rw [show r = n - 1 by omega, kwR_ss])
    refine ⟨S', K', run _ ?_, f2, f3, f4⟩
    rw [if_pos c] at g47 ⊢
    rw [if_neg (fun z => by cases z), g47, qqx, e5', qqx]; exact f1
  · obtain ⟨S5, e5, h5⟩ := h4.PR (k := 58) (i := 0) (t := 1) (j := 6) y58 rfl (by decide) (some (11, n)) (fun r z => by cases z; exact x11n)
    have e5' : pR S4 (some (A 58 0)) 1 6 (some (A 11 n)) = some S5 := e5
    obtain ⟨S', K', f1, f2, f3, f4⟩ := fin S5 _ h5 rfl ((kB.rf K4).R (Or.inl ⟨rfl, rfl, rfl⟩)) (by rw [kwR_ss, show n = 0 by omega]) (fun r hr => by omega)
    refine ⟨S', K', run _ ?_, f2, f3, f4⟩
    rw [if_neg c] at g47 ⊢
    rw [if_pos rfl, e5', qqx]; exact f1
end RU3
