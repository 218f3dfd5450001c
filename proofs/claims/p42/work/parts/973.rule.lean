section IRU
variable {A A' : kA} {ex : Nat → Nat → Prop} {K K' : kS} {S S' : cS}
def exR (ex : Nat → Nat → Prop) (c i : Nat) : Nat → Nat → Prop := exU (exU (exU (exU ex (c + 1) i) (c + 2) i) (c + 3) i) (c + 4) i
def iruK (K : kS) (c i : Nat) (num : Int32) (f s : Option Nat) (o : Int32) : kS := kwI (kwR (kwR (kwI (kwR (kNw (kwR (kNw (kwR (kNw (kwR (kNw (kwI K c i 4 (-1)) (c + 1) i) c i 8 (some (c + 1, i))) (c + 2) i) c i 9 (some (c + 2, i))) (c + 3) i) c i 10 (some (c + 3, i))) (c + 4) i) c i 11 (some (c + 4, i))) c i 0 num) c i 1 (ro 16 f)) c i 2 (ro 17 s)) c i 3 o
theorem ro_map (A : kA) (k : Nat) (x : Option Nat) : (ro k x).map (kp A) = x.map (A k) := by cases x <;> rfl
theorem c_initRule (hA : KA A ex K S) {c i : Nat} (x : ex c i) (c0 : (kT c).1 = 6) (c65 : c ≠ 65) (ct : ∀ t, 1 ≤ t → t ≤ 4 → kT (c + t) = (20, 15)) (hn : ∀ t, 1 ≤ t → t ≤ 4 → ¬ ex (c + t) i) (ha : ∀ t, 1 ≤ t → t ≤ 4 → A (c + t) i = S.2 + (t - 1)) (h0 : S.2 ≠ 0) {f s : Option Nat} (hf : ∀ q, f = some q → ex 16 q ∧ c ≠ 16) (hs : ∀ q, s = some q → ex 17 q) (num : Int32) {o : Int32} (ho : (f = none → o = 2) ∧ ∀ q, f = some q → o = K.1 16 q 1) (hc16 : ∀ t, t ≤ 4 → c + t ≠ 16) : ∃ S', f_X6_init (A c i) num (f.map (A 16)) (s.map (A 17)) S = some S' ∧ KA A (exR ex c i) (iruK K c i num f s o) S' ∧ S'.2 = S.2 + 4 := by
  have a1 := ha 1 (by decide) (by decide)
  have a2 := ha 2 (by decide) (by decide)
  have a3 := ha 3 (by decide) (by decide)
  have a4 := ha 4 (by decide) (by decide)
  obtain ⟨S1, e1, h1, n1⟩ := hA.PI2 (k := c) (i := i) (t := 6) (j := 4) x c0 c65 (-1)
  have h2 := h1.al (ct 1 (by decide) (by decide)) (hn 1 (by decide) (by decide)) (by rw [a1, n1]; rfl) (by rw [n1]; exact h0)
  have n2 : (na S1 20 15).2 = S.2 + 1 := by rw [na_2, n1]
  obtain ⟨S3, e3, h3, n3⟩ := h2.PR2 (k := c) (i := i) (t := 6) (j := 8) (Or.inl x) c0 c65 (some (c + 1, i)) (fun r z => by cases z; exact Or.inr ⟨rfl, rfl⟩)
  have h4 := h3.al (ct 2 (by decide) (by decide)) (fun z => z.elim (hn 2 (by decide) (by decide)) (by omega)) (by rw [a2, n3, n2]) (by rw [n3, n2]; omega)
  have n4 : (na S3 20 15).2 = S.2 + 2 := by rw [na_2, n3, n2]
  obtain ⟨S5, e5, h5, n5⟩ := h4.PR2 (k := c) (i := i) (t := 6) (j := 9) (Or.inl (Or.inl x)) c0 c65 (some (c + 2, i)) (fun r z => by cases z; exact Or.inr ⟨rfl, rfl⟩)
  have h6 := h5.al (ct 3 (by decide) (by decide)) (fun z => z.elim (fun z => z.elim (hn 3 (by decide) (by decide)) (by omega)) (by omega)) (by rw [a3, n5, n4]) (by rw [n5, n4]; omega)
  have n6 : (na S5 20 15).2 = S.2 + 3 := by rw [na_2, n5, n4]
  obtain ⟨S7, e7, h7, n7⟩ := h6.PR2 (k := c) (i := i) (t := 6) (j := 10) (Or.inl (Or.inl (Or.inl x))) c0 c65 (some (c + 3, i)) (fun r z => by cases z; exact Or.inr ⟨rfl, rfl⟩)
  have h8 := h7.al (ct 4 (by decide) (by decide)) (fun z => z.elim (fun z => z.elim (fun z => z.elim (hn 4 (by decide) (by decide)) (by omega)) (by omega)) (by omega)) (by rw [a4, n7, n6]) (by rw [n7, n6]; omega)
  have n8 : (na S7 20 15).2 = S.2 + 4 := by rw [na_2, n7, n6]
  have xx : exR ex c i c i := Or.inl (Or.inl (Or.inl (Or.inl x)))
  obtain ⟨S9, e9, h9, n9⟩ := h8.PR2 (k := c) (i := i) (t := 6) (j := 11) xx c0 c65 (some (c + 4, i)) (fun r z => by cases z; exact Or.inr ⟨rfl, rfl⟩)
  obtain ⟨S10, e10, h10, n10⟩ := h9.PI2 (k := c) (i := i) (t := 6) (j := 0) xx c0 c65 num
  obtain ⟨S11, e11, h11, n11⟩ := h10.PR2 (k := c) (i := i) (t := 6) (j := 1) xx c0 c65 (ro 16 f) (fun r z => by
    cases f with
    | none => cases z
    | some q => cases z; exact Or.inl (Or.inl (Or.inl (Or.inl (hf q rfl).1))))
  obtain ⟨S12, e12, h12, n12⟩ := h11.PR2 (k := c) (i := i) (t := 6) (j := 2) xx c0 c65 (ro 17 s) (fun r z => by
    cases s with
    | none => cases z
    | some q => cases z; exact Or.inl (Or.inl (Or.inl (Or.inl (hs q rfl)))))
  obtain ⟨S13, e13, h13, n13⟩ := h12.PI2 (k := c) (i := i) (t := 6) (j := 3) xx c0 c65 o
  refine ⟨S13, ?_, h13, by rw [n13, n12, n11, n10, n9, n8]⟩
  rw [ro_map] at e11 e12
  have e3' : pR (na S1 20 15) (some (A c i)) 6 8 (some S1.2) = some S3 := by rw [show S1.2 = A (c + 1) i by rw [a1, n1]; rfl]; exact e3
  have e5' : pR (na S3 20 15) (some (A c i)) 6 9 (some S3.2) = some S5 := by rw [show S3.2 = A (c + 2) i by rw [a2, n3, n2]]; exact e5
  have e7' : pR (na S5 20 15) (some (A c i)) 6 10 (some S5.2) = some S7 := by rw [show S5.2 = A (c + 3) i by rw [a3, n5, n4]]; exact e7
  have e9' : pR (na S7 20 15) (some (A c i)) 6 11 (some S7.2) = some S9 := by rw [show S7.2 = A (c + 4) i by rw [a4, n7, n6]]; exact e9
  unfold f_X6_init f_X6_init_69
  rw [e1, qqx, e3', qqx, e5', qqx, e7', qqx, e9', qqx, e10, qqx, e11, qqx, e12, qqx]
  cases f with
  | none =>
    have := ho.1 rfl
    subst this
    show (if (none : Option Nat) = none then _ else _) = _
    rw [if_pos rfl, e13, qqx]
  | some q =>
    have hq := ho.2 q rfl
    obtain ⟨x16, n16⟩ := hf q rfl
    have g : gI S12 (some (A 16 q)) 8 1 = some o := by
      rw [h12.I 16 8 (Or.inl (Or.inl (Or.inl (Or.inl x16)))) rfl, hq]
      have hk : ∀ (Z : kS) (j : Nat) (u : Option (Nat × Nat)), (kwR Z c i j u).1 = Z.1 := fun _ _ _ => rfl
      have y0 := hc16 1 (by decide)
      have y1 := hc16 2 (by decide)
      have y2 := hc16 3 (by decide)
      have y3 := hc16 4 (by decide)
      rw [hk, hk, kwI_k (by omega), hk, kNw_i (by omega), hk, kNw_i (by omega), hk, kNw_i (by omega), hk, kNw_i (by omega), kwI_k (by omega)]
    show (if (some (A 16 q)) = none then _ else (gI S12 (some (A 16 q)) 8 1).bind _) = _
    rw [if_neg (fun z => by cases z), g, qqx, e13, qqx]
end IRU
