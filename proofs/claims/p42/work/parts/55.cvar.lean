def KRw (ex : Nat → Nat → Prop) (K : kS) (σ : mS) (a : Nat) : Prop := (ex (bkr a).1 (bkr a).2 ∧ (kT (bkr a).1).1 = 6 ∧ ∀ t, t < 4 → ex ((bkr a).1 + 1 + t) (bkr a).2 ∧ kT ((bkr a).1 + 1 + t) = (20, 15) ∧ K.2 (bkr a).1 (bkr a).2 (8 + t) = some ((bkr a).1 + 1 + t, (bkr a).2)) ∧ KDr K σ a
def kRow (k : Nat) : Prop := (1 ≤ k ∧ k ≤ 5) ∨ (11 ≤ k ∧ k ≤ 15)
theorem bkr_k (a : Nat) : ((bkr a).1 = 1 ∨ (bkr a).1 = 11) := by
  unfold bkr
  by_cases h : a < 40
  · rw [if_pos h]; exact Or.inr rfl
  · rw [if_neg h]; exact Or.inl rfl
theorem KRw.keep {ex : Nat → Nat → Prop} {K K' : kS} {σ : mS} {a : Nat} {PI PR : Nat → Nat → Nat → Prop} (h : KRw ex K σ a) (b : kB PI PR K K') (h1 : ∀ k i j, kRow k → (k = 1 ∨ k = 11 → j = 6 ∨ j = 7) → ¬ PI k i j) (h2 : ∀ k i j, kRow k → 8 ≤ j → j < 12 → ¬ PR k i j) : KRw ex K' σ a := by
  have hk := bkr_k a
  have e1 : ∀ j, (j = 6 ∨ j = 7) → K'.1 (bkr a).1 (bkr a).2 j = K.1 (bkr a).1 (bkr a).2 j := fun j hj => b.1 _ _ _ (h1 _ _ _ (by unfold kRow; omega) (fun _ => hj))
  have e2 : ∀ t j, t < 4 → K'.1 ((bkr a).1 + 1 + t) (bkr a).2 j = K.1 ((bkr a).1 + 1 + t) (bkr a).2 j := fun t j ht => b.1 _ _ _ (h1 _ _ _ (by unfold kRow; omega) (fun z => by omega))
  refine ⟨⟨h.1.1, h.1.2.1, fun t ht => ⟨(h.1.2.2 t ht).1, (h.1.2.2 t ht).2.1, ?_⟩⟩, ?_⟩
  · rw [b.2 _ _ _ (h2 _ _ _ (by unfold kRow; omega) (by omega) (by omega))]
    exact (h.1.2.2 t ht).2.2
  · have h9 := h.2
    unfold KDr at h9 ⊢
    have z0 : ∀ j, K'.1 ((bkr a).1 + 1) (bkr a).2 j = K.1 ((bkr a).1 + 1) (bkr a).2 j := fun j => e2 0 j (by decide)
    have z1 : ∀ j, K'.1 ((bkr a).1 + 2) (bkr a).2 j = K.1 ((bkr a).1 + 2) (bkr a).2 j := fun j => e2 1 j (by decide)
    have z2 : ∀ j, K'.1 ((bkr a).1 + 3) (bkr a).2 j = K.1 ((bkr a).1 + 3) (bkr a).2 j := fun j => e2 2 j (by decide)
    have z3 : ∀ j, K'.1 ((bkr a).1 + 4) (bkr a).2 j = K.1 ((bkr a).1 + 4) (bkr a).2 j := fun j => e2 3 j (by decide)
    rw [e1 6 (Or.inl rfl), e1 7 (Or.inr rfl)]
    refine ⟨h9.1, fun p hp => ?_⟩
    rw [z0, z1, z2, z3]
    exact h9.2 p hp
def kSt (ex : Nat → Nat → Prop) (K : kS) (d i : Nat) : Prop := ex d i ∧ ex (d + 1) i ∧ (kT d).1 = 9 ∧ kT (d + 1) = (20, 15) ∧ d ≠ 65 ∧ d + 1 ≠ 65 ∧ K.2 d i 0 = some (d + 1, i)
section CV9
variable {T : qqT} {G : qqG} {A : kA} {ex : Nat → Nat → Prop} {K : kS} {S : cS} {σ : mS} {R : Nat → Option Nat} {d i : Nat}
theorem kSt.v (s : kSt ex K d i) (h : KA A ex K S) : gR S (some (A d i)) 9 0 = some (some (A (d + 1) i)) := by
  rw [h.R d 9 s.1 s.2.2.1, s.2.2.2.2.2.2]
  rfl
theorem kSt.a (s : kSt ex K d i) (h : KA A ex K S) {p : Nat} (hp : p < 15) : aI S (some (A (d + 1) i)) (nI p) = some (K.1 (d + 1) i p) := h.AI (d + 1) 15 s.2.1 s.2.2.2.1 hp
theorem kSt.rc (s : kSt ex K d i) (h : KA A ex K S) : rc S (some (A d i)) 9 = some (A d i) := h.Rc d 9 s.1 s.2.2.1
theorem kSt.I (s : kSt ex K d i) (h : KA A ex K S) (j : Nat) : gI S (some (A d i)) 9 j = some (K.1 d i j) := h.I d 9 s.1 s.2.2.1
theorem kSt.keep {K' : kS} {PI PR : Nat → Nat → Nat → Prop} (s : kSt ex K d i) (b : kB PI PR K K') (h : ¬ PR d i 0) : kSt ex K' d i := ⟨s.1, s.2.1, s.2.2.1, s.2.2.2.1, s.2.2.2.2.1, s.2.2.2.2.2.1, by rw [b.2 d i 0 h]; exact s.2.2.2.2.2.2⟩
theorem c_row (h : KA A ex K S) {a : Nat} (r : KRw ex K σ a) {t p : Nat} (ht : t < 4) (hp : p < 15) : gR S (some (bka A a)) 6 (8 + t) = some (some (A ((bkr a).1 + 1 + t) (bkr a).2)) ∧ aI S (some (A ((bkr a).1 + 1 + t) (bkr a).2)) (nI p) = some (K.1 ((bkr a).1 + 1 + t) (bkr a).2 p) := by
  obtain ⟨⟨h1, h2, h3⟩, -⟩ := r
  obtain ⟨g1, g2, g3⟩ := h3 t ht
  refine ⟨?_, h.AI _ 15 g1 g2 hp⟩
  rw [show some (bka A a) = some (A (bkr a).1 (bkr a).2) from rfl, h.R (bkr a).1 6 h1 h2, g3]
  rfl
def kSo (ex : Nat → Nat → Prop) (K : kS) (σ : mS) (R : Nat → Option Nat) : Prop := ex 61 0 ∧ ∀ p, p < 15 → K.2 61 0 p = bko (R p) ∧ ∀ a, R p = some a → KRw ex K σ a ∧ rOK σ p a ∧ Ldc σ p a = true ∧ ¬ σ.1 37 (16 * a + p) = 10
theorem kSo.g (s : kSo ex K σ R) (h : KA A ex K S) {p : Nat} (hp : p < 15) : aR S (some (A 61 0)) 36 (nI p) = some ((R p).map (bka A)) := by
  rw [h.AR 61 36 15 s.1 rfl hp, (s.2 p hp).1, bko_kp]
theorem kSo.keep {K' : kS} {PI PR : Nat → Nat → Nat → Prop} (s : kSo ex K σ R) (b : kB PI PR K K') (h1 : ∀ k i j, kRow k → (k = 1 ∨ k = 11 → j = 6 ∨ j = 7) → ¬ PI k i j) (h2 : ∀ k i j, kRow k → 8 ≤ j → j < 12 → ¬ PR k i j) (h3 : ∀ p, ¬ PR 61 0 p) : kSo ex K' σ R := ⟨s.1, fun p hp => ⟨by rw [b.2 61 0 p (h3 p)]; exact (s.2 p hp).1, fun a ha => ⟨((s.2 p hp).2 a ha).1.keep b h1 h2, ((s.2 p hp).2 a ha).2⟩⟩⟩
theorem kSo.u (s : kSo ex K σ R) {p a : Nat} (hp : p < 15) (ha : R p = some a) : K.1 ((bkr a).1 + 1) (bkr a).2 p = σ.1 37 (16 * a + p) := (((((s.2 p hp).2 a ha).1.2).2 p hp).2 ((s.2 p hp).2 a ha).2.2.1).2.1
theorem kSo.im (s : kSo ex K σ R) {p a : Nat} (hp : p < 15) (ha : R p = some a) : bt (K.1 (bkr a).1 (bkr a).2 7) p = Lim σ p a := (((((s.2 p hp).2 a ha).1.2).2 p hp).2 ((s.2 p hp).2 a ha).2.2.1).1
theorem kSo.n (s : kSo ex K σ R) {p a u : Nat} (hp : p < 15) (ha : R p = some a) (hu : σ.1 37 (16 * a + p) = nI u) (hu12 : u < 12) : (u < 6 → K.1 ((bkr a).1 + 2) (bkr a).2 p = σ.1 38 (16 * a + p)) ∧ (6 ≤ u → u < 11 → K.1 ((bkr a).1 + 2) (bkr a).2 p = 0) ∧ (u = 11 → K.1 ((bkr a).1 + 3) (bkr a).2 p = σ.1 40 (16 * a + p) ∧ K.1 ((bkr a).1 + 4) (bkr a).2 p = σ.1 41 (16 * a + p) ∧ (∃ v, v < 3 ∧ σ.1 40 (16 * a + p) = nI (12 + v)) ∧ ((σ.1 41 (16 * a + p) = -1) ∨ ∃ w, w < 7 ∧ σ.1 41 (16 * a + p) = nI w ∧ (w < 6 → K.1 ((bkr a).1 + 2) (bkr a).2 p = σ.1 42 (16 * a + p)) ∧ (w = 6 → K.1 ((bkr a).1 + 2) (bkr a).2 p = 0))) := by
  obtain ⟨-, -, u', hu', e1, e2, e3, e4⟩ := (((((s.2 p hp).2 a ha).1.2).2 p hp).2 ((s.2 p hp).2 a ha).2.2.1)
  have : u' = u := by rw [hu] at e1; exact ((nI_eq (by omega) (by omega)).mp e1).symm
  subst this
  exact ⟨e2, e3, e4⟩
theorem kSo.am (s : kSo ex K σ R) {v a : Nat} (hv : v < 3) (ha : R (12 + v) = some a) (hn : σ.1 37 (16 * a + (12 + v)) = 11) : K.1 ((bkr a).1 + 3) (bkr a).2 (12 + v) = nI (12 + vAm σ v (R (12 + v))) ∧ vAm σ v (R (12 + v)) < 3 := by
  have h1 := ((s.n (u := 11) (by omega) ha hn (by decide)).2.2 rfl).1
  have h2 := vAm_lt ((s.2 (12 + v) (by omega)).2 a ha).2.1 (show vNd σ v (some a) = true from decide_eq_true hn)
  rw [ha, h1, h2.2]
  exact ⟨rfl, h2.1⟩
theorem c_circ_6 (h : KA A ex K S) {R : Nat → Option Nat} (s : kSo ex K σ R) {P : Option (Nat → qP)} {v x0 : Nat} (hv : v < 3) : ∀ n m k w, k + n = 3 → n < m → w < 3 → f_X9_isCircular_6 x0 m (nI (12 + v)) (some (A 61 0)) (nI (12 + w)) (nI (12 + k)) S = some (b2 (sRg (vK3 σ P R) v n w)) := by
  intro n
  induction n with
  | zero =>
    intro m k w hk hm h3
    obtain ⟨m, rfl⟩ : ∃ m', m = m' + 1 := ⟨m - 1, by omega⟩
    have hk : k = 3 := by omega
    subst hk
    rw [f_X9_isCircular_6, if_pos (by decide)]
    rfl
  | succ n ih =>
    intro m k w hk hm h3
    obtain ⟨m, rfl⟩ : ∃ m', m = m' + 1 := ⟨m - 1, by omega⟩
    rw [f_X9_isCircular_6, if_neg (show ¬ (15 : Int32) ≤ nI (12 + k) from ge15 (by omega)), s.g h (by omega), qqx]
    unfold sRg
    rw [vK3_g σ P R w h3]
    cases hR : R (12 + w) with
    | none =>
      have hn : vNd σ w (R (12 + w)) = false := by rw [hR]; rfl
      have := (vKn_n (P := P) hn).1
      rw [hR] at this
      rw [if_pos (show Option.map (bka A) none = none from rfl), this]
      rfl
    | some a =>
      have r1 := c_row h ((s.2 (12 + w) (by omega)).2 a hR).1 (t := 0) (p := 12 + w) (by decide) (by omega)
      have r3 := c_row h ((s.2 (12 + w) (by omega)).2 a hR).1 (t := 2) (p := 12 + w) (by decide) (by omega)
      rw [if_neg (fun z => by cases z)]
      show ((gR S (some (bka A a)) 6 8).bind _) = _
      rw [r1.1, qqx, r1.2, qqx, show K.1 ((bkr a).1 + 1 + 0) (bkr a).2 (12 + w) = σ.1 37 (16 * a + (12 + w)) from s.u (by omega) hR]
      by_cases c : σ.1 37 (16 * a + (12 + w)) = 11
      · have hn : vNd σ w (R (12 + w)) = true := by rw [hR]; exact decide_eq_true c
        have hy := (vKn_y (P := P) hn).1
        have ham := s.am h3 hR c
        rw [hR] at hy ham
        rw [if_pos c]
        show ((gR S (some (bka A a)) 6 10).bind _) = _
        rw [r3.1, qqx, r3.2, qqx, show K.1 ((bkr a).1 + 1 + 2) (bkr a).2 (12 + w) = nI (12 + vAm σ w (some a)) from ham.1, hy]
        by_cases cv : vAm σ w (some a) = v
        · rw [if_pos (by rw [cv])]
          show _ = some (b2 (if vAm σ w (some a) = v then true else _))
          rw [if_pos cv]
          rfl
        · rw [if_neg (by rw [nI_eqE (by omega) (by omega)]; omega), if_neg (show ¬ nI (12 + vAm σ w (some a)) < 12 from nI_nlt (a := 12 + vAm σ w (some a)) (b := 12) (by omega) (by omega)), if_pos (show nI (12 + vAm σ w (some a)) < 15 from nI_lt (b := 15) (by omega) (by decide)), nI_1]
          show _ = some (b2 (if vAm σ w (some a) = v then true else _))
          rw [if_neg cv]
          exact ih m (k + 1) _ (by omega) (by omega) ham.2
      · have hn : vNd σ w (R (12 + w)) = false := by rw [hR]; exact decide_eq_false c
        have := (vKn_n (P := P) hn).1
        rw [hR] at this
        rw [if_neg c, this]
        rfl
def vCs (σ : mS) (P : Option (Nat → qP)) (R : Nat → Option Nat) (s : Nat) : Int32 := if s = 7 then -1000002 else cod (vSy σ P R s)
def tOK (σ : mS) (P : Option (Nat → qP)) (R : Nat → Option Nat) (t : Nat × Nat × Nat) : Prop := ∀ w, w < 3 → g3 t w = 6 ∨ g3 t w = 7 ∨ (g3 t w < 6 ∧ okP (vSy σ P R (g3 t w)) ∧ ¬ (vSy σ P R (g3 t w)).1 < 0)
def tW (σ : mS) (P : Option (Nat → qP)) (R : Nat → Option Nat) (d i : Nat) (K : kS) (t : Nat × Nat × Nat) : Prop := ∀ v, v < 3 → K.1 (d + 1) i (12 + v) = vCs σ P R (g3 t v)
def kAb (ex : Nat → Nat → Prop) (K : kS) (d i : Nat) (P : Option (Nat → qP)) : Prop := match P with
  | none => K.2 d i 9 = none
  | some f => ∃ ka ia, K.2 d i 9 = some (ka, ia) ∧ kSt ex K ka ia ∧ (ka ≠ d ∨ ia ≠ i) ∧ ∀ v, v < 3 → K.1 (ka + 1) ia (12 + v) = cod (f v)
theorem c_fv41 (h : KA A ex K S) {d i v : Nat} (st : kSt ex K d i) {P : Option (Nat → qP)} (ab : kAb ex K d i P) (hv : v < 3) : f_X9_findVariable_41 (A d i) (nI (12 + v)) S = some (cod (vIn P v)) := by
  unfold f_X9_findVariable_41 f_X9_findVariable_62
  rw [h.R d 9 st.1 st.2.2.1]
  cases P with
  | none =>
    have ab : K.2 d i 9 = none := ab
    rw [ab, qqx, if_pos (show Option.map (kp A) none = none from rfl)]
    rfl
  | some f =>
    obtain ⟨ka, ia, h1, h2, -, h4⟩ := ab
    rw [h1, qqx, if_neg (fun z => by cases z), qqx]
    show ((gR S (some (A ka ia)) 9 0).bind _) = _
    rw [h2.v h, qqx, h2.a h (by omega), qqx, h4 v hv]
    rfl
theorem vCs_np {P : Option (Nat → qP)} {R : Nat → Option Nat} {s : Nat} (hs : s = 6 ∨ s = 7 ∨ (s < 6 ∧ okP (vSy σ P R s) ∧ ¬ (vSy σ P R s).1 < 0)) : (vCs σ P R s = -1000002) = (s = 7) ∧ (vCs σ P R s = -1000001) = (s = 6) := by
  unfold vCs
  rcases hs with rfl | rfl | ⟨h1, h2, h3⟩
  · rw [if_neg (by decide), show vSy σ P R 6 = (-1, 0) from rfl, cod_m]
    exact ⟨propext ⟨fun z => absurd z (by decide), fun z => absurd z (by decide)⟩, eq_self _ |>.trans (eq_self _).symm⟩
  · rw [if_pos rfl]
    exact ⟨eq_self _ |>.trans (eq_self _).symm, propext ⟨fun z => absurd z (by decide), fun z => absurd z (by decide)⟩⟩
  · rw [if_neg (by omega)]
    refine ⟨propext ⟨fun z => absurd z (cod_np h2), fun z => by omega⟩, propext ⟨fun z => ?_, fun z => by omega⟩⟩
    rw [cod_bad h2] at z
    rw [z] at h3
    exact absurd (by decide) h3
theorem sOwn_c {P : Option (Nat → qP)} {R : Nat → Option Nat} {v : Nat} (hv : v < 3) (hR : ∀ a, R (12 + v) = some a → rOK σ (12 + v) a) (hP : ∀ f, P = some f → okP (f v)) (hn : vNd σ v (R (12 + v)) = false) : vSy σ P R (sOwn (vK3 σ P R) v) = vBa σ P v (R (12 + v)) ∧ (sOwn (vK3 σ P R) v = 6 ∨ (sOwn (vK3 σ P R) v < 6 ∧ okP (vSy σ P R (sOwn (vK3 σ P R) v)) ∧ ¬ (vSy σ P R (sOwn (vK3 σ P R) v)).1 < 0)) := by
  have hok := vBa_ok hR hP
  obtain ⟨h1, h2⟩ := vKn_n (P := P) hn
  unfold sOwn
  rw [vK3_g σ P R v hv]
  by_cases c : vKn σ P v (R (12 + v)) = 1
  · rw [if_pos c]
    have e1 : vSy σ P R v = vBa σ P v (R (12 + v)) := if_pos hv
    rw [e1]
    rw [h2] at c
    exact ⟨rfl, Or.inr ⟨by omega, hok, Int32.not_lt.mpr c⟩⟩
  · rw [if_neg c]
    have : (vBa σ P v (R (12 + v))).1 < 0 := Int32.not_le.mp (fun z => c (h2.mpr z))
    rw [okP_neg hok] at this
    rw [this]
    exact ⟨rfl, Or.inl rfl⟩
theorem c_findVariable (h : KA A ex K S) {R : Nat → Option Nat} (s : kSo ex K σ R) {P : Option (Nat → qP)} {d i v : Nat} (st : kSt ex K d i) (ab : kAb ex K d i P) (hP : ∀ f, P = some f → ∀ v, v < 3 → okP (f v)) (hv : v < 3) {t : Nat × Nat × Nat} (ht : tOK σ P R t) (tw : tW σ P R d i K t) (h7 : g3 t v = 7) : f_X9_findVariable (A d i) (nI (12 + v)) ((R (12 + v)).map (bka A)) S = some (vCs σ P R (sSt (vK3 σ P R) t v)) ∧ (sSt (vK3 σ P R) t v = 6 ∨ sSt (vK3 σ P R) t v = 7 ∨ (sSt (vK3 σ P R) t v < 6 ∧ okP (vSy σ P R (sSt (vK3 σ P R) t v)) ∧ ¬ (vSy σ P R (sSt (vK3 σ P R) t v)).1 < 0)) := by
  have hRo : ∀ a, R (12 + v) = some a → rOK σ (12 + v) a := fun a ha => ((s.2 (12 + v) (by omega)).2 a ha).2.1
  have own : vNd σ v (R (12 + v)) = false → sSt (vK3 σ P R) t v = sOwn (vK3 σ P R) v := by
    intro hn
    unfold sSt
    rw [if_pos h7, vK3_g σ P R v hv, (vKn_n (P := P) hn).1]
  have ownc : vNd σ v (R (12 + v)) = false → vCs σ P R (sSt (vK3 σ P R) t v) = cod (vBa σ P v (R (12 + v))) ∧ (sSt (vK3 σ P R) t v = 6 ∨ sSt (vK3 σ P R) t v = 7 ∨ (sSt (vK3 σ P R) t v < 6 ∧ okP (vSy σ P R (sSt (vK3 σ P R) t v)) ∧ ¬ (vSy σ P R (sSt (vK3 σ P R) t v)).1 < 0)) := by
    intro hn
    obtain ⟨k1, k2⟩ := sOwn_c (P := P) hv hRo (fun f hf => hP f hf v hv) hn
    rw [own hn]
    refine ⟨?_, k2.imp id (fun z => Or.inr z)⟩
    unfold vCs
    rw [if_neg (by omega), k1]
  unfold f_X9_findVariable
  cases hR : R (12 + v) with
  | none =>
    have hn : vNd σ v (R (12 + v)) = false := by rw [hR]; rfl
    obtain ⟨k1, k2⟩ := ownc hn
    refine ⟨?_, k2⟩
    rw [if_pos (show Option.map (bka A) none = none from rfl), k1, hR]
    unfold f_X9_findVariable_15
    rw [if_neg (by decide), if_pos (show Option.map (bka A) none = none from rfl), c_fv41 h st ab hv]
    rfl
  | some a =>
    have hs9 := (s.2 (12 + v) (by omega)).2 a hR
    have r0 := c_row h hs9.1 (t := 0) (p := 12 + v) (by decide) (by omega)
    have r1 := c_row h hs9.1 (t := 1) (p := 12 + v) (by decide) (by omega)
    have r2 := c_row h hs9.1 (t := 2) (p := 12 + v) (by decide) (by omega)
    have r3 := c_row h hs9.1 (t := 3) (p := 12 + v) (by decide) (by omega)
    have hu1 := s.u (show 12 + v < 15 by omega) hR
    obtain ⟨u, hu, hu2, hu3, -, hu5⟩ := hs9.2.1
    have hun := s.n (show 12 + v < 15 by omega) hR hu2 hu
    rw [if_neg (show ¬ Option.map (bka A) (some a) = none from fun z => by cases z)]
    show ((gR S (some (bka A a)) 6 8).bind _) = _ ∧ _
    rw [r0.1, qqx, r0.2, qqx, show K.1 ((bkr a).1 + 1 + 0) (bkr a).2 (12 + v) = σ.1 37 (16 * a + (12 + v)) from hu1]
    unfold f_X9_findVariable_15
    rw [if_neg (show ¬ Option.map (bka A) (some a) = none from fun z => by cases z)]
    have e127 : ∀ w, w < 7 → f_X9_findVariable_127 (A d i) (nI (12 + v)) (Option.map (bka A) (some a)) (nI w) S = some (100000 * nI w + K.1 ((bkr a).1 + 2) (bkr a).2 (12 + v)) := by
      intro w _
      unfold f_X9_findVariable_127
      show ((gR S (some (bka A a)) 6 9).bind _) = _
      rw [r1.1, qqx, r1.2, qqx]
    by_cases c11 : σ.1 37 (16 * a + (12 + v)) = 11
    · have hn : vNd σ v (R (12 + v)) = true := by rw [hR]; exact decide_eq_true c11
      have ham := s.am hv hR c11
      have hy := vKn_y (P := P) hn
      have hu11 : u = 11 := by rw [hu2] at c11; exact (nI_eq (b := 11) (by omega) (by decide)).mp c11
      obtain ⟨-, n4, -, n6⟩ := hun.2.2 hu11
      have e9 : sSt (vK3 σ P R) t v = if g3 t (vAm σ v (R (12 + v))) = 6 then (if vSe σ v (R (12 + v)) = true then 3 + v else 6) else g3 t (vAm σ v (R (12 + v))) := by
        unfold sSt
        rw [if_pos h7, vK3_g σ P R v hv, hy.1]
        show (if g3 t (vAm σ v (R (12 + v))) = 6 then (if vKn σ P v (R (12 + v)) % 2 = 1 then 3 + v else 6) else g3 t (vAm σ v (R (12 + v)))) = _
        by_cases z : vKn σ P v (R (12 + v)) % 2 = 1
        · have z2 := hy.2.1
          rw [decide_eq_true z] at z2
          rw [if_pos z, if_pos z2.symm]
        · have z2 := hy.2.1
          rw [decide_eq_false z] at z2
          rw [if_neg z, if_neg (show ¬ vSe σ v (R (12 + v)) = true by rw [← z2]; decide)]
      rw [c11, if_neg (by decide), if_neg (by decide), if_neg (by decide), if_pos rfl]
      show ((gR S (some (bka A a)) 6 10).bind _) = _ ∧ _
      rw [r2.1, qqx, r2.2, qqx, show K.1 ((bkr a).1 + 1 + 2) (bkr a).2 (12 + v) = nI (12 + vAm σ v (R (12 + v))) from ham.1]
      have ham2 := ham.2
      generalize hw9 : vAm σ v (R (12 + v)) = w at e9 ham2 ⊢
      rw [if_neg (show ¬ nI (12 + w) < 12 from nI_nlt (a := 12 + w) (b := 12) (by omega) (by omega)), if_pos (show nI (12 + w) < 15 from nI_lt (b := 15) (by omega) (by decide)), st.v h, qqx, st.a h (by omega), qqx, tw w ham2]
      have hnp := vCs_np (ht w ham2)
      unfold f_X9_findVariable_103
      show ((gR S (some (bka A a)) 6 11).bind _) = _ ∧ _
      rw [r3.1, qqx, r3.2, qqx, show K.1 ((bkr a).1 + 1 + 3) (bkr a).2 (12 + v) = σ.1 41 (16 * a + (12 + v)) from n4]
      by_cases c6 : g3 t w = 6
      · rw [if_pos (hnp.2.mpr c6)]
        rw [if_pos c6] at e9
        rcases n6 with n7 | ⟨y, hy7, n8, n9, n10⟩
        · have hse : vSe σ v (R (12 + v)) = false := by rw [hR]; exact decide_eq_false (by rw [n7]; decide)
          rw [hse, if_neg (by decide)] at e9
          rw [if_pos n7, e9]
          unfold f_X9_findVariable_124
          exact ⟨by rw [c6], Or.inl rfl⟩
        · have hse : vSe σ v (R (12 + v)) = true := by rw [hR]; exact decide_eq_true (by rw [n8]; exact nI_pos' (by omega))
          rw [hse, if_pos rfl] at e9
          rw [if_neg (show ¬ σ.1 41 (16 * a + (12 + v)) = -1 from fun z => by
            have z2 : ¬ nI y < 0 := nI_pos (by omega)
            rw [← n8, z] at z2
            exact z2 (by decide)), e9, n8, e127 y hy7]
          have ok := vSc_ok hRo hn hse
          have e3 : vSy σ P R (3 + v) = vSc σ v (R (12 + v)) := by
            unfold vSy
            rw [if_neg (by omega), if_pos (by omega), show 3 + v - 3 = v by omega]
          have e4 : vSc σ v (R (12 + v)) = (nI y, K.1 ((bkr a).1 + 2) (bkr a).2 (12 + v)) := by
            rw [hR]
            show (σ.1 41 (16 * a + (12 + v)), if σ.1 41 (16 * a + (12 + v)) = 6 then 0 else σ.1 42 (16 * a + (12 + v))) = _
            rw [n8]
            by_cases z : y = 6
            · subst z; rw [if_pos (show nI 6 = 6 from rfl), n10 rfl]
            · rw [if_neg (show ¬ nI y = 6 from fun q => z ((nI_eq (b := 6) (by omega) (by decide)).mp q)), n9 (by omega)]
          refine ⟨?_, Or.inr (Or.inr ⟨by omega, by rw [e3]; exact ok.1, by rw [e3]; exact ok.2⟩)⟩
          unfold vCs
          rw [if_neg (by omega), e3, e4]
          show _ = some (if nI y < 0 then (-1000001 : Int32) else 100000 * nI y + _)
          rw [if_neg (nI_pos (by omega))]
      · rw [if_neg (fun z => c6 (hnp.2.mp z))]
        rw [if_neg c6] at e9
        unfold f_X9_findVariable_124
        rw [e9]
        exact ⟨rfl, ht w ham2⟩
    · have hn : vNd σ v (R (12 + v)) = false := by rw [hR]; exact decide_eq_false c11
      obtain ⟨k1, k2⟩ := ownc hn
      refine ⟨?_, k2⟩
      rw [k1, hR]
      have e1 : vBa σ P v (some a) = if σ.1 37 (16 * a + (12 + v)) = 8 ∨ σ.1 37 (16 * a + (12 + v)) = 9 then vIn P v else if σ.1 37 (16 * a + (12 + v)) ≤ 6 then (σ.1 37 (16 * a + (12 + v)), if σ.1 37 (16 * a + (12 + v)) = 6 then 0 else σ.1 38 (16 * a + (12 + v))) else (-1, 0) := rfl
      rw [e1]
      by_cases c7 : σ.1 37 (16 * a + (12 + v)) = 7
      · rw [if_pos c7, c7, if_neg (by decide), if_neg (by decide)]
        rfl
      · rw [if_neg c7]
        by_cases c8 : σ.1 37 (16 * a + (12 + v)) = 8
        · rw [if_pos c8, if_pos (Or.inl c8), c_fv41 h st ab hv]
        · rw [if_neg c8]
          by_cases c9 : σ.1 37 (16 * a + (12 + v)) = 9
          · rw [if_pos c9, if_pos (Or.inr c9), c_fv41 h st ab hv]
          · rw [if_neg c9, if_neg c11, if_neg (fun z => z.elim c8 c9)]
            have hu6 : u ≤ 6 := by
              have n7 : u ≠ 7 := fun z => c7 (by rw [hu2, z]; rfl)
              have n8 : u ≠ 8 := fun z => c8 (by rw [hu2, z]; rfl)
              have n9 : u ≠ 9 := fun z => c9 (by rw [hu2, z]; rfl)
              have n10 : u ≠ 10 := fun z => hs9.2.2.2 (by rw [hu2, z]; rfl)
              have n11 : u ≠ 11 := fun z => c11 (by rw [hu2, z]; rfl)
              omega
            rw [hu2, if_pos (show nI u ≤ 6 from nI_le (b := 6) hu6 (by decide)), e127 u (by omega)]
            show _ = some (if nI u < 0 then (-1000001 : Int32) else 100000 * nI u + (if nI u = 6 then 0 else σ.1 38 (16 * a + (12 + v))))
            rw [if_neg (nI_pos (by omega))]
            by_cases z : u = 6
            · subst z
              rw [if_pos (show nI 6 = 6 from rfl), hun.2.1 (by decide) (by decide)]
            · rw [if_neg (show ¬ nI u = 6 from fun q => z ((nI_eq (b := 6) (by omega) (by decide)).mp q)), hun.1 (by omega)]
def VI (d i : Nat) (k x j : Nat) : Prop := k = d + 1 ∧ x = i ∧ 12 ≤ j
theorem kAb.keep {d i : Nat} {K' : kS} {PI PR : Nat → Nat → Nat → Prop} {P : Option (Nat → qP)} (ab : kAb ex K d i P) (b : kB PI PR K K') (h1 : ∀ ka ia, (ka ≠ d ∨ ia ≠ i) → ∀ v, ¬ PI (ka + 1) ia (12 + v)) (h2 : ¬ PR d i 9) (h3 : ∀ ka ia, ¬ PR ka ia 0) : kAb ex K' d i P := by
  cases P with
  | none => show K'.2 d i 9 = none; rw [b.2 d i 9 h2]; exact ab
  | some f =>
    obtain ⟨ka, ia, g1, g2, g3, g4⟩ := ab
    exact ⟨ka, ia, by rw [b.2 d i 9 h2]; exact g1, g2.keep b (h3 ka ia), g3, fun v hv => by rw [b.1 _ _ _ (h1 ka ia g3 v)]; exact g4 v hv⟩
def kVs (ex : Nat → Nat → Prop) (K : kS) (σ : mS) (R : Nat → Option Nat) (P : Option (Nat → qP)) (d i : Nat) : Prop := kSo ex K σ R ∧ kSt ex K d i ∧ kAb ex K d i P ∧ ¬ kRow (d + 1)
theorem kVs.w {d i v : Nat} {R : Nat → Option Nat} {P : Option (Nat → qP)} (s : kVs ex K σ R P d i) (x : Int32) : kVs ex (kwI K (d + 1) i v x) σ R P d i := by
  have b : kB (fun k x j => k = d + 1 ∧ x = i ∧ j = v) F3 K (kwI K (d + 1) i v x) := (kB.rf K).I ⟨rfl, rfl, rfl⟩
  exact ⟨s.1.keep b (fun k i j hk _ z => s.2.2.2 (by rw [← z.1]; exact hk)) (fun _ _ _ _ _ _ z => z) (fun _ z => z), s.2.1.keep b (fun z => z), s.2.2.1.keep b (fun ka ia hne v z => by omega) (fun z => z) (fun _ _ z => z), s.2.2.2⟩
theorem tW_w {d i v : Nat} {R : Nat → Option Nat} {P : Option (Nat → qP)} (hv : v < 3) {t : Nat × Nat × Nat} {x : Nat} (h : ∀ w, w < 3 → w ≠ v → K.1 (d + 1) i (12 + w) = vCs σ P R (g3 t w)) : tW σ P R d i (kwI K (d + 1) i (12 + v) (vCs σ P R x)) (u3 t v x) := by
  intro w hw
  rw [g3u v hv w hw, kwI_1]
  by_cases c : w = v
  · rw [if_pos ⟨rfl, rfl, by omega⟩, if_pos c]
  · rw [if_neg (fun z => c (by omega)), if_neg c]
    exact h w hw c
theorem tOK_w {R : Nat → Option Nat} {P : Option (Nat → qP)} {v : Nat} (hv : v < 3) {t : Nat × Nat × Nat} {x : Nat} (ht : tOK σ P R t) (hx : x = 6 ∨ x = 7 ∨ (x < 6 ∧ okP (vSy σ P R x) ∧ ¬ (vSy σ P R x).1 < 0)) : tOK σ P R (u3 t v x) := by
  intro w hw
  rw [g3u v hv w hw]
  by_cases c : w = v
  · rw [if_pos c]; exact hx
  · rw [if_neg c]; exact ht w hw
def sSn (c : Nat × Nat × Nat) : Nat → Nat → Nat × Nat × Nat → Nat × Nat × Nat
  | 0, _, t => t
  | n + 1, v, t => sSn c n (v + 1) (sSv c t v)
theorem c_fvs_49 {R : Nat → Option Nat} {P : Option (Nat → qP)} {d i : Nat} (hP : ∀ f, P = some f → ∀ v, v < 3 → okP (f v)) {k40 : Option Nat → Int32 → cS → Option cS} {x2 : Int32} : ∀ n m v (t : Nat × Nat × Nat) (K : kS) (S : cS), KA A ex K S → kVs ex K σ R P d i → tOK σ P R t → tW σ P R d i K t → v + n = 3 → n < m → ∃ S' K', f_X9_findVariables_49 k40 (A d i) m (some (A 61 0)) x2 (nI (12 + v)) S = k40 (some (A 61 0)) (x2 + 1) S' ∧ KA A ex K' S' ∧ kVs ex K' σ R P d i ∧ tOK σ P R (sSn (vK3 σ P R) n v t) ∧ tW σ P R d i K' (sSn (vK3 σ P R) n v t) ∧ kB (VI d i) F3 K K' := by
  intro n
  induction n with
  | zero =>
    intro m v t K S h s ht tw hv hm
    obtain ⟨m, rfl⟩ : ∃ m', m = m' + 1 := ⟨m - 1, by omega⟩
    have hv : v = 3 := by omega
    subst hv
    rw [f_X9_findVariables_49, if_pos (by decide)]
    exact ⟨S, K, rfl, h, s, ht, tw, kB.rf K⟩
  | succ n ih =>
    intro m v t K S h s ht tw hv hm
    obtain ⟨m, rfl⟩ : ∃ m', m = m' + 1 := ⟨m - 1, by omega⟩
    have hv3 : v < 3 := by omega
    have e80 : ∀ S', f_X9_findVariables_80 k40 (f_X9_findVariables_49 k40 (A d i) m) (A d i) (some (A 61 0)) x2 (nI (12 + v)) S' = f_X9_findVariables_49 k40 (A d i) m (some (A 61 0)) x2 (nI (12 + (v + 1))) S' := fun S' => by
      unfold f_X9_findVariables_80
      rw [nI_1]
      rfl
    rw [f_X9_findVariables_49, if_neg (show ¬ (15 : Int32) ≤ nI (12 + v) from ge15 (by omega)), s.2.1.v h, qqx, s.2.1.a h (by omega), qqx, tw v hv3, qqx, s.1.g h (by omega), qqx, s.2.1.rc h, qqx]
    unfold sSn
    by_cases c7 : g3 t v = 7
    · rw [if_pos ((vCs_np (ht v hv3)).1.mpr c7)]
      obtain ⟨f1, f2⟩ := c_findVariable h s.1 s.2.1 s.2.2.1 hP hv3 ht tw c7
      rw [f1, qqx]
      obtain ⟨S1, e1, h1⟩ := h.SI (k := d + 1) (i := i) (j := 12 + v) (N := 15) s.2.1.2.1 s.2.1.2.2.2.1 s.2.1.2.2.2.2.2.1 (by omega) (vCs σ P R (sSt (vK3 σ P R) t v))
      rw [e1, qqx, e80]
      obtain ⟨S2, K2, e2, h2, s2, t2, w2, b2⟩ := ih m (v + 1) (sSv (vK3 σ P R) t v) _ S1 h1 (s.w _) (tOK_w hv3 ht f2) (tW_w hv3 (fun w hw _ => tw w hw)) (by omega) (by omega)
      exact ⟨S2, K2, e2, h2, s2, t2, w2, ((kB.rf K).I ⟨rfl, rfl, by omega⟩).tr b2⟩
    · rw [if_neg (fun z => c7 ((vCs_np (ht v hv3)).1.mp z)), e80]
      have e9 : sSv (vK3 σ P R) t v = u3 t v (g3 t v) := by
        unfold sSv sSt
        rw [if_neg c7]
      have e10 : ∀ w, w < 3 → g3 (sSv (vK3 σ P R) t v) w = g3 t w := by
        intro w hw
        rw [e9, g3u v hv3 w hw]
        by_cases c : w = v
        · rw [if_pos c, c]
        · rw [if_neg c]
      exact ih m (v + 1) (sSv (vK3 σ P R) t v) K S h s (fun w hw => by rw [e10 w hw]; exact ht w hw) (fun w hw => by rw [e10 w hw]; exact tw w hw) (by omega) (by omega)
def sSm (c : Nat × Nat × Nat) : Nat → Nat × Nat × Nat → Nat × Nat × Nat
  | 0, t => t
  | n + 1, t => sSm c n (sSn c 3 0 t)
theorem c_fvs_40 {R : Nat → Option Nat} {P : Option (Nat → qP)} {d i : Nat} (hP : ∀ f, P = some f → ∀ v, v < 3 → okP (f v)) : ∀ n m r (t : Nat × Nat × Nat) (K : kS) (S : cS), KA A ex K S → kVs ex K σ R P d i → tOK σ P R t → tW σ P R d i K t → r + n = 3 → n < m → ∃ S' K', f_X9_findVariables_40 (A d i) m (some (A 61 0)) (nI (12 + r)) S = some S' ∧ KA A ex K' S' ∧ kVs ex K' σ R P d i ∧ tW σ P R d i K' (sSm (vK3 σ P R) n t) ∧ kB (VI d i) F3 K K' := by
  intro n
  induction n with
  | zero =>
    intro m r t K S h s ht tw hv hm
    obtain ⟨m, rfl⟩ : ∃ m', m = m' + 1 := ⟨m - 1, by omega⟩
    have hv : r = 3 := by omega
    subst hv
    rw [f_X9_findVariables_40, if_pos (by decide)]
    exact ⟨S, K, rfl, h, s, tw, kB.rf K⟩
  | succ n ih =>
    intro m r t K S h s ht tw hv hm
    obtain ⟨m, rfl⟩ : ∃ m', m = m' + 1 := ⟨m - 1, by omega⟩
    rw [f_X9_findVariables_40, if_neg (show ¬ (15 : Int32) ≤ nI (12 + r) from ge15 (by omega))]
    obtain ⟨S1, K1, e1, h1, s1, t1, w1, b1⟩ := c_fvs_49 (A := A) (ex := ex) (σ := σ) (R := R) (d := d) (i := i) hP (k40 := f_X9_findVariables_40 (A d i) m) (x2 := nI (12 + r)) 3 4000 0 t K S h s ht tw (by omega) (by decide)
    have e1 : f_X9_findVariables_49 (f_X9_findVariables_40 (A d i) m) (A d i) 4000 (some (A 61 0)) (nI (12 + r)) (12 : Int32) S = _ := e1
    rw [e1, nI_1]
    obtain ⟨S2, K2, e2, h2, s2, w2, b2⟩ := ih m (r + 1) _ K1 S1 h1 s1 t1 w1 (by omega) (by omega)
    exact ⟨S2, K2, e2, h2, s2, w2, b1.tr b2⟩
theorem c_fvs_3 {R : Nat → Option Nat} {P : Option (Nat → qP)} {d i : Nat} : ∀ n m v (t : Nat × Nat × Nat) (K : kS) (S : cS), KA A ex K S → kVs ex K σ R P d i → (∀ w, w < v → w < 3 → K.1 (d + 1) i (12 + w) = vCs σ P R (g3 t w)) → (∀ w, w < v → w < 3 → g3 t w = sS0 (vK3 σ P R) w) → v + n = 3 → n < m → ∃ S' K' t', f_X9_findVariables_3 (A d i) m (some (A 61 0)) (nI (12 + v)) S = f_X9_findVariables_40 (A d i) 4000 (some (A 61 0)) (nI (12 + 0)) S' ∧ KA A ex K' S' ∧ kVs ex K' σ R P d i ∧ tW σ P R d i K' t' ∧ (∀ w, w < 3 → g3 t' w = sS0 (vK3 σ P R) w) ∧ kB (VI d i) F3 K K' := by
  intro n
  induction n with
  | zero =>
    intro m v t K S h s tw te hv hm
    obtain ⟨m, rfl⟩ : ∃ m', m = m' + 1 := ⟨m - 1, by omega⟩
    have hv : v = 3 := by omega
    subst hv
    rw [f_X9_findVariables_3, if_pos (by decide)]
    exact ⟨S, K, t, rfl, h, s, fun w hw => tw w hw hw, fun w hw => te w hw hw, kB.rf K⟩
  | succ n ih =>
    intro m v t K S h s tw te hv hm
    obtain ⟨m, rfl⟩ : ∃ m', m = m' + 1 := ⟨m - 1, by omega⟩
    have hv3 : v < 3 := by omega
    have hcirc := c_circ_6 (x0 := A d i) h s.1 (P := P) hv3 3 4000 0 v (by omega) (by decide) hv3
    have hcirc : f_X9_isCircular (A d i) (nI (12 + v)) (some (A 61 0)) S = some (b2 (sRg (vK3 σ P R) v 3 v)) := hcirc
    rw [f_X9_findVariables_3, if_neg (show ¬ (15 : Int32) ≤ nI (12 + v) from ge15 (by omega)), s.2.1.v h, qqx, s.2.1.rc h, qqx, hcirc, qqx, b2_i0]
    have go : ∀ x, x = sS0 (vK3 σ P R) v → ∃ S' K' t', f_X9_findVariables_30 (f_X9_findVariables_3 (A d i) m) (A d i) (some (A 61 0)) (nI (12 + v)) (some (A (d + 1) i)) (nI (12 + v)) (vCs σ P R x) S = f_X9_findVariables_40 (A d i) 4000 (some (A 61 0)) (nI (12 + 0)) S' ∧ KA A ex K' S' ∧ kVs ex K' σ R P d i ∧ tW σ P R d i K' t' ∧ (∀ w, w < 3 → g3 t' w = sS0 (vK3 σ P R) w) ∧ kB (VI d i) F3 K K' := by
      intro x hx
      obtain ⟨S1, e1, h1⟩ := h.SI (k := d + 1) (i := i) (j := 12 + v) (N := 15) s.2.1.2.1 s.2.1.2.2.2.1 s.2.1.2.2.2.2.2.1 (by omega) (vCs σ P R x)
      unfold f_X9_findVariables_30
      rw [e1, qqx, nI_1]
      obtain ⟨S2, K2, t2, e2, h2, s2, w2, q2, b2⟩ := ih m (v + 1) (u3 t v x) _ S1 h1 (s.w _) (fun w hw hw3 => by
          rw [g3u v hv3 w hw3, kwI_1]
          by_cases c : w = v
          · rw [if_pos ⟨rfl, rfl, by omega⟩, if_pos c]
          · rw [if_neg (fun z => c (by omega)), if_neg c]
            exact tw w (by omega) hw3) (fun w hw hw3 => by
          rw [g3u v hv3 w hw3]
          by_cases c : w = v
          · rw [if_pos c, c]; exact hx
          · rw [if_neg c]; exact te w (by omega) hw3) (by omega) (by omega)
      exact ⟨S2, K2, t2, e2, h2, s2, w2, q2, ((kB.rf K).I ⟨rfl, rfl, by omega⟩).tr b2⟩
    cases hrg : sRg (vK3 σ P R) v 3 v with
    | true =>
      rw [if_pos rfl]
      exact go 6 (by unfold sS0; rw [hrg]; rfl)
    | false =>
      rw [if_neg (by decide)]
      exact go 7 (by unfold sS0; rw [hrg]; rfl)
theorem g3_ext {t t' : Nat × Nat × Nat} (h : ∀ w, w < 3 → g3 t w = g3 t' w) : t = t' := Prod.ext (h 0 (by decide)) (Prod.ext (h 1 (by decide)) (h 2 (by decide)))
theorem c_findVariables (h : KA A ex K S) {R : Nat → Option Nat} {P : Option (Nat → qP)} {d i : Nat} (s : kVs ex K σ R P d i) (hP : ∀ f, P = some f → ∀ v, v < 3 → okP (f v)) : ∃ S' K', f_X9_findVariables (A d i) (some (A 61 0)) S = some S' ∧ KA A ex K' S' ∧ kVs ex K' σ R P d i ∧ (∀ v, v < 3 → K'.1 (d + 1) i (12 + v) = cod (qVar σ P R v)) ∧ kB (VI d i) F3 K K' := by
  obtain ⟨S1, K1, t1, e1, h1, s1, w1, q1, b1⟩ := c_fvs_3 (A := A) (ex := ex) (σ := σ) (R := R) (P := P) (d := d) (i := i) 3 4000 0 (0, 0, 0) K S h s (fun w hw => by omega) (fun w hw => by omega) (by omega) (by decide)
  have ht1 : t1 = (sS0 (vK3 σ P R) 0, sS0 (vK3 σ P R) 1, sS0 (vK3 σ P R) 2) := g3_ext (fun w hw => by
    rw [q1 w hw]
    obtain rfl | rfl | rfl : w = 0 ∨ w = 1 ∨ w = 2 := by omega
    all_goals rfl)
  obtain ⟨S2, K2, e2, h2, s2, w2, b2⟩ := c_fvs_40 (A := A) (ex := ex) (σ := σ) (R := R) (d := d) (i := i) hP 3 4000 0 t1 K1 S1 h1 s1 (fun w hw => by
    rw [q1 w hw]
    unfold sS0
    by_cases c : sRg (vK3 σ P R) w 3 w = true
    · rw [if_pos c]; exact Or.inl rfl
    · rw [if_neg c]; exact Or.inr (Or.inl rfl)) w1 (by omega) (by decide)
  refine ⟨S2, K2, ?_, h2, s2, fun v hv => ?_, b1.tr b2⟩
  · have e1 : f_X9_findVariables (A d i) (some (A 61 0)) S = f_X9_findVariables_40 (A d i) 4000 (some (A 61 0)) (nI (12 + 0)) S1 := e1
    rw [e1, e2]
  · have e3 : sSm (vK3 σ P R) 3 t1 = sCl (vK3 σ P R) := by rw [ht1]; rfl
    have h9 := w2 v hv
    rw [e3] at h9
    obtain ⟨g1, g2⟩ := vK3_eq (P := P) (fun v hv a ha => ((s.1.2 (12 + v) (by omega)).2 a ha).2.1) hv
    rw [h9, g1]
    unfold vCs
    rw [if_neg (by omega)]
    rfl
end CV9
