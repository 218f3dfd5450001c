def KLs (L : qqL) (ex : Nat → Nat → Prop) (K : kS) : Prop := K.1 49 0 5 = nI L.1 ∧ ∀ k, k < L.1 → ex 38 k ∧ K.2 63 0 k = some (38, k) ∧ K.2 38 k 0 = some (0, (L.2 k).1) ∧ K.1 38 k 1 = nI (L.2 k).2.1 ∧ K.2 38 k 2 = some (0, (L.2 k).2.2.1) ∧ K.1 38 k 3 = nI (L.2 k).2.2.2
def ordEq (x a : Int32) : Prop := ∃ o, x = b2 o ∧ (bt a 15 = false → o = bt a 14)
def gAl (G : qqG) (σ : mS) : Int32 := orF (fun r => σ.1 25 (Gse G r)) (Gr G)
def KFt (G : qqG) (K : kS) (σ : mS) : Prop :=
  (∀ s, s < Gs G → (∀ i, i < 14 → bt (K.1 17 s 10) i = bt (σ.1 23 s) i ∧ bt (K.1 17 s 11) i = bt (σ.1 24 s) i ∧ bt (K.1 17 s 12) i = bt (σ.1 25 s) i) ∧ ordEq (K.1 17 s 7) (σ.1 25 s) ∧ K.1 17 s 8 = b2 (bt (σ.1 25 s) 15) ∧ ∀ i, 16 ≤ i → i < 32 → bt (σ.1 25 s) i = false) ∧
  (∀ i, i < 14 → bt (K.1 58 0 9) i = bt (orF (fun r => σ.1 23 (Gse G r)) (Gr G)) i ∧ bt (K.1 58 0 10) i = bt (orF (fun r => σ.1 24 (Gse G r)) (Gr G)) i) ∧ ordEq (K.1 58 0 11) (gAl G σ) ∧ K.1 58 0 12 = b2 (bt (gAl G σ) 15)
def tBi (σ : mS) (i : Nat) : Int32 := if σ.1 17 i = 1 then (1 : Int32) <<< (σ.1 18 i &&& 31) else if σ.1 17 i = 2 then (256 : Int32) <<< (σ.1 18 i &&& 31) else if σ.1 17 i = 3 then (4096 : Int32) <<< (σ.1 18 i &&& 31) else if σ.1 17 i = 4 then 16384 else 0
def tDp (σ : mS) (i : Nat) : Int32 := if σ.1 17 i = 5 ∨ σ.1 17 i = 6 then σ.1 25 (tA σ i) else if σ.1 17 i = 7 then σ.1 25 (tB σ i) else 0
def tNs (σ : mS) (i : Nat) : Bool := decide (σ.1 17 i = 5 ∨ σ.1 17 i = 6) && decide (nC σ (tA σ i) = 1)
def tNr (σ : mS) (i : Nat) : Int32 := tBi σ i ||| (if tNs σ i = true then σ.1 23 (tA σ i) else 0)
def tFr (σ : mS) (i : Nat) : Int32 := if tNs σ i = true then σ.1 24 (tA σ i) else tDp σ i
def tAl (σ : mS) (i : Nat) : Int32 := (tBi σ i ||| tDp σ i) ||| (if σ.1 17 i = 7 then 32768 ||| (if 1 < tA σ i then 16384 else 0) else 0)
def sAl (σ : mS) (r : Nat) : Int32 := orF (fun k => (if 0 < k ∧ 1 < cO σ r k then 16384 else 0) ||| orF (fun t => tAl σ (16 * r + 4 * k + t)) (nTt σ r k)) (nC σ r)
def tWt (σ : mS) (i : Nat) : Int32 := if σ.1 17 i = 0 ∨ σ.1 17 i = 9 then 1 else if σ.1 17 i = 5 ∨ σ.1 17 i = 6 then σ.1 20 (tA σ i) else if σ.1 17 i = 7 then σ.1 20 (tB σ i) else 100
def wSm (σ : mS) (r : Nat) : Nat → Int32
  | 0 => 0
  | j + 1 => wSm σ r j + (if j / 4 < nC σ r ∧ j % 4 < nTt σ r (j / 4) then tWt σ (16 * r + j) else 0)
def JDf (G : qqG) (ex : Nat → Nat → Prop) (K : kS) (σ : mS) : Prop :=
  (KSl ex K σ (Gs G) 30 ∧ RSl σ 30 (Gs G) ∧ K.2 52 0 3 = some (17, Gs G) ∧ K.1 17 (Gs G) 3 = -1 ∧ ∀ k, k < 4 → nC σ 30 ≤ k → σ.1 16 (120 + k) = 0) ∧
  (∀ k, k < nC σ 30 → ∀ i, i < 14 → bt (K.1 (18 + k) (Gs G) 6) i = bt (orF (fun t => tNr σ (480 + 4 * k + t)) (nTt σ 30 k)) i ∧ bt (K.1 (18 + k) (Gs G) 7) i = bt (orF (fun t => tFr σ (480 + 4 * k + t)) (nTt σ 30 k)) i ∧ bt (K.1 (18 + k) (Gs G) 8) i = bt (orF (fun t => tAl σ (480 + 4 * k + t)) (nTt σ 30 k)) i) ∧
  K.1 17 (Gs G) 6 = wSm σ 30 16 ∧ ordEq (K.1 17 (Gs G) 7) (sAl σ 30) ∧ K.1 17 (Gs G) 8 = b2 (bt (sAl σ 30) 15) ∧
  (∀ j, j < 32 → (bt (K.1 17 (Gs G) 9) j = true ↔ ∃ a, qIn σ 30 a ∧ bt (K.1 17 a 9) j = true)) ∧ K.1 17 (Gs G) 10 = 0 ∧ K.1 17 (Gs G) 11 = 0 ∧ K.1 17 (Gs G) 12 = 0
def JFr (T : qqT) (G : qqG) (L : qqL) (ex : Nat → Nat → Prop) (σ : mS) : Prop :=
  ((∀ k e, k ≤ 10 → Tn T ≤ e → ¬ ex k e) ∧ (∀ k, Gk G ≤ k → ¬ ex 16 k) ∧ (∀ k r, 11 ≤ k → k ≤ 15 → Gr G ≤ r → ¬ ex k r) ∧ (∀ s, Gs G < s → ∀ k, 17 ≤ k → k ≤ 33 → ¬ ex k s) ∧ (∀ j, nC σ 30 ≤ j → j < 4 → ¬ ex (18 + j) (Gs G) ∧ ¬ ex (22 + j) (Gs G) ∧ ¬ ex (26 + j) (Gs G) ∧ ¬ ex (30 + j) (Gs G)) ∧ ∀ k, L.1 ≤ k → ¬ ex 38 k) ∧
  (∀ e, Tn T ≤ e → e < 30 → Ts T e = false ∧ σ.1 1 e = 0 ∧ σ.1 2 e = 0 ∧ σ.1 3 e = -1 ∧ σ.1 4 e = -1 ∧ σ.1 5 e = -1 ∧ (∀ p, p < 12 → σ.1 43 (12 * e + p) = 0) ∧ (∀ v, v < 3 → σ.1 44 (3 * e + v) = 0 ∧ σ.1 45 (3 * e + v) = 0) ∧ ∀ p, p < 5 → σ.1 47 (5 * e + p) = 0 ∧ σ.1 55 (5 * e + p) = -1) ∧
  (∀ a, a < 70 → ¬ VR T G a → ∀ p, p < 15 → σ.1 37 (16 * a + p) = -1) ∧ ∀ r, Gr G ≤ r → r < 40 → σ.1 35 r = 0
def JTr (T : qqT) (ex : Nat → Nat → Prop) (K : kS) (σ : mS) : Prop := KQ T ex K ∧ KV T K ∧ KE T K σ ∧ RT T σ
def JCa (T : qqT) (G : qqG) (ex : Nat → Nat → Prop) (K : kS) (σ : mS) : Prop := RC T G σ ∧ KC T G ex K σ ∧ (∀ a, VR T G a → KDr K σ a) ∧ RDv T G σ ∧ KFt G K σ
def JAn (T : qqT) (L : qqL) (ex : Nat → Nat → Prop) (K : kS) (σ : mS) : Prop := RAn σ ∧ anEq K σ ∧ RNw σ ∧ K.1 49 0 6 = σ.2 54 ∧ RLs T L σ ∧ KLs L ex K
def JVa (T : qqT) (K : kS) (σ : mS) : Prop := (∀ e, e < Tn T → eRl K σ e) ∧ (∀ e, e < Tn T → bt (σ.2 48) e = false → ∀ p, p < 5 → σ.1 55 (5 * e + p) = -1) ∧ (∀ e, e < 32 → ¬ (e < Tn T ∧ TD T e = true) → bt (σ.2 48) e = false) ∧ ∀ e, e < Tn T → TD T e = false → K.1 6 e 4 = 0
def JMk (T : qqT) (K : kS) (σ : mS) : Prop := mkD T σ ∧ (∀ e, e < Tn T → TD T e = true → bt (K.1 49 0 10) e = bt (σ.2 49) e) ∧ K.1 49 0 11 = σ.2 51 ∧ K.1 49 0 12 = σ.2 52 ∧ K.1 49 0 13 = σ.2 53
def J0 (T : qqT) (G : qqG) (L : qqL) (ex : Nat → Nat → Prop) (K : kS) (σ : mS) (v : Nat) : Prop := JTr T ex K σ ∧ JCa T G ex K σ ∧ JAn T L ex K σ ∧ JVa T K σ ∧ JMk T K σ ∧ (KMt T G ex K σ v ∧ σ.2 26 = nI (Gs G)) ∧ JDf G ex K σ ∧ JFr T G L ex σ
section REL
variable {T : qqT} {G : qqG} {L : qqL} {A : kA} {ex : Nat → Nat → Prop} {K K' : kS} {S : cS} {σ σ' : mS} {v : Nat} {PI PR : Nat → Nat → Nat → Prop}
theorem RT.cg (h : RT T σ) (k : ∀ f, f ∈ [0, 4, 6, 7, 8, 9, 10, 11, 12] → σ'.1 f = σ.1 f) (h2 : σ'.2 13 = σ.2 13) : RT T σ' := by
  unfold RT at h ⊢
  rw [k 0 (by decide), k 4 (by decide), k 6 (by decide), k 7 (by decide), k 8 (by decide), k 9 (by decide), k 10 (by decide), k 11 (by decide), k 12 (by decide), h2]
  exact h
def dTI (k _i j : Nat) : Prop := k = 0 ∨ (k = 1 ∧ j = 12) ∨ (k = 50 ∧ j ≠ 3)
def dTR (k _i j : Nat) : Prop := k = 0 ∨ (k = 6 ∧ j ≠ 9) ∨ k = 34 ∨ k = 35 ∨ (k = 39 ∧ j ≠ 9) ∨ (k = 44 ∧ j ≠ 9) ∨ (49 ≤ k ∧ k ≤ 51) ∨ (k = 52 ∧ j ≠ 3) ∨ k = 54 ∨ (k = 58 ∧ j ≠ 6 ∧ j ≠ 7) ∨ k = 62 ∨ k = 64
theorem JTr.kp (t : JTr T ex K σ) (b : kB PI PR K K') (h1 : ∀ k i j, PI k i j → ¬ dTI k i j) (h2 : ∀ k i j, PR k i j → ¬ dTR k i j) : JTr T ex K' σ := by
  obtain ⟨⟨q1, q2, q3, q4⟩, v, e, r⟩ := t
  have nI : ∀ k i j, dTI k i j → ¬ PI k i j := fun k i j d z => h1 k i j z d
  have nR : ∀ k i j, dTR k i j → ¬ PR k i j := fun k i j d z => h2 k i j z d
  refine ⟨⟨q1.keep b (fun i => ⟨nI _ _ _ (Or.inl rfl), nI _ _ _ (Or.inl rfl), nI _ _ _ (Or.inl rfl), nI _ _ _ (Or.inl rfl), nI _ _ _ (by unfold dTI; omega)⟩) (fun i => ⟨fun j _ _ => nR _ _ _ (Or.inl rfl), nR _ _ _ (Or.inl rfl), nR _ _ _ (Or.inl rfl), nR _ _ _ (by unfold dTR; omega), nR _ _ _ (by unfold dTR; omega), nR _ _ _ (by unfold dTR; omega), fun j => nR _ _ _ (by unfold dTR; omega)⟩), q2.keep b (fun k i j z hf => h2 k i j z (by unfold KPf at hf; unfold dTR; omega)), q3.keep b (fun i => ⟨nI _ _ _ (Or.inl rfl), nI _ _ _ (by unfold dTI; omega), nI _ _ _ (by unfold dTI; omega)⟩) (fun i => ⟨nR _ _ _ (Or.inl rfl), nR _ _ _ (Or.inl rfl), nR _ _ _ (Or.inl rfl)⟩), q4.keep b (fun i => nR _ _ _ (Or.inl rfl))⟩, v.keep b (fun i j hj => nR _ _ _ (by unfold dTR; omega)), e.keep b (fun i j _ _ => nI _ _ _ (Or.inl rfl)), r⟩
theorem JTr.cg (t : JTr T ex K σ) (k : ∀ f, f ∈ [0, 1, 2, 3, 4, 5, 6, 7, 8, 9, 10, 11, 12] → σ'.1 f = σ.1 f) (h2 : σ'.2 13 = σ.2 13) : JTr T ex K σ' := ⟨t.1, t.2.1, t.2.2.1.cg (fun f hf => k f (by revert f; decide)), t.2.2.2.cg (fun f hf => k f (by revert f; decide)) h2⟩
def dCI (k _i j : Nat) : Prop := (1 ≤ k ∧ k ≤ 5 ∧ (k = 1 → j ≠ 12)) ∨ (k = 11 ∧ j ≠ 12 ∧ j ≠ 13) ∨ (12 ≤ k ∧ k ≤ 17) ∨ k = 58
def dCR (k _i j : Nat) : Prop := k = 1 ∨ k = 11 ∨ k = 16 ∨ k = 59 ∨ k = 60 ∨ (k = 58 ∧ (j = 6 ∨ j = 7))
theorem KC.kp (c : KC T G ex K σ) (b : kB PI PR K K') (h1 : ∀ k i j, PI k i j → ¬ dCI k i j) (h2 : ∀ k i j, PR k i j → ¬ dCR k i j) : KC T G ex K' σ := by
  obtain ⟨c1, c2, c3, c4, c5⟩ := c
  have eI : ∀ k i j, dCI k i j → K'.1 k i j = K.1 k i j := fun k i j d => b.1 k i j (fun z => h1 k i j z d)
  have eR : ∀ k i j, dCR k i j → K'.2 k i j = K.2 k i j := fun k i j d => b.2 k i j (fun z => h2 k i j z d)
  refine ⟨fun k hk => ?_, fun r hr => ?_, fun e he => ?_, ?_, fun s hs => ?_⟩
  · rw [eI 16 k 0 (by unfold dCI; omega), eI 16 k 1 (by unfold dCI; omega), eR 16 k 2 (by unfold dCR; omega), eI 16 k 3 (by unfold dCI; omega), eI 16 k 4 (by unfold dCI; omega), eR 59 0 k (by unfold dCR; omega)]
    exact c1 k hk
  · rw [eI 11 r 0 (by unfold dCI; omega), eR 11 r 1 (by unfold dCR; omega), eR 11 r 2 (by unfold dCR; omega), eI 11 r 3 (by unfold dCI; omega), eI 11 r 4 (by unfold dCI; omega), eI 11 r 5 (by unfold dCI; omega), eR 11 r 8 (by unfold dCR; omega), eR 11 r 9 (by unfold dCR; omega), eR 11 r 10 (by unfold dCR; omega), eR 11 r 11 (by unfold dCR; omega), eR 11 r 14 (by unfold dCR; omega), eR 60 0 r (by unfold dCR; omega)]
    exact c2 r hr
  · rw [eR 1 e 1 (by unfold dCR; omega), eR 1 e 2 (by unfold dCR; omega), eI 1 e 3 (by unfold dCI; omega), eR 1 e 8 (by unfold dCR; omega), eR 1 e 9 (by unfold dCR; omega), eR 1 e 10 (by unfold dCR; omega), eR 1 e 11 (by unfold dCR; omega)]
    exact c3 e he
  · rw [eI 58 0 4 (by unfold dCI; omega), eI 58 0 5 (by unfold dCI; omega), eI 58 0 8 (by unfold dCI; omega), eR 58 0 6 (by unfold dCR; omega), eR 58 0 7 (by unfold dCR; omega)]
    exact c4
  · rw [eI 17 s 6 (by unfold dCI; omega)]
    exact c5 s hs
theorem KDr.kp {a : Nat} (c : KDr K σ a) (b : kB PI PR K K') (h1 : ∀ k i j, PI k i j → ¬ dCI k i j) : KDr K' σ a := by
  have hk := bkr_k a
  unfold KDr at c ⊢
  have e : ∀ t j, t < 5 → (t = 0 → j ≠ 12 ∧ j ≠ 13) → K'.1 ((bkr a).1 + t) (bkr a).2 j = K.1 ((bkr a).1 + t) (bkr a).2 j := fun t j ht hj => b.1 _ _ _ (fun z => h1 _ _ _ z (by unfold dCI; omega))
  have e0 : ∀ j, j ≠ 12 → j ≠ 13 → K'.1 (bkr a).1 (bkr a).2 j = K.1 (bkr a).1 (bkr a).2 j := fun j h1 h2 => e 0 j (by decide) (fun _ => ⟨h1, h2⟩)
  rw [e0 6 (by decide) (by decide), e0 7 (by decide) (by decide)]
  refine ⟨c.1, fun p hp => ?_⟩
  rw [e 1 p (by decide) (by omega), e 2 p (by decide) (by omega), e 3 p (by decide) (by omega), e 4 p (by decide) (by omega)]
  exact c.2 p hp
theorem KFt.kp (f : KFt G K σ) (b : kB PI PR K K') (h1 : ∀ k i j, PI k i j → ¬ dCI k i j) : KFt G K' σ := by
  have eI : ∀ k i j, dCI k i j → K'.1 k i j = K.1 k i j := fun k i j d => b.1 k i j (fun z => h1 k i j z d)
  obtain ⟨f1, f2, f3, f4⟩ := f
  refine ⟨fun s hs => ?_, ?_, ?_, ?_⟩
  · rw [eI 17 s 10 (by unfold dCI; omega), eI 17 s 11 (by unfold dCI; omega), eI 17 s 12 (by unfold dCI; omega), eI 17 s 7 (by unfold dCI; omega), eI 17 s 8 (by unfold dCI; omega)]
    exact f1 s hs
  · rw [eI 58 0 9 (by unfold dCI; omega), eI 58 0 10 (by unfold dCI; omega)]; exact f2
  · rw [eI 58 0 11 (by unfold dCI; omega)]; exact f3
  · rw [eI 58 0 12 (by unfold dCI; omega)]; exact f4
theorem JCa.kp (t : JCa T G ex K σ) (b : kB PI PR K K') (h1 : ∀ k i j, PI k i j → ¬ dCI k i j) (h2 : ∀ k i j, PR k i j → ¬ dCR k i j) : JCa T G ex K' σ := ⟨t.1, t.2.1.kp b h1 h2, fun a ha => (t.2.2.1 a ha).kp b h1, t.2.2.2.1, t.2.2.2.2.kp b h1⟩
theorem KFt.cg (f : KFt G K σ) (k : ∀ f, f ∈ [23, 24, 25] → σ'.1 f = σ.1 f) : KFt G K σ' := by
  unfold KFt gAl at f ⊢
  rw [k 23 (by decide), k 24 (by decide), k 25 (by decide)]
  exact f
theorem JCa.cg (t : JCa T G ex K σ) (k : ∀ f, f ∈ [20, 23, 24, 25, 27, 28, 29, 30, 32, 33, 34, 35, 37, 38, 39, 40, 41, 42] → σ'.1 f = σ.1 f) (h2 : ∀ f, f ∈ [31, 36, 50] → σ'.2 f = σ.2 f) : JCa T G ex K σ' := ⟨t.1.cg (fun f hf => k f (by revert f; decide)) (fun f hf => h2 f (by revert f; decide)), t.2.1.cg (fun f hf => k f (by revert f; decide)) h2, fun a ha => (t.2.2.1 a ha).cg (fun f hf => k f (by revert f; decide)), t.2.2.2.1.cg (fun f hf => k f (by revert f; decide)), t.2.2.2.2.cg (fun f hf => k f (by revert f; decide))⟩
def dNI (k _i j : Nat) : Prop := k = 34 ∨ k = 36 ∨ k = 37 ∨ k = 38 ∨ (k = 49 ∧ (j = 5 ∨ j = 6))
def dNR (k _i _j : Nat) : Prop := k = 38 ∨ k = 63
theorem KLs.kp (l : KLs L ex K) (b : kB PI PR K K') (h1 : ∀ k i j, PI k i j → ¬ dNI k i j) (h2 : ∀ k i j, PR k i j → ¬ dNR k i j) : KLs L ex K' := by
  have eI : ∀ k i j, dNI k i j → K'.1 k i j = K.1 k i j := fun k i j d => b.1 k i j (fun z => h1 k i j z d)
  have eR : ∀ k i j, dNR k i j → K'.2 k i j = K.2 k i j := fun k i j d => b.2 k i j (fun z => h2 k i j z d)
  refine ⟨by rw [eI 49 0 5 (by unfold dNI; omega)]; exact l.1, fun k hk => ?_⟩
  rw [eR 63 0 k (by unfold dNR; omega), eR 38 k 0 (by unfold dNR; omega), eI 38 k 1 (by unfold dNI; omega), eR 38 k 2 (by unfold dNR; omega), eI 38 k 3 (by unfold dNI; omega)]
  exact l.2 k hk
theorem JAn.kp (t : JAn T L ex K σ) (b : kB PI PR K K') (h1 : ∀ k i j, PI k i j → ¬ dNI k i j) (h2 : ∀ k i j, PR k i j → ¬ dNR k i j) : JAn T L ex K' σ := ⟨t.1, t.2.1.keep b (fun i j => ⟨fun z => h1 _ _ _ z (by unfold dNI; omega), fun z => h1 _ _ _ z (by unfold dNI; omega), fun z => h1 _ _ _ z (by unfold dNI; omega)⟩), t.2.2.1, by rw [b.1 49 0 6 (fun z => h1 _ _ _ z (by unfold dNI; omega))]; exact t.2.2.2.1, t.2.2.2.2.1, t.2.2.2.2.2.kp b h1 h2⟩
theorem RNw.cg (h : RNw σ) (k : ∀ f, f ∈ [55, 56, 59] → σ'.1 f = σ.1 f) (h2 : σ'.2 54 = σ.2 54) : RNw σ' := by
  unfold RNw at h ⊢
  rw [k 55 (by decide), k 56 (by decide), k 59 (by decide), h2]
  exact h
theorem JAn.cg (t : JAn T L ex K σ) (k : ∀ f, f ∈ [55, 56, 59, 60, 61, 62, 63, 64, 65, 66, 67, 68] → σ'.1 f = σ.1 f) (h2 : ∀ f, f ∈ [54, 70] → σ'.2 f = σ.2 f) : JAn T L ex K σ' := ⟨t.1.cg (fun f hf => k f (by revert f; decide)), t.2.1.cg (fun f hf => k f (by revert f; decide)), t.2.2.1.cg (fun f hf => k f (by revert f; decide)) (h2 54 (by decide)), by rw [h2 54 (by decide)]; exact t.2.2.2.1, t.2.2.2.2.1.cg (fun f hf => k f (by revert f; decide)) (h2 70 (by decide)), t.2.2.2.2.2⟩
theorem JVa.kp (t : JVa T K σ) (b : kB PI PR K K') (h1 : ∀ k i j, PI k i j → ¬ (6 ≤ k ∧ k ≤ 10)) : JVa T K' σ := ⟨fun e he => (t.1 e he).cg (rY.rf σ) rfl (fun k j k1 k2 _ => b.1 _ _ _ (fun z => h1 _ _ _ z ⟨k1, k2⟩)), t.2.1, t.2.2.1, fun e he hd => by rw [b.1 _ _ _ (fun z => h1 _ _ _ z ⟨by decide, by decide⟩)]; exact t.2.2.2 e he hd⟩
theorem JVa.cg (t : JVa T K σ) (k : ∀ f, f ∈ [43, 44, 45, 46, 47, 55, 56, 57, 58, 59] → σ'.1 f = σ.1 f) (h2 : σ'.2 48 = σ.2 48) : JVa T K σ' := ⟨fun e he => (t.1 e he).cg (rY.of k) (by rw [h2]) (fun _ _ _ _ _ => rfl), fun e he => by rw [h2, k 55 (by decide)]; exact t.2.1 e he, fun e he => by rw [h2]; exact t.2.2.1 e he, t.2.2.2⟩
theorem JMk.kp (t : JMk T K σ) (b : kB PI PR K K') (h1 : ∀ k i j, PI k i j → ¬ (k = 49 ∧ i = 0 ∧ 10 ≤ j ∧ j ≤ 13)) : JMk T K' σ := ⟨t.1, fun e he hd => by rw [b.1 49 0 10 (fun z => h1 _ _ _ z (by decide))]; exact t.2.1 e he hd, by rw [b.1 49 0 11 (fun z => h1 _ _ _ z (by decide))]; exact t.2.2.1, by rw [b.1 49 0 12 (fun z => h1 _ _ _ z (by decide))]; exact t.2.2.2.1, by rw [b.1 49 0 13 (fun z => h1 _ _ _ z (by decide))]; exact t.2.2.2.2⟩
theorem JMk.cg (t : JMk T K σ) (h2 : ∀ f, f ∈ [49, 51, 52, 53] → σ'.2 f = σ.2 f) : JMk T K σ' := by
  unfold JMk mkD at t ⊢
  rw [h2 49 (by decide), h2 51 (by decide), h2 52 (by decide), h2 53 (by decide)]
  exact t
theorem nC_cg (k : σ'.1 14 = σ.1 14) (s : Nat) : nC σ' s = nC σ s := by unfold nC; rw [k]
theorem qIn_cg (k : ∀ f, f ∈ [14, 16, 17, 18, 19] → σ'.1 f = σ.1 f) (s a : Nat) : qIn σ' s a = qIn σ s a := by
  unfold qIn nC nTt tA tB
  rw [k 14 (by decide), k 16 (by decide), k 17 (by decide), k 18 (by decide), k 19 (by decide)]
theorem KSl.cg {s r : Nat} (sl : KSl ex K σ s r) (k : ∀ f, f ∈ [14, 15, 16, 17, 18, 19, 21, 22] → σ'.1 f = σ.1 f) : KSl ex K σ' s r := by
  unfold KSl nC qHs nTt at sl ⊢
  rw [k 14 (by decide), k 15 (by decide), k 16 (by decide), k 17 (by decide), k 18 (by decide), k 19 (by decide), k 21 (by decide), k 22 (by decide)]
  exact sl
theorem KMt.cg (m : KMt T G ex K σ v) (k : ∀ f, f ∈ [0, 1, 2, 3, 4, 5, 14, 15, 16, 17, 18, 19, 21, 22] → σ'.1 f = σ.1 f) : KMt T G ex K σ' v := by
  obtain ⟨m1, m2, m3, m4, m5, m7, m8⟩ := m
  refine ⟨fun s hs => ?_, fun s hs => ?_, m3, m4, m5, m7, fun h hh hv s hs hb => ?_⟩
  · obtain ⟨a1, a2, a3, a4⟩ := m1 s hs
    exact ⟨a1.cg (fun f hf => k f (by revert f; decide)), a2, a3, a4.cg (fun f hf => k f (by revert f; decide))⟩
  · obtain ⟨a1, a2, a3⟩ := m2 s hs
    refine ⟨a1, a2, fun a ha => a3 a ?_⟩
    rw [qIn_cg (σ := σ) (fun f hf => k f (by revert f; decide))] at ha
    exact ha
  · rw [qMs_cg (σ := σ) (fun f hf => k f (by revert f; decide))]
    exact m8 h hh hv s hs hb
theorem JDf.kp (d : JDf G ex K σ) (b : kB PI PR K K') (h1 : ∀ k i j, PI k i j → ¬ (17 ≤ k ∧ k ≤ 33)) (h2 : ∀ k i j, PR k i j → ¬ (17 ≤ k ∧ k ≤ 33) ∧ ¬ (k = 52 ∧ j = 3)) : JDf G ex K' σ := by
  obtain ⟨⟨d1, d2, d3, d4, d5⟩, d6, d7, d8, d9, d10, d11⟩ := d
  have e17 : ∀ k i j, 17 ≤ k → k ≤ 33 → K'.1 k i j = K.1 k i j := fun k i j a c => b.1 _ _ _ (fun z => h1 _ _ _ z ⟨a, c⟩)
  have hn := d2.n
  refine ⟨⟨d1.keep hn.2.1 b (fun k j a c z => h1 _ _ _ z ⟨a, c⟩) (fun k j a c z => (h2 _ _ _ z).1 ⟨a, c⟩), d2, by rw [b.2 52 0 3 (fun z => (h2 _ _ _ z).2 ⟨rfl, rfl⟩)]; exact d3, by rw [e17 17 _ _ (by decide) (by decide)]; exact d4, d5⟩, fun k hk => ?_, ?_, ?_, ?_, ?_, ?_⟩
  · rw [e17 (18 + k) _ _ (by omega) (by omega), e17 (18 + k) _ _ (by omega) (by omega), e17 (18 + k) _ _ (by omega) (by omega)]; exact d6 k hk
  · rw [e17 17 _ _ (by decide) (by decide)]; exact d7
  · rw [e17 17 _ _ (by decide) (by decide)]; exact d8
  · rw [e17 17 _ _ (by decide) (by decide)]; exact d9
  · intro j hj
    rw [e17 17 _ _ (by decide) (by decide), d10 j hj]
    constructor
    · rintro ⟨a, h, k⟩; exact ⟨a, h, by rw [e17 17 _ _ (by decide) (by decide)]; exact k⟩
    · rintro ⟨a, h, k⟩; exact ⟨a, h, by rw [e17 17 _ _ (by decide) (by decide)] at k; exact k⟩
  · rw [e17 17 _ _ (by decide) (by decide), e17 17 _ _ (by decide) (by decide), e17 17 _ _ (by decide) (by decide)]; exact d11
theorem JDf.cg (d : JDf G ex K σ) (k : ∀ f, f ∈ [14, 15, 16, 17, 18, 19, 20, 21, 22, 23, 24, 25] → σ'.1 f = σ.1 f) : JDf G ex K σ' := by
  have k1 : ∀ f, f ∈ [14, 15, 16, 17, 18, 19, 21, 22] → σ'.1 f = σ.1 f := fun f hf => k f (by revert f; decide)
  obtain ⟨⟨d1, d2, d3, d4, d5⟩, d6, d7, d8, d9, d10, d11⟩ := d
  have n1 : ∀ s, nC σ' s = nC σ s := nC_cg (k 14 (by decide))
  have n2 : ∀ s j, nTt σ' s j = nTt σ s j := fun s j => by unfold nTt; rw [k 16 (by decide)]
  have n3 : ∀ i, tA σ' i = tA σ i := fun i => by unfold tA; rw [k 18 (by decide)]
  have n4 : ∀ i, tB σ' i = tB σ i := fun i => by unfold tB; rw [k 19 (by decide)]
  have n5 : ∀ i, tBi σ' i = tBi σ i := fun i => by unfold tBi; rw [k 17 (by decide), k 18 (by decide)]
  have n6 : ∀ i, tDp σ' i = tDp σ i := fun i => by unfold tDp; rw [k 17 (by decide), k 25 (by decide), n3, n4]
  have n7 : ∀ i, tNs σ' i = tNs σ i := fun i => by unfold tNs; rw [k 17 (by decide), n3, n1]
  have n8 : tNr σ' = tNr σ := funext fun i => by unfold tNr; rw [n5, n7, n3, k 23 (by decide)]
  have n9 : tFr σ' = tFr σ := funext fun i => by unfold tFr; rw [n6, n7, n3, k 24 (by decide)]
  have n10 : tAl σ' = tAl σ := funext fun i => by unfold tAl; rw [n5, n6, n3, k 17 (by decide)]
  have n11 : ∀ i, tWt σ' i = tWt σ i := fun i => by unfold tWt; rw [k 17 (by decide), k 20 (by decide), n3, n4]
  have n12 : ∀ s j, cO σ' s j = cO σ s j := fun s j => by unfold cO; rw [k 15 (by decide)]
  have n13 : sAl σ' 30 = sAl σ 30 := by
    unfold sAl
    rw [n1, n10]
    congr 1
    funext j
    rw [n12, n2]
  have n14 : ∀ j, wSm σ' 30 j = wSm σ 30 j := by
    intro j
    induction j with
    | zero => rfl
    | succ j ih =>
      show wSm σ' 30 j + (if j / 4 < nC σ' 30 ∧ j % 4 < nTt σ' 30 (j / 4) then tWt σ' (16 * 30 + j) else 0) = wSm σ 30 j + (if j / 4 < nC σ 30 ∧ j % 4 < nTt σ 30 (j / 4) then tWt σ (16 * 30 + j) else 0)
      rw [ih, n1, n2, n11]
  refine ⟨⟨d1.cg k1, d2.cg k1, d3, d4, fun j hj hn => by rw [k 16 (by decide)]; exact d5 j hj (by rw [← n1]; exact hn)⟩, fun j hj => ?_, by rw [n14]; exact d7, by rw [n13]; exact d8, by rw [n13]; exact d9, fun j hj => ?_, d11⟩
  · rw [n1] at hj
    rw [n8, n9, n10, n2]; exact d6 j hj
  · rw [d10 j hj]
    constructor
    · rintro ⟨a, h, w⟩; exact ⟨a, by rw [qIn_cg (σ := σ) (fun f hf => k f (by revert f; decide))]; exact h, w⟩
    · rintro ⟨a, h, w⟩; exact ⟨a, by rw [qIn_cg (σ := σ) (fun f hf => k f (by revert f; decide))] at h; exact h, w⟩
theorem JFr.cg (d : JFr T G L ex σ) (k : ∀ f, f ∈ [1, 2, 3, 4, 5, 14, 35, 37] → σ'.1 f = σ.1 f) (hr : ∀ e, Tn T ≤ e → e < 30 → rY e σ σ') : JFr T G L ex σ' := by
  obtain ⟨⟨d1, d2, d3, d4, d5, d6⟩, d7, d8, d9⟩ := d
  refine ⟨⟨d1, d2, d3, d4, by rw [nC_cg (k 14 (by decide))]; exact d5, d6⟩, fun e he h30 => ?_, by rw [k 37 (by decide)]; exact d8, by rw [k 35 (by decide)]; exact d9⟩
  obtain ⟨r1, r2, r3, r4, r5⟩ := hr e he h30
  obtain ⟨f1, f2, f3, f4, f5, f6, f7, f8, f9⟩ := d7 e he h30
  rw [k 1 (by decide), k 2 (by decide), k 3 (by decide), k 4 (by decide), k 5 (by decide)]
  exact ⟨f1, f2, f3, f4, f5, f6, fun p hp => by rw [r1 p hp]; exact f7 p hp, fun v hv => by rw [(r2 v hv).1, (r2 v hv).2]; exact f8 v hv, fun p hp => by rw [(r4 p hp).1, (r4 p hp).2.1]; exact f9 p hp⟩
end REL
