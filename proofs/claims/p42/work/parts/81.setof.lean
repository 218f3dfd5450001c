def KNd (G : qqG) (K : kS) (σ : mS) : Prop := ∀ s, s < Gs G → bt (K.1 17 s 9) s = true ∧ (∀ j, j < 32 → bt (K.1 17 s 9) j = true → j ≤ s ∧ ∀ i, i < 32 → bt (K.1 17 j 9) i = true → bt (K.1 17 s 9) i = true) ∧ ∀ a, qIn σ s a → bt (K.1 17 s 9) a = true
def KCh (T : qqT) (G : qqG) (K : kS) (σ : mS) : Prop := ∀ h : Option Nat, (∀ q, h = some q → q < Tn T) → K.1 57 0 (kTr h) = K.1 50 0 3 → ∀ s, s < Gs G → bt (K.1 56 0 (kTr h)) s = true → K.1 55 (kTr h) s = qMs T σ h s
def KMt (T : qqT) (G : qqG) (ex : Nat → Nat → Prop) (K : kS) (σ : mS) (v : Nat) : Prop :=
  (∀ s, s < Gs G → KSl ex K σ s s ∧ K.1 17 s 3 = nI s ∧ K.2 53 0 s = some (17, s) ∧ RSl σ s s) ∧ KNd G K σ ∧ K.1 52 0 2 = nI (Gs G) ∧ Gs G ≤ 30 ∧ (K.1 50 0 3 = nI v ∧ ∀ t, t < 31 → ∃ w, w ≤ v ∧ K.1 57 0 t = nI w) ∧
  (∀ t, t < 31 → ∀ s, s < 32 → bt (K.1 56 0 t) s = true → s < Gs G ∧ (t = 30 ∨ t < Tn T)) ∧ KCh T G K σ
def SOI (k _i _j : Nat) : Prop := k = 55 ∨ k = 56 ∨ k = 57
section CSO
variable {T : qqT} {G : qqG} {A : kA} {ex : Nat → Nat → Prop} {K K' : kS} {S : cS} {σ : mS} {h : Option Nat} {v : Nat}
theorem SOI_q {k i j : Nat} (z : SOI k i j) : qOI k i j := by unfold SOI at z; unfold qOI; omega
theorem KSl.keep {PI PR : Nat → Nat → Nat → Prop} {s r : Nat} (sl : KSl ex K σ s r) (hn : nC σ r ≤ 4) (b : kB PI PR K K') (h1 : ∀ k j, 17 ≤ k → k ≤ 33 → ¬ PI k s j) (h2 : ∀ k j, 17 ≤ k → k ≤ 33 → ¬ PR k s j) : KSl ex K' σ s r := by
  obtain ⟨⟨x17, f0, f1, f2, f4, f5⟩, sc⟩ := sl
  refine ⟨⟨x17, by rw [b.2 _ _ _ (h2 17 0 (by decide) (by decide))]; exact f0, by rw [b.2 _ _ _ (h2 17 1 (by decide) (by decide))]; exact f1, by rw [b.1 _ _ _ (h1 17 2 (by decide) (by decide))]; exact f2, by rw [b.1 _ _ _ (h1 17 4 (by decide) (by decide))]; exact f4, by rw [b.1 _ _ _ (h1 17 5 (by decide) (by decide))]; exact f5⟩, fun k hk => ?_⟩
  obtain ⟨a1, a2, a3, a4, a5, a6, a7, a8, a9⟩ := sc k hk
  refine ⟨a1, by rw [b.1 _ _ _ (h1 _ 4 (by omega) (by omega))]; exact a2, by rw [b.1 _ _ _ (h1 _ 5 (by omega) (by omega))]; exact a3, fun z => by rw [b.1 _ _ _ (h1 _ 0 (by omega) (by omega))]; exact a4 z, by rw [b.2 _ _ _ (h2 _ 1 (by omega) (by omega))]; exact a5, by rw [b.2 _ _ _ (h2 _ 2 (by omega) (by omega))]; exact a6, by rw [b.2 _ _ _ (h2 _ 3 (by omega) (by omega))]; exact a7, by rw [b.2 _ _ _ (h2 _ 9 (by omega) (by omega))]; exact a8, fun t ht => ?_⟩
  rw [b.1 _ _ _ (h1 _ t (by omega) (by omega)), b.1 _ _ _ (h1 _ t (by omega) (by omega)), b.1 _ _ _ (h1 _ t (by omega) (by omega))]
  exact a9 t ht
theorem KNd.keep {PI PR : Nat → Nat → Nat → Prop} (d : KNd G K σ) (b : kB PI PR K K') (hg : Gs G ≤ 30) (h1 : ∀ s, s < Gs G → ¬ PI 17 s 9) : KNd G K' σ := by
  intro s hs
  obtain ⟨a1, a2, a3⟩ := d s hs
  rw [b.1 _ _ _ (h1 s hs)]
  refine ⟨a1, fun j hj hb => ?_, a3⟩
  have := a2 j hj hb
  rw [b.1 _ _ _ (h1 j (by omega))]
  exact this
theorem KMt.keep {PI PR : Nat → Nat → Nat → Prop} (m : KMt T G ex K σ v) (b : kB PI PR K K') (h1 : ∀ k i j, PI k i j → (k ≤ 16 ∨ 34 ≤ k) ∧ ¬ (k = 52 ∧ j = 2) ∧ ¬ (k = 50 ∧ j = 3) ∧ k ≠ 55 ∧ k ≠ 56 ∧ k ≠ 57) (h2 : ∀ k i j, PR k i j → (k ≤ 16 ∨ 34 ≤ k) ∧ k ≠ 53) : KMt T G ex K' σ v := by
  obtain ⟨m1, m2, m3, m4, ⟨m5, m6⟩, m7, m8⟩ := m
  have n17 : ∀ k i j, 17 ≤ k → k ≤ 33 → ¬ PI k i j := fun k i j a b z => by have := (h1 k i j z).1; omega
  have e57 : ∀ t, K'.1 57 0 t = K.1 57 0 t := fun t => b.1 _ _ _ (fun z => (h1 _ _ _ z).2.2.2.2.2 rfl)
  have e56 : ∀ t, K'.1 56 0 t = K.1 56 0 t := fun t => b.1 _ _ _ (fun z => (h1 _ _ _ z).2.2.2.2.1 rfl)
  have e55 : ∀ t s, K'.1 55 t s = K.1 55 t s := fun t s => b.1 _ _ _ (fun z => (h1 _ _ _ z).2.2.2.1 rfl)
  have e50 : K'.1 50 0 3 = K.1 50 0 3 := b.1 _ _ _ (fun z => (h1 _ _ _ z).2.2.1 ⟨rfl, rfl⟩)
  refine ⟨fun s hs => ?_, m2.keep b m4 (fun s hs => n17 17 s 9 (by decide) (by decide)), ?_, m4, ⟨by rw [e50]; exact m5, fun t ht => by rw [e57]; exact m6 t ht⟩, fun t ht s hs hb => ?_, fun h hh hv s hs hb => ?_⟩
  · obtain ⟨a1, a2, a3, a4⟩ := m1 s hs
    exact ⟨a1.keep a4.n.2.1 b (fun k j h1 h2 => n17 k s j h1 h2) (fun k j h3 h4 z => by have := (h2 k s j z).1; omega), by rw [b.1 _ _ _ (n17 17 s 3 (by decide) (by decide))]; exact a2, by rw [b.2 _ _ _ (fun z => (h2 _ _ _ z).2 rfl)]; exact a3, a4⟩
  · rw [b.1 _ _ _ (fun z => (h1 _ _ _ z).2.1 ⟨rfl, rfl⟩)]; exact m3
  · rw [e56] at hb; exact m7 t ht s hs hb
  · rw [e57, e50] at hv
    rw [e56] at hb
    rw [e55]; exact m8 h hh hv s hs hb
theorem kTr_lt (hw : Tw T) (hh : ∀ q, h = some q → q < Tn T) : kTr h < 31 := by
  have := hw.n30
  cases h with
  | none => decide
  | some q => have := hh q rfl; show q < 31; omega
theorem kTr_inj (hw : Tw T) {h' : Option Nat} (hh : ∀ q, h = some q → q < Tn T) (hh' : ∀ q, h' = some q → q < Tn T) (e : kTr h = kTr h') : h = h' := by
  have := hw.n30
  cases h with
  | none =>
    cases h' with
    | none => rfl
    | some q => have := hh' q rfl; have e : 30 = q := e; omega
  | some p =>
    cases h' with
    | none => have := hh p rfl; have e : p = 30 := e; omega
    | some q => have e : p = q := e; rw [e]
theorem c_selectorAt (p9 : KP ex K) (hA : KA A ex K S) (hc : K.1 52 0 2 = nI (Gs G)) (hg : Gs G ≤ 30) {i : Nat} (hi : i < Gs G) (hr : K.2 53 0 i = some (17, i)) : f_X5_selectorAt (A 52 0) (nI i) S = some (some (A 17 i)) := by
  unfold f_X5_selectorAt f_X5_selectorAt_28
  rw [if_neg (nI_pos (by omega)), p9.I52 hA, hc, qqx, if_neg (nI_ge (by omega) (by omega)), if_neg (ge30 (by omega)), hA.R 52 5 (p9.x (by decide) (by decide) (by decide)) rfl, p9.2.2.1.2.1, qqx]
  show ((aR S (some (A 53 0)) 37 (nI i)).bind _) = _
  rw [hA.AR 53 37 30 (p9.x (by decide) (by decide) (by decide)) rfl (by omega), hr]
  rfl
theorem c_setOf (hw : Tw T) (q : KQ T ex K) (ke : KE T K σ) (m : KMt T G ex K σ v) (hv : v < 2 ^ 31) (hA : KA A ex K S) {s : Nat} (hs : s < Gs G) (hh : ∀ q, h = some q → q < Tn T) : ∃ S' K', f_X5_setOf (A 52 0) (some (A 17 s)) (el A h) S = some (qMs T σ h s, S') ∧ KA A ex K' S' ∧ KMt T G ex K' σ v ∧ kB SOI F3 K K' := by
  have h30 := hw.n30
  have tl := kTr_lt hw hh
  obtain ⟨t, p9, l, kr⟩ := id q
  obtain ⟨m1, m2, m3, m4, ⟨m5, m6⟩, m7, m8⟩ := id m
  obtain ⟨ss1, ss2, ss3, ss4⟩ := m1 s hs
  have x17 : ex 17 s := ss1.1.1
  have x52 : ex 52 0 := p9.x (by decide) (by decide) (by decide)
  have x56 : ex 56 0 := p9.x (by decide) (by decide) (by decide)
  have x57 : ex 57 0 := p9.x (by decide) (by decide) (by decide)
  have x54 : ex 54 0 := p9.x (by decide) (by decide) (by decide)
  have x55 : ex 55 (kTr h) := p9.1.2.1 _ tl
  have rd4 : ∀ (K1 : kS) (S1 : cS), KA A ex K1 S1 → kB SOI F3 K K1 → gR S1 (some (A 52 0)) 5 4 = some (some (A 54 0)) ∧ gR S1 (some (A 52 0)) 5 5 = some (some (A 56 0)) ∧ gR S1 (some (A 52 0)) 5 6 = some (some (A 57 0)) ∧ gR S1 (some (A 52 0)) 5 0 = some (some (A 50 0)) ∧ aR S1 (some (A 54 0)) 50 (nI (kTr h)) = some (some (A 55 (kTr h))) ∧ gI S1 (some (A 17 s)) 7 3 = some (nI s) ∧ gI S1 (some (A 17 s)) 7 9 = some (K.1 17 s 9) ∧ gI S1 (some (A 50 0)) 10 3 = some (nI v) := by
    intro K1 S1 h1 b1
    have p1 : KP ex K1 := p9.keep b1 (fun _ _ _ z => z.elim)
    refine ⟨by rw [h1.R 52 5 x52 rfl, p1.2.2.1.2.2.1]; rfl, by rw [h1.R 52 5 x52 rfl, p1.2.2.1.2.2.2.1]; rfl, by rw [h1.R 52 5 x52 rfl, p1.2.2.1.2.2.2.2.1]; rfl, p1.mtrees h1, by rw [h1.AR 54 50 31 x54 rfl tl, p1.2.2.1.2.2.2.2.2 _ tl]; rfl, ?_, ?_, ?_⟩
    · rw [h1.I 17 7 x17 rfl, b1.1 17 s 3 (by unfold SOI; omega), ss2]
    · rw [h1.I 17 7 x17 rfl, b1.1 17 s 9 (by unfold SOI; omega)]
    · rw [p1.I50 h1, b1.1 50 0 3 (by unfold SOI; omega), m5]
  have f78 : ∀ (K1 : kS) (S1 : cS), KA A ex K1 S1 → kB SOI F3 K K1 → KMt T G ex K1 σ v → K1.1 57 0 (kTr h) = K1.1 50 0 3 → ∃ S' K', f_X5_setOf_78 (A 52 0) (some (A 17 s)) (el A h) (nI (kTr h)) S1 = some (qMs T σ h s, S') ∧ KA A ex K' S' ∧ KMt T G ex K' σ v ∧ kB SOI F3 K K' := by
    intro K1 S1 h1 b1 mm1 hver
    obtain ⟨g4, g5, g6, g0, gs, gn, gd, gv⟩ := rd4 K1 S1 h1 b1
    obtain ⟨n1, n2, n3, n4, ⟨n5, n6⟩, n7, n8⟩ := id mm1
    have kn : aI S1 (some (A 56 0)) (nI (kTr h)) = some (K1.1 56 0 (kTr h)) := h1.AI 56 31 x56 rfl tl
    unfold f_X5_setOf_78
    rw [gd, qqx, g5, qqx, kn, qqx]
    generalize hmis : K.1 17 s 9 &&& (K1.1 56 0 (kTr h) ^^^ (-1)) = mis
    have hmb : ∀ j, j < 32 → bt mis j = (bt (K.1 17 s 9) j && !bt (K1.1 56 0 (kTr h)) j) := fun j hj => by rw [← hmis, b_and, bt_not hj]
    have e9 : K1.1 17 s 9 = K.1 17 s 9 := b1.1 17 s 9 (by unfold SOI; omega)
    have fin : ∀ i, (∀ j, j < 32 → bt mis j = true → j < i) → ∀ (K2 : kS) (S2 : cS), KA A ex K2 S2 → kB (fun k x _ => k = 55 ∧ x = kTr h) F3 K1 K2 → (∀ j, j < Gs G → (bt (K1.1 56 0 (kTr h)) j = true ∨ (j < i ∧ bt mis j = true)) → K2.1 55 (kTr h) j = qMs T σ h j) → ∃ S' K', f_X5_setOf_161 (A 52 0) (some (A 17 s)) (nI (kTr h)) mis S2 = some (qMs T σ h s, S') ∧ KA A ex K' S' ∧ KMt T G ex K' σ v ∧ kB SOI F3 K K' := by
      intro i all K2 S2 h2 b2' good
      have b12 : kB SOI F3 K K2 := b1.tr (b2'.wd (fun k i j z => Or.inl z.1) (fun _ _ _ z => z))
      obtain ⟨u4, u5, u6, u0, us, un, ud, uv⟩ := rd4 K2 S2 h2 b12
      have kn2 : aI S2 (some (A 56 0)) (nI (kTr h)) = some (K1.1 56 0 (kTr h)) := by rw [h2.AI 56 31 x56 rfl tl, b2'.1 56 0 _ (by omega)]
      obtain ⟨S3, e3, h3⟩ := h2.SI (k := 56) (i := 0) (j := kTr h) (N := 31) x56 rfl (by decide) tl (K1.1 56 0 (kTr h) ||| mis)
      have b3 : kB SOI F3 K2 (kwI K2 56 0 (kTr h) (K1.1 56 0 (kTr h) ||| mis)) := (kB.rf K2).I (Or.inr (Or.inl rfl))
      obtain ⟨w4, w5, w6, w0, ws, wn, wd, wv⟩ := rd4 _ S3 h3 (b12.tr b3)
      have hres : K2.1 55 (kTr h) s = qMs T σ h s := by
        refine good s hs ?_
        by_cases c : bt (K1.1 56 0 (kTr h)) s = true
        · exact Or.inl c
        · have : bt mis s = true := by rw [hmb s (by omega), (m2 s hs).1, Bool.not_eq_true _ |>.mp c]; rfl
          exact Or.inr ⟨all s (by omega) this, this⟩
      unfold f_X5_setOf_161
      rw [u5, qqx, kn2, qqx, e3, qqx, w4, qqx, ws, qqx, wn, qqx, h3.AI 55 30 x55 rfl (by omega), kwI_k (by decide), hres, qqx]
      have bq : kB SOI F3 K1 (kwI K2 56 0 (kTr h) (K1.1 56 0 (kTr h) ||| mis)) := (b2'.wd (QI := SOI) (QR := F3) (fun k i j z => Or.inl z.1) (fun _ _ _ z => z)).tr b3
      refine ⟨S3, _, rfl, h3, ⟨fun j hj => ?_, n2.keep bq n4 (fun j hj => by unfold SOI; omega), ?_, n4, ⟨?_, fun t' ht' => ?_⟩, fun t' ht' j hj hb => ?_, fun h' hh' hv' j hj hb => ?_⟩, b12.tr b3⟩
      · obtain ⟨a1, a2, a3, a4⟩ := n1 j hj
        exact ⟨a1.keep a4.n.2.1 bq (fun k j _ _ => by unfold SOI; omega) (fun _ _ _ _ z => z), by rw [bq.1 _ _ _ (by unfold SOI; omega)]; exact a2, by rw [bq.2 _ _ _ (fun z => z)]; exact a3, a4⟩
      · rw [bq.1 _ _ _ (by unfold SOI; omega)]; exact n3
      · rw [bq.1 _ _ _ (by unfold SOI; omega)]; exact n5
      · rw [kwI_k (by decide), b2'.1 57 0 _ (by omega)]; exact n6 t' ht'
      · by_cases c : t' = kTr h
        · subst c
          rw [kwI_s, b_or] at hb
          by_cases c2 : bt (K1.1 56 0 (kTr h)) j = true
          · exact n7 _ ht' j hj c2
          · rw [Bool.not_eq_true _ |>.mp c2, Bool.false_or, hmb j hj] at hb
            have hbn := ((Bool.and_eq_true _ _).mp hb).1
            have := ((m2 s hs).2.1 j hj hbn).1
            refine ⟨by omega, ?_⟩
            cases h with
            | none => exact Or.inl rfl
            | some q => exact Or.inr (hh q rfl)
        · rw [kwI_j c, b2'.1 56 0 _ (by omega)] at hb
          exact n7 t' ht' j hj hb
      · have hv'' : K1.1 57 0 (kTr h') = K1.1 50 0 3 := by
          rw [kwI_k (by decide), kwI_k (by decide), b2'.1 57 0 _ (by omega), b2'.1 50 0 _ (by omega)] at hv'
          exact hv'
        rw [kwI_k (by decide)]
        by_cases c : kTr h' = kTr h
        · have hhe := kTr_inj hw hh' hh c
          subst hhe
          rw [kwI_s, b_or] at hb
          refine good j hj ?_
          by_cases c2 : bt (K1.1 56 0 (kTr h')) j = true
          · exact Or.inl c2
          · rw [Bool.not_eq_true _ |>.mp c2, Bool.false_or] at hb
            exact Or.inr ⟨all j (by omega) hb, hb⟩
        · rw [kwI_j c, b2'.1 56 0 _ (by omega)] at hb
          rw [b2'.1 55 _ _ (by omega)]
          exact n8 h' hh' hv'' j hj hb
    have small : ∀ j, j < 32 → bt mis j = true → j ≤ s := fun j hj hb => by
      rw [hmb j hj] at hb
      exact ((m2 s hs).2.1 j hj ((Bool.and_eq_true _ _).mp hb).1).1
    have loop : ∀ d m9 i (K2 : kS) (S2 : cS), i + d = s + 1 → d < m9 → KA A ex K2 S2 → kB (fun k x _ => k = 55 ∧ x = kTr h) F3 K1 K2 → (∀ j, j < Gs G → (bt (K1.1 56 0 (kTr h)) j = true ∨ (j < i ∧ bt mis j = true)) → K2.1 55 (kTr h) j = qMs T σ h j) → ∃ S' K', f_X5_setOf_96 (A 52 0) m9 (some (A 17 s)) (el A h) (nI (kTr h)) mis (nI i) S2 = some (qMs T σ h s, S') ∧ KA A ex K' S' ∧ KMt T G ex K' σ v ∧ kB SOI F3 K K' := by
      intro d
      induction d with
      | zero =>
        intro m9 i K2 S2 hi hm h2 b2' good
        obtain ⟨m9, rfl⟩ : ∃ m', m9 = m' + 1 := ⟨m9 - 1, by omega⟩
        have b12 : kB SOI F3 K K2 := b1.tr (b2'.wd (fun k i j z => Or.inl z.1) (fun _ _ _ z => z))
        obtain ⟨u4, u5, u6, u0, us, un, ud, uv⟩ := rd4 K2 S2 h2 b12
        rw [f_X5_setOf_96, un, qqx, if_pos (nI_lt (by omega) (by omega))]
        exact fin i (fun j hj hb => by have := small j hj hb; omega) K2 S2 h2 b2' good
      | succ d ih =>
        intro m9 i K2 S2 hi hm h2 b2' good
        obtain ⟨m9, rfl⟩ : ∃ m', m9 = m' + 1 := ⟨m9 - 1, by omega⟩
        have b12 : kB SOI F3 K K2 := b1.tr (b2'.wd (fun k i j z => Or.inl z.1) (fun _ _ _ z => z))
        obtain ⟨u4, u5, u6, u0, us, un, ud, uv⟩ := rd4 K2 S2 h2 b12
        have q2 : KQ T ex K2 := by
          have bq := b12.wd (QI := qOI) (QR := qOR) (fun _ _ _ z => SOI_q z) (fun _ _ _ z => z.elim)
          exact ⟨t.va bq, p9.va bq, l.va bq, kr.va bq⟩
        rw [f_X5_setOf_96, un, qqx, if_neg (nI_nlt (a := s) (b := i) (by omega) (by omega))]
        by_cases c0 : mis = 0
        · rw [if_pos c0]
          exact fin i (fun j hj hb => by rw [c0, b_0] at hb; cases hb) K2 S2 h2 b2' good
        · have hig : i < Gs G := by omega
          rw [if_neg c0, q2.2.1.r5 h2, qqx, c_selectorAt (G := G) q2.2.1 h2 (by rw [b12.1 52 0 2 (by unfold SOI; omega)]; exact m3) m4 hig (by rw [b12.2 53 0 i (fun z => z)]; exact (m1 i hig).2.2.1), qqx, if_neg (fun z => by cases z), c_ask _ (by omega)]
          unfold f_X5_setOf_155
          rw [nI_1]
          by_cases cb : bt mis i = true
          · obtain ⟨i1, i2, i3, i4⟩ := m1 i hig
            have nd : bt (K.1 17 s 9) i = true := by
              rw [hmb i (by omega)] at cb
              exact ((Bool.and_eq_true _ _).mp cb).1
            have ncl := ((m2 s hs).2.1 i (by omega) nd).2
            have hfs := c_findSet (h := h) hw q2.1 q2.2.1 q2.2.2.1 q2 (ke.keep b12 (fun i j _ _ => by unfold SOI; omega)) h2 (i1.keep i4.n.2.1 b12 (fun k j _ _ => by unfold SOI; omega) (fun _ _ _ _ z => z)) i4 (by omega) tl hh
            have hval : qqM (qSv T σ (K2.1 55 (kTr h)) h i) (Tn T) = qMs T σ h i := by
              rw [qMs_eq (by omega) i4]
              refine qqM_congr (fun e _ => qSv_cgI i4 (fun a ha => ?_) e)
              have hai := qIn_lt i4 (by omega) ha
              refine good a (by omega) ?_
              have hna : bt (K.1 17 s 9) a = true := ncl a (by omega) ((m2 i hig).2.2 a ha)
              by_cases c2 : bt (K1.1 56 0 (kTr h)) a = true
              · exact Or.inl c2
              · refine Or.inr ⟨hai, ?_⟩
                rw [hmb a (by omega), hna, Bool.not_eq_true _ |>.mp c2]; rfl
            obtain ⟨S3, e3, h3⟩ := h2.SI (k := 55) (i := kTr h) (j := i) (N := 30) x55 rfl (by decide) (by omega) (qMs T σ h i)
            rw [if_pos cb, u4, qqx, us, qqx, qqx, us, qqx, qqx, hfs, qqx, hval, e3, qqx]
            have good3 : ∀ j, j < Gs G → (bt (K1.1 56 0 (kTr h)) j = true ∨ (j < i + 1 ∧ bt mis j = true)) → (kwI K2 55 (kTr h) i (qMs T σ h i)).1 55 (kTr h) j = qMs T σ h j := by
              intro j hj hc
              by_cases c2 : j = i
              · subst c2; rw [kwI_s]
              · rw [kwI_j c2]
                exact good j hj (hc.elim Or.inl (fun z => Or.inr ⟨by omega, z.2⟩))
            have b3 : kB (fun k x _ => k = 55 ∧ x = kTr h) F3 K1 (kwI K2 55 (kTr h) i (qMs T σ h i)) := b2'.I ⟨rfl, rfl⟩
            exact ih m9 (i + 1) _ S3 (by omega) (by omega) h3 b3 good3
          · rw [if_neg cb]
            refine ih m9 (i + 1) K2 S2 (by omega) (by omega) h2 b2' (fun j hj hc => good j hj (hc.elim Or.inl (fun z => Or.inr ⟨?_, z.2⟩)))
            by_cases c2 : j = i
            · rw [c2] at z; exact absurd z.2 cb
            · omega
    exact loop (s + 1) 4000 0 K1 S1 (by omega) (by omega) h1 (kB.rf K1) (fun j hj hc => hc.elim (fun z => n8 h hh hver j hj z) (fun z => absurd z.1 (Nat.not_lt_zero j)))
  obtain ⟨g4, g5, g6, g0, gs, gn, gd, gv⟩ := rd4 K S hA (kB.rf K)
  have f13 : ∃ S' K', f_X5_setOf_13 (A 52 0) (some (A 17 s)) (el A h) (nI (kTr h)) S = some (qMs T σ h s, S') ∧ KA A ex K' S' ∧ KMt T G ex K' σ v ∧ kB SOI F3 K K' := by
    have kv : aI S (some (A 57 0)) (nI (kTr h)) = some (K.1 57 0 (kTr h)) := hA.AI 57 31 x57 rfl tl
    unfold f_X5_setOf_13
    rw [if_neg (nI_pos (by omega)), if_neg (show ¬ (30 : Int32) < nI (kTr h) from nI_nlt (a := 30) (b := kTr h) (by omega) (by omega)), gn, qqx, if_neg (nI_pos (by omega)), qqx, if_pos (show nI s < (30 : Int32) from nI_lt (b := 30) (by omega) (by omega)), g6, qqx, kv, qqx, g0, qqx, gv, qqx]
    by_cases c : K.1 57 0 (kTr h) = nI v
    · rw [if_pos c]
      exact f78 K S hA (kB.rf K) m (by rw [c, m5])
    · rw [if_neg c, qqx, qqx, gv, qqx]
      obtain ⟨S1, e1, h1⟩ := hA.SI (k := 57) (i := 0) (j := kTr h) (N := 31) x57 rfl (by decide) tl (nI v)
      have b1 : kB SOI F3 K (kwI K 57 0 (kTr h) (nI v)) := (kB.rf K).I (Or.inr (Or.inr rfl))
      obtain ⟨-, u5, -⟩ := rd4 _ S1 h1 b1
      obtain ⟨S2, e2, h2⟩ := h1.SI (k := 56) (i := 0) (j := kTr h) (N := 31) x56 rfl (by decide) tl 0
      have b2' : kB SOI F3 K (kwI (kwI K 57 0 (kTr h) (nI v)) 56 0 (kTr h) 0) := b1.I (Or.inr (Or.inl rfl))
      rw [e1, qqx, u5, qqx, e2, qqx]
      refine f78 _ S2 h2 b2' ⟨fun j hj => ?_, m2.keep b2' m4 (fun j hj => by unfold SOI; omega), ?_, m4, ⟨?_, fun t' ht' => ?_⟩, fun t' ht' j hj hb => ?_, fun h' hh' hv' j hj hb => ?_⟩ ?_
      · obtain ⟨a1, a2, a3, a4⟩ := m1 j hj
        exact ⟨a1.keep a4.n.2.1 b2' (fun k j _ _ => by unfold SOI; omega) (fun _ _ _ _ z => z), by rw [b2'.1 _ _ _ (by unfold SOI; omega)]; exact a2, by rw [b2'.2 _ _ _ (fun z => z)]; exact a3, a4⟩
      · rw [b2'.1 _ _ _ (by unfold SOI; omega)]; exact m3
      · rw [b2'.1 _ _ _ (by unfold SOI; omega)]; exact m5
      · rw [kwI_k (by decide)]
        by_cases c2 : t' = kTr h
        · subst c2; rw [kwI_s]; exact ⟨v, Nat.le_refl _, rfl⟩
        · rw [kwI_j c2]; exact m6 t' ht'
      · by_cases c2 : t' = kTr h
        · subst c2; rw [kwI_s, b_0] at hb; cases hb
        · rw [kwI_j c2, kwI_k (by decide)] at hb; exact m7 t' ht' j hj hb
      · by_cases c2 : kTr h' = kTr h
        · rw [c2, kwI_s, b_0] at hb; cases hb
        · rw [kwI_j c2, kwI_k (by decide)] at hb
          rw [kwI_k (by decide), kwI_j c2, kwI_k (by decide), kwI_k (by decide)] at hv'
          rw [kwI_k (by decide), kwI_k (by decide)]
          exact m8 h' hh' hv' j hj hb
      · rw [kwI_k (by decide), kwI_s, kwI_k (by decide), kwI_k (by decide), m5]
  unfold f_X5_setOf
  cases h with
  | none => rw [if_pos (show el A none = none from rfl)]; exact f13
  | some p => rw [if_neg (show ¬ el A (some p) = none from fun z => by cases z), el_some, t.gn hA (hh p rfl), qqx]; exact f13
end CSO
