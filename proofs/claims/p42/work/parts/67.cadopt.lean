def AIe (e k i _j : Nat) : Prop := i = e ∧ 6 ≤ k ∧ k ≤ 10
def kAd (T : qqT) (ex : Nat → Nat → Prop) (K : kS) (σ : mS) : Prop := KT T ex K ∧ KP ex K ∧ KV T K ∧ anEq K σ
def trB (σ : mS) (e p : Nat) (nv ea : Int32) : Bool := decide (σ.1 43 (12 * e + p) ≠ -1000000) && (decide (nv ≠ -1000000) && decide (0 < ea))
def trC (σ : mS) (K' : kS) (e p : Nat) (nv ea : Int32) : Prop := if trB σ e p nv ea = true then K'.1 8 e p = qSeen σ e p ∧ K'.1 9 e p = σ.2 54 ∧ K'.1 10 e p = qTk σ e p ea nv else K'.1 10 e p = 0
theorem kwI_s (K : kS) (k i j : Nat) (v : Int32) : (kwI K k i j v).1 k i j = v := by rw [kwI_1, if_pos ⟨rfl, rfl, rfl⟩]
theorem kwI_k {K : kS} {k i j a b c : Nat} {v : Int32} (h : a ≠ k) : (kwI K k i j v).1 a b c = K.1 a b c := by rw [kwI_1, if_neg (fun z => h z.1)]
theorem kwI_i {K : kS} {k i j a b c : Nat} {v : Int32} (h : b ≠ i) : (kwI K k i j v).1 a b c = K.1 a b c := by rw [kwI_1, if_neg (fun z => h z.2.1)]
theorem kwI_j {K : kS} {k i j a b c : Nat} {v : Int32} (h : c ≠ j) : (kwI K k i j v).1 a b c = K.1 a b c := by rw [kwI_1, if_neg (fun z => h z.2.2)]
theorem kwR_s (K : kS) (k i j : Nat) (v : Option (Nat × Nat)) : (kwR K k i j v).2 k i j = v := by rw [kwR_2, if_pos ⟨rfl, rfl, rfl⟩]
theorem kwR_k {K : kS} {k i j a b c : Nat} {v : Option (Nat × Nat)} (h : a ≠ k) : (kwR K k i j v).2 a b c = K.2 a b c := by rw [kwR_2, if_neg (fun z => h z.1)]
theorem kwR_i {K : kS} {k i j a b c : Nat} {v : Option (Nat × Nat)} (h : b ≠ i) : (kwR K k i j v).2 a b c = K.2 a b c := by rw [kwR_2, if_neg (fun z => h z.2.1)]
theorem kwR_j {K : kS} {k i j a b c : Nat} {v : Option (Nat × Nat)} (h : c ≠ j) : (kwR K k i j v).2 a b c = K.2 a b c := by rw [kwR_2, if_neg (fun z => h z.2.2)]
section CAD
variable {T : qqT} {A : kA} {ex : Nat → Nat → Prop} {K K' : kS} {S : cS} {σ : mS}
theorem KV.keep {PI PR : Nat → Nat → Nat → Prop} (v : KV T K) (b : kB PI PR K K') (h : ∀ i j, (j = 0 ∨ j = 5 ∨ j = 6) → ¬ PR 6 i j) : KV T K' := fun e he => by
  rw [b.2 6 e 0 (h e 0 (by decide)), b.2 6 e 5 (h e 5 (by decide)), b.2 6 e 6 (h e 6 (by decide))]
  exact v e he
theorem anEq.keep {PI PR : Nat → Nat → Nat → Prop} (v : anEq K σ) (b : kB PI PR K K') (h : ∀ i j, ¬ PI 34 i j ∧ ¬ PI 36 i j ∧ ¬ PI 37 i j) : anEq K' σ := fun a ha => by
  obtain ⟨v1, v2, v3, v4⟩ := v a ha
  refine ⟨by rw [b.1 _ _ _ (h a 0).1]; exact v1, by rw [b.1 _ _ _ (h a 1).1]; exact v2, by rw [b.1 _ _ _ (h a 2).1]; exact v3, fun p hp => ?_⟩
  rw [b.1 _ _ _ (h a p).2.2]
  refine ⟨(v4 p hp).1, fun t ht hs => ?_⟩
  rw [b.1 _ _ _ (h (5 * a + p) t).2.1]
  exact (v4 p hp).2 t ht hs
theorem kAd.keep {e : Nat} (a : kAd T ex K σ) (b : kB (AIe e) F3 K K') : kAd T ex K' σ := ⟨a.1.keep b (fun i => by unfold AIe; omega) (fun i => ⟨fun _ _ _ z => z, fun z => z, fun z => z, fun z => z, fun z => z, fun z => z, fun _ z => z⟩), a.2.1.keep b (fun _ _ _ z => z.elim), a.2.2.1.keep b (fun _ _ _ z => z), a.2.2.2.keep b (fun i j => by unfold AIe; omega)⟩
theorem c_turn21 (h : KA A ex K S) (a : kAd T ex K σ) {e p : Nat} (he : e < Tn T) (hp : p < 5) : ∃ S', f_X9_turnTo_21 (A 6 e) (nI p) S = some S' ∧ KA A ex (kwI K 10 e p 0) S' := by
  obtain ⟨S1, e1, h1⟩ := h.SI (k := 10) (i := e) (j := p) (N := 5) (a.1.E he (by decide)) rfl (by decide) hp 0
  refine ⟨S1, ?_, h1⟩
  unfold f_X9_turnTo_21
  rw [a.1.g67 h he, qqx, e1, qqx]
theorem c_turn125 (h : KA A ex K S) (a : kAd T ex K σ) {e p : Nat} (he : e < Tn T) (hp : p < 5) (now seen len : Int32) : ∃ S', f_X9_turnTo_125 (A 6 e) (nI p) now seen len S = some S' ∧ KA A ex (kwI (kwI (kwI K 8 e p seen) 9 e p now) 10 e p len) S' := by
  have x6 : ex 6 e := a.1.E he (by decide)
  obtain ⟨S1, e1, h1⟩ := h.SI (k := 8) (i := e) (j := p) (N := 5) (a.1.E he (by decide)) rfl (by decide) hp seen
  obtain ⟨S2, e2, h2⟩ := h1.SI (k := 9) (i := e) (j := p) (N := 5) (a.1.E he (by decide)) rfl (by decide) hp now
  obtain ⟨S3, e3, h3⟩ := h2.SI (k := 10) (i := e) (j := p) (N := 5) (a.1.E he (by decide)) rfl (by decide) hp len
  have g5 : gR S (some (A 6 e)) 9 5 = some (some (A 8 e)) := by rw [h.R 6 9 x6 rfl, (a.2.2.1 e he).2.1]; rfl
  have g6 : gR S1 (some (A 6 e)) 9 6 = some (some (A 9 e)) := by rw [h1.R 6 9 x6 rfl, kwI_2, (a.2.2.1 e he).2.2]; rfl
  have g7 : gR S2 (some (A 6 e)) 9 7 = some (some (A 10 e)) := by rw [h2.R 6 9 x6 rfl, kwI_2, kwI_2, (a.1.1 e he).2.2.2.2.2.2.2.2.2.2.2.2.2]; rfl
  refine ⟨S3, ?_, h3⟩
  unfold f_X9_turnTo_125
  rw [g5, qqx, e1, qqx, g6, qqx, e2, qqx, g7, qqx, e3, qqx]
theorem c_turnTo (hw : Tw T) (h : KA A ex K S) (a : kAd T ex K σ) (ha : RAn σ) (hn : RNw σ) {e p : Nat} (he : e < Tn T) (hp : p < 5) (hv : K.1 7 e p = σ.1 43 (12 * e + p)) (te : tEq K σ e p) (im : iEq K σ e) (pe : pEq K σ e) (nv : Int32) {ea : Int32} (hb : bV ea) : ∃ S' K', f_X9_turnTo (A 6 e) (nI p) nv ea (σ.2 54) ((qPy σ e).map (A 34)) S = some S' ∧ KA A ex K' S' ∧ kB (fun k i j => (8 ≤ k ∧ k ≤ 10) ∧ i = e ∧ j = p) F3 K K' ∧ trC σ K' e p nv ea := by
  have h30 := hw.n30
  have x6 : ex 6 e := a.1.E he (by decide)
  have st := kSt_of hw a.1 a.2.1 a.2.2.1 false he
  have g0 : gR S (some (A 6 e)) 9 0 = some (some (A 7 e)) := st.v h
  have g5 : gR S (some (A 6 e)) 9 5 = some (some (A 8 e)) := by rw [h.R 6 9 x6 rfl, (a.2.2.1 e he).2.1]; rfl
  have g6 : gR S (some (A 6 e)) 9 6 = some (some (A 9 e)) := by rw [h.R 6 9 x6 rfl, (a.2.2.1 e he).2.2]; rfl
  have g7 : gR S (some (A 6 e)) 9 7 = some (some (A 10 e)) := a.1.g67 h he
  have a7 : aI S (some (A 7 e)) (nI p) = some (σ.1 43 (12 * e + p)) := by
    have : aI S (some (A 7 e)) (nI p) = some (K.1 7 e p) := st.a h (by omega)
    rw [this, hv]
  have a8 : aI S (some (A 8 e)) (nI p) = some (K.1 8 e p) := h.AI 8 5 (a.1.E he (by decide)) rfl hp
  have a9 : aI S (some (A 9 e)) (nI p) = some (K.1 9 e p) := h.AI 9 5 (a.1.E he (by decide)) rfl hp
  have a10 : aI S (some (A 10 e)) (nI p) = some (K.1 10 e p) := h.AI 10 5 (a.1.E he (by decide)) rfl hp
  have c21 : trB σ e p nv ea = false → ∃ S' K', f_X9_turnTo_21 (A 6 e) (nI p) S = some S' ∧ KA A ex K' S' ∧ kB (fun k i j => (8 ≤ k ∧ k ≤ 10) ∧ i = e ∧ j = p) F3 K K' ∧ trC σ K' e p nv ea := by
    intro hf
    obtain ⟨S1, e1, h1⟩ := c_turn21 h a he hp
    refine ⟨S1, _, e1, h1, (kB.rf K).I ⟨⟨by decide, by decide⟩, rfl, rfl⟩, ?_⟩
    unfold trC
    rw [hf, if_neg (by decide), kwI_1, if_pos ⟨rfl, rfl, rfl⟩]
  have c125 : trB σ e p nv ea = true → ∀ len, len = qTk σ e p ea nv → ∃ S' K', f_X9_turnTo_125 (A 6 e) (nI p) (σ.2 54) (qSeen σ e p) len S = some S' ∧ KA A ex K' S' ∧ kB (fun k i j => (8 ≤ k ∧ k ≤ 10) ∧ i = e ∧ j = p) F3 K K' ∧ trC σ K' e p nv ea := by
    intro ht len hl
    obtain ⟨S1, e1, h1⟩ := c_turn125 h a he hp (σ.2 54) (qSeen σ e p) len
    refine ⟨S1, _, e1, h1, (((kB.rf K).I ⟨⟨by decide, by decide⟩, rfl, rfl⟩).I ⟨⟨by decide, by decide⟩, rfl, rfl⟩).I ⟨⟨by decide, by decide⟩, rfl, rfl⟩, ?_⟩
    unfold trC
    rw [ht, if_pos rfl, kwI_k (show 8 ≠ 10 by decide), kwI_k (show 8 ≠ 9 by decide), kwI_s, kwI_k (show 9 ≠ 10 by decide), kwI_s, kwI_s]
    exact ⟨rfl, rfl, hl⟩
  unfold f_X9_turnTo
  rw [g0, qqx, a7, qqx]
  unfold trB at c21 c125
  by_cases c1 : σ.1 43 (12 * e + p) = -1000000
  · rw [if_pos c1]
    exact c21 (by rw [decide_eq_false (fun z => z c1)]; rfl)
  rw [if_neg c1]
  by_cases c2 : nv = -1000000
  · rw [if_pos c2]
    exact c21 (by rw [decide_eq_false (show ¬ nv ≠ -1000000 from fun z => z c2), Bool.false_and, Bool.and_false])
  rw [if_neg c2]
  by_cases c3 : ¬ 0 < ea
  · rw [if_neg c3]
    exact c21 (by rw [decide_eq_false c3, Bool.and_false, Bool.and_false])
  have c3 : 0 < ea := Decidable.not_not.mp c3
  have ht : (decide (σ.1 43 (12 * e + p) ≠ -1000000) && (decide (nv ≠ -1000000) && decide (0 < ea))) = true := by rw [decide_eq_true c1, decide_eq_true c2, decide_eq_true c3]; rfl
  rw [if_pos c3, a.1.r9 h he, qqx, c_seenAt hw a.1 a.2.1 a.2.2.1 h ha hn a.2.2.2 he hp hv te im pe, qqx, g6, qqx, a9, qqx, g7, qqx, a10, qqx, qqx, a10, qqx]
  obtain ⟨nw, w1, w2, w3, w4⟩ := id hn
  rcases te with ⟨t1, t2⟩ | ⟨t1, t2, t3, t4, t5⟩
  · rw [t2, if_pos (Int32.le_refl _)]
    refine c125 ht ea ?_
    unfold qTk qMv
    rw [t1, decide_eq_false (show ¬ (0 : Int32) ≤ -1 by decide), Bool.false_and, Bool.false_and, if_neg (by decide)]
  · rcases w4 (5 * e + p) (by omega) with h5 | ⟨k, k1, k2, m, m1, m2, m3⟩
    · exact absurd h5 t1
    · have hm0 : ¬ nI m ≤ 0 := Int32.not_le.mpr (nI_lt (a := 0) (by omega) (by omega))
      have emv : qMv σ e p = decide (¬ nI m ≤ σ.2 54 - σ.1 55 (5 * e + p)) := by
        unfold qMv
        rw [m3, k2, decide_eq_true (show (0 : Int32) ≤ nI k from nI_pos' (by omega)), Bool.true_and]
        exact decide_eq_decide.mpr Int32.not_le.symm
      rw [t3, t2, m3, if_neg hm0]
      by_cases d1 : nI m ≤ σ.2 54 - σ.1 55 (5 * e + p)
      · rw [if_pos d1]
        refine c125 ht ea ?_
        unfold qTk
        rw [emv, decide_eq_false (fun z => z d1), Bool.false_and, if_neg (by decide)]
      · rw [if_neg d1, g5, qqx, a8, qqx, t4]
        by_cases d2 : nv = σ.1 57 (5 * e + p)
        · rw [if_pos d2, qqx, a10, qqx, qqx, a10, qqx, t3, m3, ldv_n (l_n0 m1 (by omega)), qqx]
          unfold f_X9_turnTo_123
          have hq : qTk σ e p ea nv = (if (1 : Int32) ≤ ((ea.toInt64 * (σ.2 54 - σ.1 55 (5 * e + p)).toInt64 + (nI m).toInt64 - 1) / (nI m).toInt64).toInt32 then ((ea.toInt64 * (σ.2 54 - σ.1 55 (5 * e + p)).toInt64 + (nI m).toInt64 - 1) / (nI m).toInt64).toInt32 else 1) := by
            unfold qTk
            rw [emv, decide_eq_true d1, decide_eq_true d2, if_pos (show (true && true) = true from rfl), m3]
          by_cases d3 : (1 : Int32) ≤ ((ea.toInt64 * (σ.2 54 - σ.1 55 (5 * e + p)).toInt64 + (nI m).toInt64 - 1) / (nI m).toInt64).toInt32
          · rw [if_pos d3]
            exact c125 ht _ (by rw [hq, if_pos d3])
          · rw [if_neg d3]
            exact c125 ht _ (by rw [hq, if_neg d3])
        · rw [if_neg d2]
          refine c125 ht ea ?_
          unfold qTk
          rw [decide_eq_false d2, Bool.and_false, if_neg (by decide)]
def fdS (K : kS) (nv : Nat → Int32) : Prop := ∀ p, p < 15 → K.1 45 0 p = nv p
def AI4 (e k i j : Nat) : Prop := k = 6 ∧ i = e ∧ j = 4
def AI8 (e k i _j : Nat) : Prop := i = e ∧ 8 ≤ k ∧ k ≤ 10
theorem AI4_e {e k i j : Nat} (h : AI4 e k i j) : AIe e k i j := by unfold AI4 at h; unfold AIe; omega
theorem AI8_e {e k i j : Nat} (h : AI8 e k i j) : AIe e k i j := by unfold AI8 at h; unfold AIe; omega
theorem fdS.keep {e : Nat} {nv : Nat → Int32} (f : fdS K nv) (b : kB (AIe e) F3 K K') : fdS K' nv := fun p hp => by
  rw [b.1 45 0 p (by unfold AIe; omega)]
  exact f p hp
theorem fd_v (p9 : KP ex K) (h : KA A ex K S) : gR S (some (A 44 0)) 9 0 = some (some (A 45 0)) := by rw [h.R 44 9 (p9.1.2.2.2.2.2 0 44 (by decide) (by decide) (by decide)) rfl, (p9.2.2.2.2.2.2 0 (by decide)).1]; rfl
theorem fd_a (p9 : KP ex K) (h : KA A ex K S) {nv : Nat → Int32} (f : fdS K nv) {p : Nat} (hp : p < 15) : aI S (some (A 45 0)) (nI p) = some (nv p) := by rw [h.AI 45 15 (p9.1.2.2.2.2.2 0 45 (by decide) (by decide) (by decide)) rfl hp, f p hp]
theorem c_ad3 (hw : Tw T) {e : Nat} (he : e < Tn T) {nv : Nat → Int32} {had : Bool} (now : Int32) (pl : Option Nat) {K0 : kS} (hk : K0.1 6 e 1 = b2 had) : ∀ (d m p : Nat) (K : kS) (S : cS), KA A ex K S → kAd T ex K σ → fdS K nv → kB (AI4 e) F3 K0 K → (∀ q, q < 32 → bt (K.1 6 e 4) q = (decide (q < p) && (had && decide (K0.1 7 e q ≠ nv q)))) → p + d = 15 → d < m → ∃ S' K', f_X9_adopt_3 (A 6 e) m (some (A 44 0)) now pl (nI p) S = f_X9_adopt_56 (A 6 e) 4000 (some (A 44 0)) now pl (nI 0) S' ∧ KA A ex K' S' ∧ kB (AI4 e) F3 K0 K' ∧ ∀ q, q < 32 → bt (K'.1 6 e 4) q = (decide (q < 15) && (had && decide (K0.1 7 e q ≠ nv q))) := by
  intro d
  induction d with
  | zero =>
    intro m p K S h a f b hb hp hm
    obtain ⟨m, rfl⟩ : ∃ m', m = m' + 1 := ⟨m - 1, by omega⟩
    have hp : p = 15 := by omega
    subst hp
    rw [f_X9_adopt_3, if_pos (show (15 : Int32) ≤ nI 15 by decide)]
    exact ⟨S, K, rfl, h, b, hb⟩
  | succ d ih =>
    intro m p K S h a f b hb hp hm
    obtain ⟨m, rfl⟩ : ∃ m', m = m' + 1 := ⟨m - 1, by omega⟩
    have hp15 : p < 15 := by omega
    have st := kSt_of hw a.1 a.2.1 a.2.2.1 false he
    have g0 : gR S (some (A 6 e)) 9 0 = some (some (A 7 e)) := st.v h
    have a7 : aI S (some (A 7 e)) (nI p) = some (K0.1 7 e p) := by
      have : aI S (some (A 7 e)) (nI p) = some (K.1 7 e p) := st.a h hp15
      rw [this, b.1 7 e p (by unfold AI4; omega)]
    have g1 : gI S (some (A 6 e)) 9 1 = some (b2 had) := by
      rw [h.I 6 9 (a.1.E he (by decide)) rfl, b.1 6 e 1 (by unfold AI4; omega), hk]
    have skip : (had && decide (K0.1 7 e p ≠ nv p)) = false → ∃ S' K', f_X9_adopt_47 (f_X9_adopt_3 (A 6 e) m) (A 6 e) (some (A 44 0)) now pl (nI p) S = f_X9_adopt_56 (A 6 e) 4000 (some (A 44 0)) now pl (nI 0) S' ∧ KA A ex K' S' ∧ kB (AI4 e) F3 K0 K' ∧ ∀ q, q < 32 → bt (K'.1 6 e 4) q = (decide (q < 15) && (had && decide (K0.1 7 e q ≠ nv q))) := by
      intro hf
      unfold f_X9_adopt_47
      rw [nI_1]
      refine ih m (p + 1) K S h a f b (fun q hq => ?_) (by omega) (by omega)
      rw [hb q hq]
      by_cases c : q = p
      · subst c; rw [hf, Bool.and_false, Bool.and_false]
      · by_cases d : q < p
        · rw [decide_eq_true d, decide_eq_true (show q < p + 1 by omega)]
        · rw [decide_eq_false d, decide_eq_false (show ¬ q < p + 1 by omega)]
    rw [f_X9_adopt_3, if_neg (ge15 hp15), g1, qqx, b2_i0]
    cases had with
    | false => rw [if_neg (by decide)]; exact skip rfl
    | true =>
      rw [if_pos rfl, g0, qqx, a7, qqx, fd_v a.2.1 h, qqx, fd_a a.2.1 h f hp15, qqx]
      by_cases c : K0.1 7 e p = nv p
      · rw [if_pos c]; exact skip (by rw [decide_eq_false (fun z => z c)]; rfl)
      · obtain ⟨S1, e1, h1⟩ := h.PI (k := 6) (i := e) (t := 9) (j := 4) (a.1.E he (by decide)) rfl (by decide) (K.1 6 e 4 ||| ((1 : Int32) <<< (nI p &&& 31)))
        rw [if_neg c, h.I 6 9 (a.1.E he (by decide)) rfl, qqx, e1, qqx]
        unfold f_X9_adopt_47
        rw [nI_1]
        have b1 : kB (AI4 e) F3 K (kwI K 6 e 4 (K.1 6 e 4 ||| ((1 : Int32) <<< (nI p &&& 31)))) := (kB.rf K).I ⟨rfl, rfl, rfl⟩
        have b1e := b1.wd (QI := AIe e) (QR := F3) (fun _ _ _ z => AI4_e z) (fun _ _ _ z => z)
        refine ih m (p + 1) _ S1 h1 (a.keep b1e) (f.keep b1e) (b.tr b1) (fun q hq => ?_) (by omega) (by omega)
        rw [kwI_s, b_or, hb q hq, b_one (by omega) hq]
        by_cases c2 : q = p
        · subst c2
          rw [decide_eq_true rfl, Bool.or_true, decide_eq_true (show q < q + 1 by omega), decide_eq_true c]; rfl
        · rw [decide_eq_false c2, Bool.or_false]
          by_cases d : q < p
          · rw [decide_eq_true d, decide_eq_true (show q < p + 1 by omega)]
          · rw [decide_eq_false d, decide_eq_false (show ¬ q < p + 1 by omega)]
def ad5 (σ : mS) (e : Nat) (nv : Nat → Int32) (ch : Nat → Bool) (K1 K : kS) (p : Nat) : Prop := kB (AI8 e) F3 K1 K ∧ (∀ q, q < p → if ch q = true then trC σ K e q (nv q) (nv 10) else K.1 8 e q = K1.1 8 e q ∧ K.1 9 e q = K1.1 9 e q ∧ K.1 10 e q = K1.1 10 e q) ∧ ∀ q, p ≤ q → K.1 8 e q = K1.1 8 e q ∧ K.1 9 e q = K1.1 9 e q ∧ K.1 10 e q = K1.1 10 e q
theorem trC.cg {e p : Nat} {nv ea : Int32} (h : trC σ K e p nv ea) (h8 : K'.1 8 e p = K.1 8 e p) (h9 : K'.1 9 e p = K.1 9 e p) (h10 : K'.1 10 e p = K.1 10 e p) : trC σ K' e p nv ea := by
  unfold trC at h ⊢
  rw [h8, h9, h10]
  exact h
theorem c_ad56 (hw : Tw T) (ha : RAn σ) (hn : RNw σ) {e : Nat} (he : e < Tn T) {nv : Nat → Int32} {had : Bool} {ch : Nat → Bool} {K1 : kS} (hch : ∀ q, q < 5 → bt (K1.1 6 e 4) q = ch q) (hh : ∀ q, q < 5 → ch q = true → had = true) (hv : ∀ q, q < 5 → K1.1 7 e q = σ.1 43 (12 * e + q)) (te : ∀ q, q < 5 → tEq K1 σ e q) (im : iEq K1 σ e) (pe : had = true → pEq K1 σ e) (hb : bV (nv 10)) : ∀ (d m p : Nat) (K : kS) (S : cS), KA A ex K S → kAd T ex K σ → fdS K nv → ad5 σ e nv ch K1 K p → p + d = 5 → d < m → ∃ S' K' m', f_X9_adopt_56 (A 6 e) m (some (A 44 0)) (σ.2 54) ((qPy σ e).map (A 34)) (nI p) S = f_X9_adopt_56 (A 6 e) (m' + 1) (some (A 44 0)) (σ.2 54) ((qPy σ e).map (A 34)) (nI 5) S' ∧ KA A ex K' S' ∧ ad5 σ e nv ch K1 K' 5 := by
  intro d
  induction d with
  | zero =>
    intro m p K S h a f b hp hm
    obtain ⟨m, rfl⟩ : ∃ m', m = m' + 1 := ⟨m - 1, by omega⟩
    have hp : p = 5 := by omega
    subst hp
    exact ⟨S, K, m, rfl, h, b⟩
  | succ d ih =>
    intro m p K S h a f b hp hm
    obtain ⟨m, rfl⟩ : ∃ m', m = m' + 1 := ⟨m - 1, by omega⟩
    have hp5 : p < 5 := by omega
    obtain ⟨b1, b2, b3⟩ := b
    rw [f_X9_adopt_56, if_neg (ge5 hp5), h.I 6 9 (a.1.E he (by decide)) rfl, qqx, b1.1 6 e 4 (by unfold AI8; omega), c_ask _ (by omega), hch p hp5]
    by_cases c : ch p = true
    · have hhad := hh p hp5 c
      obtain ⟨t8, t9, t10⟩ := b3 p (Nat.le_refl _)
      have te' : tEq K σ e p := by
        have := te p hp5
        unfold tEq at this ⊢
        rw [t8, t9, t10]
        exact this
      have hv' : K.1 7 e p = σ.1 43 (12 * e + p) := by rw [b1.1 7 e p (by unfold AI8; omega)]; exact hv p hp5
      have im' : iEq K σ e := by
        intro q hq
        rw [b1.1 6 e 3 (by unfold AI8; omega)]
        exact im q hq
      have pe' : pEq K σ e := by
        intro k hk
        rw [b1.1 6 e 8 (by unfold AI8; omega)]
        exact pe hhad k hk
      obtain ⟨S1, K1', e1, h1, bb, tc⟩ := c_turnTo hw h a ha hn he hp5 hv' te' im' pe' (nv p) hb
      have bb8 : kB (AI8 e) F3 K K1' := bb.wd (fun k i j z => by unfold AI8; omega) (fun _ _ _ z => z)
      have bbe : kB (AIe e) F3 K K1' := bb8.wd (fun _ _ _ z => AI8_e z) (fun _ _ _ z => z)
      rw [if_pos c, fd_v a.2.1 h, qqx, fd_a a.2.1 h f (by omega), qqx, qqx, show (10 : Int32) = nI 10 from rfl, fd_a a.2.1 h f (by omega), qqx, a.1.r9 h he, qqx, e1, qqx]
      unfold f_X9_adopt_96
      rw [nI_1]
      have row : ∀ q, q ≠ p → K1'.1 8 e q = K.1 8 e q ∧ K1'.1 9 e q = K.1 9 e q ∧ K1'.1 10 e q = K.1 10 e q := fun q hq => ⟨bb.1 _ _ _ (by omega), bb.1 _ _ _ (by omega), bb.1 _ _ _ (by omega)⟩
      refine ih m (p + 1) K1' S1 h1 (a.keep bbe) (f.keep bbe) ⟨b1.tr bb8, fun q hq => ?_, fun q hq => ?_⟩ (by omega) (by omega)
      · by_cases cq : q = p
        · subst cq; rw [if_pos c]; exact tc
        · obtain ⟨r8, r9, r10⟩ := row q cq
          have := b2 q (by omega)
          by_cases c9 : ch q = true
          · rw [if_pos c9] at this ⊢; exact this.cg r8 r9 r10
          · rw [if_neg c9] at this ⊢; rw [r8, r9, r10]; exact this
      · obtain ⟨r8, r9, r10⟩ := row q (by omega)
        rw [r8, r9, r10]; exact b3 q (by omega)
    · rw [if_neg c]
      unfold f_X9_adopt_96
      rw [nI_1]
      refine ih m (p + 1) K S h a f ⟨b1, fun q hq => ?_, fun q hq => b3 q (by omega)⟩ (by omega) (by omega)
      by_cases cq : q = p
      · subst cq; rw [if_neg c]; exact b3 q (Nat.le_refl _)
      · exact b2 q (by omega)
theorem c_ad134 (hw : Tw T) {e : Nat} (he : e < Tn T) {nv : Nat → Int32} {K1 : kS} : ∀ (d m p : Nat) (K : kS) (S : cS), KA A ex K S → kAd T ex K σ → fdS K nv → kB (fun k i j => k = 7 ∧ i = e ∧ j < 15) F3 K1 K → (∀ q, q < p → K.1 7 e q = nv q) → p + d = 15 → d < m → ∃ S' K', f_X9_adopt_134 (A 6 e) m (some (A 44 0)) (nI p) S = some S' ∧ KA A ex K' S' ∧ kB (fun k i j => (k = 7 ∧ i = e ∧ j < 15) ∨ (k = 6 ∧ i = e ∧ (j = 1 ∨ j = 3))) F3 K1 K' ∧ (∀ q, q < 15 → K'.1 7 e q = nv q) ∧ K'.1 6 e 1 = 1 ∧ K'.1 6 e 3 = K1.1 44 0 3 := by
  intro d
  induction d with
  | zero =>
    intro m p K S h a f b hv hp hm
    obtain ⟨m, rfl⟩ : ∃ m', m = m' + 1 := ⟨m - 1, by omega⟩
    have hp : p = 15 := by omega
    subst hp
    obtain ⟨S1, e1, h1⟩ := h.PI (k := 6) (i := e) (t := 9) (j := 3) (a.1.E he (by decide)) rfl (by decide) (K.1 44 0 3)
    obtain ⟨S2, e2, h2⟩ := h1.PZ (k := 6) (i := e) (t := 9) (j := 1) (a.1.E he (by decide)) rfl (by decide) (Or.inr rfl)
    rw [f_X9_adopt_134, if_pos (show (15 : Int32) ≤ nI 15 by decide), h.I 44 9 (a.2.1.1.2.2.2.2.2 0 44 (by decide) (by decide) (by decide)) rfl, qqx, e1, qqx, e2, qqx]
    refine ⟨S2, _, rfl, h2, ((b.wd (fun k i j z => Or.inl z) (fun _ _ _ z => z)).I (Or.inr ⟨rfl, rfl, Or.inr rfl⟩)).I (Or.inr ⟨rfl, rfl, Or.inl rfl⟩), fun q hq => ?_, kwI_s _ _ _ _ _, ?_⟩
    · rw [kwI_k (by decide), kwI_k (by decide)]; exact hv q hq
    · rw [kwI_j (by decide), kwI_s, b.1 44 0 3 (by omega)]
  | succ d ih =>
    intro m p K S h a f b hv hp hm
    obtain ⟨m, rfl⟩ : ∃ m', m = m' + 1 := ⟨m - 1, by omega⟩
    have hp15 : p < 15 := by omega
    have st := kSt_of hw a.1 a.2.1 a.2.2.1 false he
    have g0 : gR S (some (A 6 e)) 9 0 = some (some (A 7 e)) := st.v h
    obtain ⟨S1, e1, h1⟩ := h.SI (k := 7) (i := e) (j := p) (N := 15) (a.1.E he (by decide)) rfl (by decide) hp15 (nv p)
    rw [f_X9_adopt_134, if_neg (ge15 hp15), g0, qqx, fd_v a.2.1 h, qqx, fd_a a.2.1 h f hp15, qqx, e1, qqx, nI_1]
    have b1 : kB (fun k i j => k = 7 ∧ i = e ∧ j < 15) F3 K (kwI K 7 e p (nv p)) := (kB.rf K).I ⟨rfl, rfl, hp15⟩
    have b1e : kB (AIe e) F3 K (kwI K 7 e p (nv p)) := b1.wd (fun k i j z => by unfold AIe; omega) (fun _ _ _ z => z)
    refine ih m (p + 1) _ S1 h1 (a.keep b1e) (f.keep b1e) (b.tr b1) (fun q hq => ?_) (by omega) (by omega)
    by_cases c : q = p
    · subst c; exact kwI_s _ _ _ _ _
    · rw [kwI_j c]; exact hv q (by omega)
def adO (σ : mS) (e : Nat) (nv : Nat → Int32) (had : Bool) (K K' : kS) : Prop :=
  kB (AIe e) F3 K K' ∧ (∀ p, p < 15 → K'.1 7 e p = nv p) ∧ K'.1 6 e 3 = K.1 44 0 3 ∧ K'.1 6 e 1 = 1 ∧ K'.1 6 e 2 = K.1 6 e 2 ∧ (∀ q, q < 32 → bt (K'.1 6 e 4) q = (decide (q < 15) && (had && decide (K.1 7 e q ≠ nv q)))) ∧
  K'.1 6 e 8 = (if (!had || decide (K.1 7 e 11 ≠ nv 11)) = true then σ.2 54 else K.1 6 e 8) ∧ ∀ p, p < 5 → if (had && decide (K.1 7 e p ≠ nv p)) = true then trC σ K' e p (nv p) (nv 10) else K'.1 8 e p = K.1 8 e p ∧ K'.1 9 e p = K.1 9 e p ∧ K'.1 10 e p = K.1 10 e p
theorem c_adopt (hw : Tw T) (h : KA A ex K S) (a : kAd T ex K σ) (ha : RAn σ) (hn : RNw σ) {e : Nat} (he : e < Tn T) {nv : Nat → Int32} {had : Bool} (f : fdS K nv) (hk : K.1 6 e 1 = b2 had) (h4 : K.1 6 e 4 = 0) (hv : ∀ q, q < 5 → K.1 7 e q = σ.1 43 (12 * e + q)) (te : ∀ q, q < 5 → tEq K σ e q) (im : iEq K σ e) (pe : had = true → pEq K σ e) (hb : bV (nv 10)) : ∃ S' K', f_X9_adopt (A 6 e) (some (A 44 0)) (σ.2 54) ((qPy σ e).map (A 34)) S = some S' ∧ KA A ex K' S' ∧ adO σ e nv had K K' := by
  obtain ⟨S1, K1, e1, h1, b1, c1⟩ := c_ad3 hw he (nv := nv) (σ.2 54) ((qPy σ e).map (A 34)) hk 15 4000 0 K S h a f (kB.rf K) (fun q hq => by rw [h4, b_0]; simp) rfl (by decide)
  have b1e : kB (AIe e) F3 K K1 := b1.wd (fun _ _ _ z => AI4_e z) (fun _ _ _ z => z)
  have a1 := a.keep b1e
  have f1 := f.keep b1e
  obtain ⟨S2, K2, m2, e2, h2, x2b, t2, -⟩ := c_ad56 (nv := nv) (had := had) (ch := fun q => had && decide (K.1 7 e q ≠ nv q)) (K1 := K1) hw ha hn he (fun q hq => by rw [c1 q (by omega), decide_eq_true (show q < 15 by omega), Bool.true_and]) (fun q _ hq => by simp only [Bool.and_eq_true] at hq; exact hq.1) (fun q hq => by rw [b1.1 7 e q (by unfold AI4; omega)]; exact hv q hq) (fun q hq => by
      have := te q hq
      unfold tEq at this ⊢
      rw [b1.1 8 e q (by unfold AI4; omega), b1.1 9 e q (by unfold AI4; omega), b1.1 10 e q (by unfold AI4; omega)]
      exact this) (fun q hq => by rw [b1.1 6 e 3 (by unfold AI4; omega)]; exact im q hq) (fun z k hk => by rw [b1.1 6 e 8 (by unfold AI4; omega)]; exact pe z k hk) hb 5 4000 0 K1 S1 h1 a1 f1 ⟨kB.rf K1, fun q hq => absurd hq (Nat.not_lt_zero q), fun q _ => ⟨rfl, rfl, rfl⟩⟩ rfl (by decide)
  have x2e : kB (AIe e) F3 K1 K2 := x2b.wd (fun _ _ _ z => AI8_e z) (fun _ _ _ z => z)
  have a2 := a1.keep x2e
  have f2 := f1.keep x2e
  have b12 := b1e.tr x2e
  have k7 : ∀ q, K2.1 7 e q = K.1 7 e q := fun q => by rw [x2b.1 7 e q (by unfold AI8; omega), b1.1 7 e q (by unfold AI4; omega)]
  have k61 : K2.1 6 e 1 = b2 had := by rw [x2b.1 6 e 1 (by unfold AI8; omega), b1.1 6 e 1 (by unfold AI4; omega)]; exact hk
  have k68 : K2.1 6 e 8 = K.1 6 e 8 := by rw [x2b.1 6 e 8 (by unfold AI8; omega), b1.1 6 e 8 (by unfold AI4; omega)]
  unfold f_X9_adopt
  rw [show (0 : Int32) = nI 0 from rfl, e1, e2]
  have fin : ∀ (K3 : kS) (S3 : cS), KA A ex K3 S3 → kB (fun k i j => k = 6 ∧ i = e ∧ j = 8) F3 K2 K3 → K3.1 6 e 8 = (if (!had || decide (K.1 7 e 11 ≠ nv 11)) = true then σ.2 54 else K.1 6 e 8) → ∃ S' K', f_X9_adopt_131 (A 6 e) (some (A 44 0)) S3 = some S' ∧ KA A ex K' S' ∧ adO σ e nv had K K' := by
    intro K3 S3 h3 b3 k8
    have b3e : kB (AIe e) F3 K2 K3 := b3.wd (fun k i j z => by unfold AIe; omega) (fun _ _ _ z => z)
    obtain ⟨S4, K4, e4, h4', b4, v4, i4, m4⟩ := c_ad134 hw he (nv := nv) (K1 := K3) 15 4000 0 K3 S3 h3 (a2.keep b3e) (f2.keep b3e) (kB.rf K3) (fun q hq => absurd hq (Nat.not_lt_zero q)) rfl (by decide)
    have b4e : kB (AIe e) F3 K3 K4 := b4.wd (fun k i j z => by unfold AIe; omega) (fun _ _ _ z => z)
    have r : ∀ k j, 8 ≤ k → k ≤ 10 → K4.1 k e j = K2.1 k e j := fun k j hk1 hk2 => by rw [b4.1 k e j (by omega), b3.1 k e j (by omega)]
    refine ⟨S4, K4, e4, h4', (b12.tr b3e).tr b4e, v4, ?_, i4, ?_, fun q hq => ?_, ?_, fun p hp => ?_⟩
    · rw [m4, b3.1 44 0 3 (by omega), b12.1 44 0 3 (by unfold AIe; omega)]
    · rw [b4.1 6 e 2 (by omega), b3.1 6 e 2 (by omega), x2b.1 6 e 2 (by unfold AI8; omega), b1.1 6 e 2 (by unfold AI4; omega)]
    · rw [b4.1 6 e 4 (by omega), b3.1 6 e 4 (by omega), x2b.1 6 e 4 (by unfold AI8; omega)]
      exact c1 q hq
    · rw [b4.1 6 e 8 (by omega)]; exact k8
    · have := t2 p hp
      by_cases c : (had && decide (K.1 7 e p ≠ nv p)) = true
      · rw [if_pos c] at this ⊢
        exact this.cg (r 8 p (by decide) (by decide)) (r 9 p (by decide) (by decide)) (r 10 p (by decide) (by decide))
      · rw [if_neg c] at this ⊢
        rw [r 8 p (by decide) (by decide), r 9 p (by decide) (by decide), r 10 p (by decide) (by decide), this.1, this.2.1, this.2.2, b1.1 8 e p (by unfold AI4; omega), b1.1 9 e p (by unfold AI4; omega), b1.1 10 e p (by unfold AI4; omega)]
        exact ⟨rfl, rfl, rfl⟩
  have fin8 : (!had || decide (K.1 7 e 11 ≠ nv 11)) = true → ∃ S' K', f_X9_adopt_126 (A 6 e) (some (A 44 0)) (σ.2 54) S2 = some S' ∧ KA A ex K' S' ∧ adO σ e nv had K K' := by
    intro ht
    obtain ⟨S3, e3, h3⟩ := h2.PI (k := 6) (i := e) (t := 9) (j := 8) (a2.1.E he (by decide)) rfl (by decide) (σ.2 54)
    unfold f_X9_adopt_126
    rw [e3, qqx]
    exact fin _ S3 h3 ((kB.rf K2).I ⟨rfl, rfl, rfl⟩) (by rw [kwI_s, if_pos ht])
  have st := kSt_of hw a2.1 a2.2.1 a2.2.2.1 false he
  have g0 : gR S2 (some (A 6 e)) 9 0 = some (some (A 7 e)) := st.v h2
  have a11 : aI S2 (some (A 7 e)) (nI 11) = some (K.1 7 e 11) := by
    have : aI S2 (some (A 7 e)) (nI 11) = some (K2.1 7 e 11) := st.a h2 (by decide)
    rw [this, k7]
  rw [f_X9_adopt_56, if_pos (show (5 : Int32) ≤ nI 5 by decide), h2.I 6 9 (a2.1.E he (by decide)) rfl, qqx, k61, b2_i0]
  cases had with
  | false => rw [if_neg (by decide)]; exact fin8 rfl
  | true =>
    rw [if_pos rfl, g0, qqx, show (11 : Int32) = nI 11 from rfl, a11, qqx, fd_v a2.2.1 h2, qqx, fd_a a2.2.1 h2 f2 (by decide), qqx]
    by_cases c : K.1 7 e 11 = nv 11
    · rw [if_pos c]
      exact fin K2 S2 h2 (kB.rf K2) (by rw [decide_eq_false (fun z => z c), if_neg (by decide)]; exact k68)
    · rw [if_neg c]
      exact fin8 (by rw [decide_eq_true c]; rfl)
end CAD
