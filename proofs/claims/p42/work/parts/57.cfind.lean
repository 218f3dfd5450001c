section CFF
variable {T : qqT} {G : qqG} {A : kA} {ex : Nat → Nat → Prop} {K : kS} {S : cS} {σ : mS} {I : qI} {d i : Nat}
def kF0 (A : kA) (ex : Nat → Nat → Prop) (K : kS) (σ : mS) (I : qI) (d i : Nat) : Prop := (kSt ex K d i ∧ kAv ex K d i I ∧ kIn A ex K) ∧ kSo ex K σ I.1 ∧ kNr d ∧ (∀ f, qiV I = some f → ∀ v, v < 3 → okP (f v)) ∧ ∀ q, q < 15 → ∀ a, I.1 q = some a → a < 70
theorem kF0.keep {K' : kS} (s : kF0 A ex K σ I d i) {PI : Nat → Nat → Nat → Prop} (b : kB PI F3 K K') (hI : ∀ k x j, PI k x j → FI d i k x j) : kF0 A ex K' σ I d i := by
  obtain ⟨⟨st, av, ini⟩, so, nr, hP, h70⟩ := s
  have nn := nr.n
  refine ⟨⟨st.keep b (fun z => z), av.keepF nr b hI (fun _ _ _ z => z), ini.keep b (fun q z => by have := hI _ _ _ z; unfold FI at this; omega)⟩, so.keep b (fun k i j hk hj z => ?_) (fun _ _ _ _ _ _ z => z) (fun _ z => z), nr, hP, h70⟩
  have := hI _ _ _ z
  unfold FI at this
  rcases this with y | y
  · rw [y.1] at hk; exact nn.1 hk
  · rw [y.1] at hk; exact nn.2.1 hk
theorem kF0.fs (s : kF0 A ex K σ I d i) (h10 : K.1 d i 10 = vLe (qiP I)) (h11 : K.1 d i 11 = vSn (qiP I) (σ.2 50)) (h13 : K.1 d i 13 = qHe σ I) : kFs A ex K σ I d i := ⟨⟨s.1.1, s.1.2.1, s.1.2.2, h10, h11, h13⟩, s.2⟩
theorem c_own (h : KA A ex K S) (s : kF0 A ex K σ I d i) {j : Nat} (hj : j = 3 ∨ (10 ≤ j ∧ j ≤ 13)) (x : Int32) : ∃ S', pI S (some (A d i)) 9 j x = some S' ∧ KA A ex (kwI K d i j x) S' ∧ kF0 A ex (kwI K d i j x) σ I d i ∧ kB (FI d i) F3 K (kwI K d i j x) ∧ (kwI K d i j x).1 d i j = x ∧ ∀ q, q ≠ j → (kwI K d i j x).1 d i q = K.1 d i q := by
  obtain ⟨S1, e1, h1⟩ := h.PI (k := d) (i := i) (j := j) s.1.1.1 s.1.1.2.2.1 s.1.1.2.2.2.2.1 x
  have b : kB (fun k x q => k = d ∧ x = i ∧ q = j) F3 K (kwI K d i j x) := (kB.rf K).I ⟨rfl, rfl, rfl⟩
  have hI : ∀ k x q, (k = d ∧ x = i ∧ q = j) → FI d i k x q := fun k x q z => Or.inl ⟨z.1, z.2.1, by rw [z.2.2]; exact hj⟩
  refine ⟨S1, e1, h1, s.keep b hI, b.wd hI (fun _ _ _ z => z), ?_, fun q hq => ?_⟩
  · rw [kwI_1, if_pos ⟨rfl, rfl, rfl⟩]
  · rw [kwI_1, if_neg (fun z => hq z.2.2)]
theorem kF0.g9 (h : KA A ex K S) (s : kF0 A ex K σ I d i) : (I.2.1 = none ∧ qiP I = none ∧ gR S (some (A d i)) 9 9 = some none) ∨ ∃ f ka ia, I.2.1 = some f ∧ qiP I = some f.1 ∧ gR S (some (A d i)) 9 9 = some (some (A ka ia)) ∧ gR S (some (A ka ia)) 9 0 = some (some (A (ka + 1) ia)) ∧ ∀ p, p < 12 → aI S (some (A (ka + 1) ia)) (nI p) = some (f.1 p) := by
  have av := s.1.2.1
  have st := s.1.1
  unfold kAv at av
  rw [h.R d 9 st.1 st.2.2.1]
  cases hI : I.2.1 with
  | none =>
    rw [hI] at av
    have av : K.2 d i 9 = none := av
    rw [av]
    exact Or.inl ⟨rfl, by unfold qiP; rw [hI]; rfl, rfl⟩
  | some f =>
    rw [hI] at av
    obtain ⟨ka, ia, g1, g2, -, g4, -⟩ := av
    rw [g1]
    exact Or.inr ⟨f, ka, ia, rfl, by unfold qiP; rw [hI]; rfl, rfl, g2.v h, fun p hp => by rw [g2.a h (by omega), g4 p hp]⟩
theorem c_ff_109 (h : KA A ex K S) (s : kF0 A ex K σ I d i) (h10 : K.1 d i 10 = vLe (qiP I)) (h11 : K.1 d i 11 = vSn (qiP I) (σ.2 50)) (h12 : K.1 d i 12 = vTo (qiP I) 1 0 I.2.2.1) : ∃ S' K', f_X9_findFrom_109 (A d i) (some (A 61 0)) (some (A d i)) (qHe σ I) S = some S' ∧ KA A ex K' S' ∧ kFs A ex K' σ I d i ∧ kVl K' σ I d i 15 ∧ kB (FI d i) F3 K K' := by
  unfold f_X9_findFrom_109
  obtain ⟨S1, e1, k1, s1, b1, v1, o1⟩ := c_own h s (j := 13) (by omega) (qHe σ I)
  rw [e1, qqx]
  obtain ⟨S2, e2, k2, s2, b2, v2, o2⟩ := c_own k1 s1 (j := 3) (by omega) 0
  rw [e2, qqx, s2.1.1.rc k2, qqx]
  have vs2 : kVs ex (kwI (kwI K d i 13 (qHe σ I)) d i 3 0) σ I.1 (qiV I) d i := ⟨s2.2.1, s2.1.1, s2.1.2.1.ab, s2.2.2.1.n.2.1⟩
  obtain ⟨S3, K3, e3, k3, vs3, w3, b3⟩ := c_findVariables k2 vs2 s2.2.2.2.1
  have b3' : kB (FI d i) F3 _ K3 := b3.wd (fun k x j z => Or.inr ⟨z.1, z.2.1⟩) (fun _ _ _ z => z)
  have s3 := s2.keep b3' (fun _ _ _ z => z)
  have o3 : ∀ q, K3.1 d i q = (kwI (kwI K d i 13 (qHe σ I)) d i 3 0).1 d i q := fun q => b3.1 _ _ _ (fun z => by unfold VI at z; omega)
  have e310 : K3.1 d i 10 = vLe (qiP I) := by rw [o3, o2 10 (by decide), o1 10 (by decide), h10]
  have e311 : K3.1 d i 11 = vSn (qiP I) (σ.2 50) := by rw [o3, o2 11 (by decide), o1 11 (by decide), h11]
  have e312 : K3.1 d i 12 = vTo (qiP I) 1 0 I.2.2.1 := by rw [o3, o2 12 (by decide), o1 12 (by decide), h12]
  have e313 : K3.1 d i 13 = qHe σ I := by rw [o3, o2 13 (by decide), v1]
  have e33 : K3.1 d i 3 = 0 := by rw [o3, v2]
  have f3 := s3.fs e310 e311 e313
  rw [e3, qqx, s3.1.1.v k3, qqx, show (1 : Int32) = nI 1 from rfl, s3.2.1.g k3 (by decide), qqx, s3.1.1.rc k3, qqx, c_findValue k3 f3.1 f3.2.1 (by decide) s3.2.2.2.1 w3 s3.2.2.2.2 (by rw [e312]; exact vTo_1), qqx, vEv_own1 (a' := 0)]
  have st3 := s3.1.1
  obtain ⟨S4, e4, k4⟩ := k3.SI (k := d + 1) (i := i) (j := 1) (N := 15) st3.2.1 st3.2.2.2.1 st3.2.2.2.2.2.1 (by decide) (qSz σ I)
  have e4 : sI S3 (some (A (d + 1) i)) (nI 1) (vEv (qiP I) 0 I.2.2.1 (qHe σ I) (σ.2 50) 1 (vUn σ (qVr σ I) 1 (I.1 1))) = some S4 := e4
  rw [e4, qqx]
  have b4 : kB (fun k x j => k = d + 1 ∧ x = i ∧ j = 1) F3 K3 (kwI K3 (d + 1) i 1 (qSz σ I)) := (kB.rf K3).I ⟨rfl, rfl, rfl⟩
  have b4' : kB (FI d i) F3 K3 (kwI K3 (d + 1) i 1 (qSz σ I)) := b4.wd (fun k x j z => Or.inr ⟨z.1, z.2.1⟩) (fun _ _ _ z => z)
  have s4 := s3.keep b4' (fun _ _ _ z => z)
  have o4 : ∀ q, (kwI K3 (d + 1) i 1 (qSz σ I)).1 d i q = K3.1 d i q := fun q => b4.1 _ _ _ (fun z => by omega)
  have own4 : (kwI K3 (d + 1) i 1 (qSz σ I)).1 (d + 1) i 1 = qSz σ I := by rw [kwI_1, if_pos ⟨rfl, rfl, rfl⟩]
  have vl4 : ∀ K5 : kS, (∀ q, K5.1 (d + 1) i q = (kwI K3 (d + 1) i 1 (qSz σ I)).1 (d + 1) i q) → K5.1 d i 3 = 0 → kVl K5 σ I d i 0 := by
    intro K5 h5 h53
    refine ⟨fun q hq hq1 => ?_, fun v hv => ?_, fun q hq => ?_⟩
    · have : q = 1 := by omega
      subst this
      rw [h5, own4, qVl_1]
    · rw [h5, b4.1 _ _ _ (fun z => by omega)]
      exact w3 v hv
    · rw [h53, b_0, decide_eq_false (by omega)]
      rfl
  have bb4 := (b1.tr b2).tr (b3'.tr b4')
  rcases s4.g9 k4 with ⟨hn, hp, g9⟩ | ⟨f, ka, ia, hn, hp, g9, -, -⟩
  · rw [g9, qqx, if_pos rfl, s4.1.1.v k4, qqx, s4.1.1.a k4 (by decide), qqx, own4]
    obtain ⟨S5, e5, k5, s5, b5, v5, o5⟩ := c_own k4 s4 (j := 12) (by omega) (qSz σ I)
    rw [e5, qqx]
    unfold f_X9_findFrom_153
    obtain ⟨S6, K6, e6, k6, f6, vl6, b6⟩ := c_ff_156 15 4000 0 _ S5 k5 (s5.fs (by rw [o5 10 (by decide), o4, e310]) (by rw [o5 11 (by decide), o4, e311]) (by rw [o5 13 (by decide), o4, e313])) (vl4 _ (fun q => by rw [kwI_1, if_neg (fun z => by omega)]) (by rw [o5 3 (by decide), o4, e33])) (by
      rw [v5, hp, kwI_1, if_neg (fun z => by omega), own4]
      rfl) (by omega) (by decide)
    exact ⟨S6, K6, e6, k6, f6, vl6, (bb4.tr b5).tr b6⟩
  · rw [g9, qqx, if_neg (fun z => by cases z)]
    unfold f_X9_findFrom_153
    obtain ⟨S6, K6, e6, k6, f6, vl6, b6⟩ := c_ff_156 15 4000 0 _ S4 k4 (s4.fs (by rw [o4, e310]) (by rw [o4, e311]) (by rw [o4, e313])) (vl4 _ (fun q => rfl) (by rw [o4, e33])) (by
      rw [o4, e312, hp]
      rfl) (by omega) (by decide)
    exact ⟨S6, K6, e6, k6, f6, vl6, bb4.tr b6⟩
def kHo (ex : Nat → Nat → Prop) (K : kS) (o : Option Int32) (ho : Option (Nat × Nat)) : Prop := match o with
  | none => ho = none
  | some z => ∃ kh ih, ho = some (kh, ih) ∧ ex kh ih ∧ (kT kh).1 = 9 ∧ K.1 kh ih 2 = z
theorem kHo.g (h : KA A ex K S) {o : Option Int32} {ho : Option (Nat × Nat)} (k : kHo ex K o ho) : (o = none ∧ ho.map (kp A) = none) ∨ ∃ z y, o = some z ∧ ho.map (kp A) = some y ∧ gI S (some y) 9 2 = some z := by
  cases o with
  | none => have k : ho = none := k; rw [k]; exact Or.inl ⟨rfl, rfl⟩
  | some z =>
    obtain ⟨kh, ih, h1, h2, h3, h4⟩ := k
    refine Or.inr ⟨z, A kh ih, rfl, by rw [h1]; rfl, ?_⟩
    rw [h.I kh 9 h2 h3, h4]
theorem c_ff_90 (h : KA A ex K S) (s : kF0 A ex K σ I d i) (h10 : K.1 d i 10 = vLe (qiP I)) (h11 : K.1 d i 11 = vSn (qiP I) (σ.2 50)) {ho : Option (Nat × Nat)} (hh : kHo ex K I.2.2.2 ho) {y : Int32} (hy : y = vTo (qiP I) 1 0 I.2.2.1) : ∃ S' K', f_X9_findFrom_90 (A d i) (some (A 61 0)) (ho.map (kp A)) (σ.2 50) (some (A d i)) y S = some S' ∧ KA A ex K' S' ∧ kFs A ex K' σ I d i ∧ kVl K' σ I d i 15 ∧ kB (FI d i) F3 K K' := by
  unfold f_X9_findFrom_90
  obtain ⟨S1, e1, k1, s1, b1, v1, o1⟩ := c_own h s (j := 12) (by omega) y
  rw [e1, qqx]
  have fin : ∃ S' K', f_X9_findFrom_109 (A d i) (some (A 61 0)) (some (A d i)) (qHe σ I) S1 = some S' ∧ KA A ex K' S' ∧ kFs A ex K' σ I d i ∧ kVl K' σ I d i 15 ∧ kB (FI d i) F3 K K' := by
    obtain ⟨S6, K6, e6, k6, f6, vl6, b6⟩ := c_ff_109 k1 s1 (by rw [o1 10 (by decide), h10]) (by rw [o1 11 (by decide), h11]) (by rw [v1, hy])
    exact ⟨S6, K6, e6, k6, f6, vl6, b1.tr b6⟩
  have hh1 : kHo ex (kwI K d i 12 y) I.2.2.2 ho := by
    unfold kHo at hh ⊢
    cases hI : I.2.2.2 with
    | none => rw [hI] at hh; exact hh
    | some z =>
      rw [hI] at hh
      obtain ⟨kh, ih, g1, g2, g3, g4⟩ := hh
      exact ⟨kh, ih, g1, g2, g3, by rw [kwI_1, if_neg (fun z => absurd z.2.2 (by decide))]; exact g4⟩
  rcases hh1.g k1 with ⟨g1, g2⟩ | ⟨z, w, g1, g2, g3⟩
  · rw [g2, if_pos rfl]
    have : qHe σ I = σ.2 50 := by unfold qHe; rw [g1]; rfl
    rw [this] at fin
    exact fin
  · rw [g2, if_neg (fun z => by cases z), g3, qqx]
    have : qHe σ I = z := by unfold qHe; rw [g1]; rfl
    rw [this] at fin
    exact fin
def kAo (ex : Nat → Nat → Prop) (K : kS) (d i : Nat) (I : qI) (ab : Option (Nat × Nat)) : Prop := match I.2.1 with
  | none => ab = none
  | some f => ∃ ka ia, ab = some (ka, ia) ∧ kSt ex K ka ia ∧ (ka ≠ d ∨ ia ≠ i) ∧ (∀ p, p < 12 → K.1 (ka + 1) ia p = f.1 p) ∧ ∀ v, v < 3 → K.1 (ka + 1) ia (12 + v) = cod (f.2 v)
def kFp (A : kA) (ex : Nat → Nat → Prop) (K : kS) (σ : mS) (I : qI) (d i : Nat) (ab ho : Option (Nat × Nat)) (kt it : Nat) : Prop := kSt ex K d i ∧ kNr d ∧ kIn A ex K ∧ kSo ex K σ I.1 ∧ (∀ f, qiV I = some f → ∀ v, v < 3 → okP (f v)) ∧ (∀ q, q < 15 → ∀ a, I.1 q = some a → a < 70) ∧ kAo ex K d i I ab ∧ kHo ex K I.2.2.2 ho ∧ kSt ex K kt it ∧ (I.2.1 ≠ none → K.1 (kt + 1) it 1 = I.2.2.1)
theorem c_findFrom (h : KA A ex K S) {ab ho : Option (Nat × Nat)} {kt it : Nat} (p : kFp A ex K σ I d i ab ho kt it) : ∃ S' K', f_X9_findFrom (A d i) (some (A 61 0)) (ab.map (kp A)) (some (A kt it)) (ho.map (kp A)) (σ.2 50) S = some S' ∧ KA A ex K' S' ∧ kFs A ex K' σ I d i ∧ kVl K' σ I d i 15 ∧ kB (FI d i) (FR d i) K K' := by
  obtain ⟨st, nr, ini, so, hP, h70, ao, hh, tt, htop⟩ := p
  unfold f_X9_findFrom
  rw [if_neg (fun z => by cases z), h.AL 61 36 15 so.1 rfl, qqx, if_pos (show (15 : Int32) ≤ nI 15 from by decide)]
  have hab : ∀ r, ab = some r → ex r.1 r.2 := by
    intro r hr
    unfold kAo at ao
    cases hI : I.2.1 with
    | none => rw [hI] at ao; have ao : ab = none := ao; rw [ao] at hr; cases hr
    | some f =>
      rw [hI] at ao
      obtain ⟨ka, ia, g1, g2, -⟩ := ao
      rw [g1] at hr
      cases hr
      exact g2.1
  obtain ⟨S1, e1, k1⟩ := h.PR (k := d) (i := i) (j := 9) st.1 st.2.2.1 st.2.2.2.2.1 ab hab
  rw [e1, qqx]
  have b1 : kB F3 (FR d i) K (kwR K d i 9 ab) := (kB.rf K).R ⟨rfl, rfl, rfl⟩
  have hn0 : ∀ k x, ¬ FR d i k x 0 := fun k x z => absurd z.2.2 (by decide)
  have s1 : kF0 A ex (kwR K d i 9 ab) σ I d i := by
    refine ⟨⟨st.keep b1 (hn0 _ _), ?_, ini.keep b1 (fun _ z => z)⟩, so.keep b1 (fun _ _ _ _ _ z => z) (fun k x j hk h8 _ z => ?_) (fun q z => ?_), nr, hP, h70⟩
    · unfold kAv
      unfold kAo at ao
      cases hI : I.2.1 with
      | none =>
        rw [hI] at ao
        have ao : ab = none := ao
        show (kwR K d i 9 ab).2 d i 9 = none
        rw [kwR_2, if_pos ⟨rfl, rfl, rfl⟩, ao]
      | some f =>
        rw [hI] at ao
        obtain ⟨ka, ia, g1, g2, g3, g4, g5⟩ := ao
        exact ⟨ka, ia, by rw [kwR_2, if_pos ⟨rfl, rfl, rfl⟩, g1], g2.keep b1 (hn0 _ _), g3, g4, g5⟩
    · unfold FR at z
      have := nr.n
      rw [z.1] at hk
      exact this.1 hk
    · unfold FR at z
      have := nr.n
      omega
  have hh1 : kHo ex (kwR K d i 9 ab) I.2.2.2 ho := hh
  have tt1 : kSt ex (kwR K d i 9 ab) kt it := tt.keep b1 (hn0 _ _)
  have fin : ∀ (y1 y2 : Int32), y1 = vLe (qiP I) → y2 = vSn (qiP I) (σ.2 50) → ∀ y3, y3 = vTo (qiP I) 1 0 I.2.2.1 → ∃ S2 S3, pI S1 (some (A d i)) 9 10 y1 = some S2 ∧ KA A ex (kwI (kwR K d i 9 ab) d i 10 y1) S2 ∧ kF0 A ex (kwI (kwR K d i 9 ab) d i 10 y1) σ I d i ∧ pI S2 (some (A d i)) 9 11 y2 = some S3 ∧ KA A ex (kwI (kwI (kwR K d i 9 ab) d i 10 y1) d i 11 y2) S3 ∧ kF0 A ex (kwI (kwI (kwR K d i 9 ab) d i 10 y1) d i 11 y2) σ I d i ∧ ∃ S' K', f_X9_findFrom_90 (A d i) (some (A 61 0)) (ho.map (kp A)) (σ.2 50) (some (A d i)) y3 S3 = some S' ∧ KA A ex K' S' ∧ kFs A ex K' σ I d i ∧ kVl K' σ I d i 15 ∧ kB (FI d i) (FR d i) K K' := by
    intro y1 y2 hy1 hy2 y3 hy3
    obtain ⟨S2, e2, k2, s2, b2, v2, o2⟩ := c_own k1 s1 (j := 10) (by omega) y1
    obtain ⟨S3, e3, k3, s3, b3, v3, o3⟩ := c_own k2 s2 (j := 11) (by omega) y2
    have hh3 : kHo ex (kwI (kwI (kwR K d i 9 ab) d i 10 y1) d i 11 y2) I.2.2.2 ho := by
      unfold kHo at hh1 ⊢
      cases hI : I.2.2.2 with
      | none => rw [hI] at hh1; exact hh1
      | some z =>
        rw [hI] at hh1
        obtain ⟨kh, ih, g1, g2, g3, g4⟩ := hh1
        exact ⟨kh, ih, g1, g2, g3, by rw [kwI_1, if_neg (fun z => absurd z.2.2 (by decide)), kwI_1, if_neg (fun z => absurd z.2.2 (by decide))]; exact g4⟩
    obtain ⟨S6, K6, e6, k6, f6, vl6, b6⟩ := c_ff_90 k3 s3 (by rw [o3 10 (by decide), v2, hy1]) (by rw [v3, hy2]) hh3 hy3
    refine ⟨S2, S3, e2, k2, s2, e3, k3, s3, S6, K6, e6, k6, f6, vl6, ?_⟩
    exact (b1.wd (fun _ _ _ z => z.elim) (fun _ _ _ z => z)).tr (((b2.tr b3).tr b6).wd (fun _ _ _ z => z) (fun _ _ _ z => z.elim))
  rcases s1.g9 k1 with ⟨hn, hp, g9⟩ | ⟨f, ka, ia, hn, hp, g9, g0, ga⟩
  · obtain ⟨S2, S3, e2, k2, s2, e3, k3, s3, S', K', e', r'⟩ := fin 16 (σ.2 50) (by rw [hp]; rfl) (by rw [hp]; rfl) 16 (by rw [hp]; rfl)
    have z1 : gR S2 (some (A d i)) 9 9 = some none := by
      rcases s2.g9 k2 with ⟨-, -, q⟩ | ⟨f, ka, ia, hn2, -⟩
      · exact q
      · rw [hn] at hn2; cases hn2
    have z2 : gR S3 (some (A d i)) 9 9 = some none := by
      rcases s3.g9 k3 with ⟨-, -, q⟩ | ⟨f, ka, ia, hn2, -⟩
      · exact q
      · rw [hn] at hn2; cases hn2
    refine ⟨S', K', ?_, r'⟩
    rw [g9, qqx, if_pos rfl]
    unfold f_X9_findFrom_39
    rw [e2, qqx, z1, qqx, if_pos rfl]
    unfold f_X9_findFrom_64
    rw [e3, qqx, z2, qqx, if_pos rfl]
    unfold f_X9_findFrom_79
    exact e'
  · obtain ⟨S2, S3, e2, k2, s2, e3, k3, s3, S', K', e', r'⟩ := fin (f.1 1) (f.1 2) (by rw [hp]; rfl) (by rw [hp]; rfl) I.2.2.1 (by rw [hp]; rfl)
    refine ⟨S', K', ?_, r'⟩
    rw [g9, qqx, if_neg (fun z => by cases z), qqx, g0, qqx, show (1 : Int32) = nI 1 from rfl, ga 1 (by decide), qqx]
    unfold f_X9_findFrom_39
    rw [e2, qqx]
    rcases s2.g9 k2 with ⟨hn2, -⟩ | ⟨f2, ka2, ia2, hn2, -, q9, q0, qa⟩
    · rw [hn] at hn2; cases hn2
    · have : f2 = f := by rw [hn] at hn2; exact (Option.some.inj hn2).symm
      subst this
      rw [q9, qqx, if_neg (fun z => by cases z), qqx, q0, qqx, show (2 : Int32) = nI 2 from rfl, qa 2 (by decide), qqx]
      unfold f_X9_findFrom_64
      rw [e3, qqx]
      rcases s3.g9 k3 with ⟨hn3, -⟩ | ⟨f3, ka3, ia3, hn3, -, t9, -, -⟩
      · rw [hn] at hn3; cases hn3
      · have tt3 : kSt ex (kwI (kwI (kwR K d i 9 ab) d i 10 (f2.1 1)) d i 11 (f2.1 2)) kt it := tt1
        rw [t9, qqx, if_neg (fun z => by cases z), if_neg (fun z => by cases z), tt3.v k3, qqx, show (1 : Int32) = nI 1 from rfl, tt3.a k3 (by decide), qqx]
        have nn := nr.n
        have e9 : (kwI (kwI (kwR K d i 9 ab) d i 10 (f2.1 1)) d i 11 (f2.1 2)).1 (kt + 1) it 1 = I.2.2.1 := by
          rw [kwI_1, if_neg (fun z => absurd z.2.2 (by decide)), kwI_1, if_neg (fun z => absurd z.2.2 (by decide))]
          exact htop (by rw [hn]; exact fun z => by cases z)
        rw [e9]
        exact e'
end CFF
