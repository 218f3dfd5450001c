theorem b_and' (x y : Int32) (i : Nat) : bt (x &&& y) i = (bt x i && bt y i) := b_and x y i
section FL5
variable {T : qqT} {G : qqG} {L : qqL} {A : kA} {ex : Nat → Nat → Prop} {K K0 : kS} {S : cS} {σ σ0 : mS} {o9 h9 : Bool}
def wasS (T : qqT) (σ : mS) (τ : mS) (e : Nat) : Prop := ∀ y, y < e → TD T y = true → bt (σ.2 48) y = true → ∀ p, p < 5 → τ.1 85 (5 * y + p) = qSeen σ y p
theorem r_fl35 (hw : Tw T) (ha : RAn σ) (hn : RNw σ) {e : Nat} (he : e < Tn T) (hb : ∀ p, p < 12 → bV (σ.1 43 (12 * e + p))) {k23 : Int32 → Int32 → Int32 → Int32 → Int32 → mS → Option mS} {x2 x3 x4 : Int32} : ∀ d m p τ, p + d = 5 → d < m → sB [85] [] σ τ → wasS T σ τ e → (TD T e = true → bt (σ.2 48) e = true → ∀ q, q < p → τ.1 85 (5 * e + q) = qSeen σ e q) → ∃ τ', f_flush_35 k23 m (qqM (TD T) (Tn T)) x2 x3 x4 (nI e) (nI p) τ = k23 (qqM (TD T) (Tn T)) x2 x3 x4 (nI (e + 1)) τ' ∧ sB [85] [] σ τ' ∧ wasS T σ τ' (e + 1) := by
  have h30 := hw.n30
  intro d
  have fin : ∀ τ, sB [85] [] σ τ → wasS T σ τ e → (TD T e = true → bt (σ.2 48) e = true → ∀ q, q < 5 → τ.1 85 (5 * e + q) = qSeen σ e q) → ∃ τ', f_flush_82 k23 (qqM (TD T) (Tn T)) x2 x3 x4 (nI e) τ = k23 (qqM (TD T) (Tn T)) x2 x3 x4 (nI (e + 1)) τ' ∧ sB [85] [] σ τ' ∧ wasS T σ τ' (e + 1) := by
    intro τ b w h
    unfold f_flush_82
    rw [nI_1]
    refine ⟨τ, rfl, b, fun y hy h1 h2 p hp => ?_⟩
    by_cases c : y = e
    · subst c; exact h h1 h2 p hp
    · exact w y (by omega) h1 h2 p hp
  induction d with
  | zero =>
    intro m p τ hp hm b w h
    obtain ⟨m, rfl⟩ : ∃ m', m = m' + 1 := ⟨m - 1, by omega⟩
    have hp : p = 5 := by omega
    subst hp
    rw [f_flush_35, if_pos (show (5 : Int32) ≤ nI 5 by decide)]
    exact fin τ b w h
  | succ d ih =>
    intro m p τ hp hm b w h
    obtain ⟨m, rfl⟩ : ∃ m', m = m' + 1 := ⟨m - 1, by omega⟩
    have hp5 : p < 5 := by omega
    have hbit : bt (qqM (TD T) (Tn T) &&& τ.2 48) e = (TD T e && bt (σ.2 48) e) := by
      rw [b_and, qqM_bt _ _ (by omega) _ (by omega), decide_eq_true he, Bool.true_and, b.2 48 (by decide)]
    rw [f_flush_35, if_neg (ge5 hp5), r_bit _ (by omega), qqx, hbit, b2_i0]
    by_cases c : (TD T e && bt (σ.2 48) e) = true
    · have c2 := c
      simp only [Bool.and_eq_true] at c2
      have g : ∀ f, f ≠ 85 → τ.1 f = σ.1 f := fun f hf => b.1 f (by simpa using hf)
      have hy : rY e σ τ := rY.of (fun f hf => g f (by revert f; decide))
      have ha' : RAn τ := ha.cg (fun f hf => g f (by revert f; decide))
      have hn' : RNw τ := by
        unfold RNw at hn ⊢
        rw [b.2 54 (by decide), g 55 (by decide), g 56 (by decide), g 59 (by decide)]
        exact hn
      have hb' : bV (qBs τ e p) := by
        unfold qBs
        by_cases d1 : τ.1 43 (12 * e + p) = -1000000
        · rw [if_pos d1]; exact bV_lit (by decide)
        · rw [if_neg d1, g 43 (by decide)]; exact hb p (by omega)
      rw [if_pos c, r_seenOf ha' hn' (by omega) hp5 hb', qqx, show (5 : Int32) = nI 5 from rfl, pk_mul, nI_add, wr_85 (by omega), qqx, nI_1]
      refine ih m (p + 1) _ (by omega) (by omega) (b.up (by decide)) (fun y hy1 h1 h2 q hq => ?_) (fun h1 h2 q hq => ?_)
      · rw [up_s, if_neg (by omega)]; exact w y hy1 h1 h2 q hq
      · rw [up_s]
        by_cases cq : q = p
        · subst cq
          rw [if_pos rfl, qSeen_cg hp5 hy (fun f hf => g f (by revert f; decide)) (b.2 54 (by decide))]
        · rw [if_neg (by omega)]; exact h h1 h2 q (by omega)
    · rw [if_neg c]
      refine fin τ b w (fun h1 h2 => ?_)
      rw [h1, h2] at c
      exact absurd rfl c
theorem r_fl23 (hw : Tw T) (ha : RAn σ) (hn : RNw σ) (hr : RT T σ) (hb : ∀ e, e < Tn T → ∀ p, p < 12 → bV (σ.1 43 (12 * e + p))) {x2 x3 x4 : Int32} : ∀ d m e τ, e + d = Tn T → d < m → sB [85] [] σ τ → wasS T σ τ e → ∃ τ', f_flush_23 m (qqM (TD T) (Tn T)) x2 x3 x4 (nI e) τ = f_flush_91 4000 x2 x3 x4 (nI 0) τ' ∧ sB [85] [] σ τ' ∧ wasS T σ τ' (Tn T) := by
  have h30 := hw.n30
  intro d
  induction d with
  | zero =>
    intro m e τ he hm b w
    obtain ⟨m, rfl⟩ : ∃ m', m = m' + 1 := ⟨m - 1, by omega⟩
    have he : e = Tn T := by omega
    subst he
    rw [f_flush_23, b.2 13 (by decide), hr.n, if_pos (Int32.le_refl _)]
    exact ⟨τ, rfl, b, w⟩
  | succ d ih =>
    intro m e τ he hm b w
    obtain ⟨m, rfl⟩ : ∃ m', m = m' + 1 := ⟨m - 1, by omega⟩
    rw [f_flush_23, b.2 13 (by decide), hr.n, if_neg (nI_ge (by omega) (by omega))]
    obtain ⟨τ1, e1, b1, w1⟩ := r_fl35 (k23 := f_flush_23 m) (x2 := x2) (x3 := x3) (x4 := x4) hw ha hn (e := e) (by omega) (hb e (by omega)) 5 4000 0 τ rfl (by decide) b w (fun _ _ q hq => absurd hq (Nat.not_lt_zero q))
    have e1' : f_flush_35 (f_flush_23 m) 4000 (qqM (TD T) (Tn T)) x2 x3 x4 (nI e) 0 τ = _ := e1
    rw [e1']
    exact ih m (e + 1) τ1 (by omega) (by omega) b1 w1
theorem r_fl91 (hl : RLs T L σ) {x2 x3 x4 : Int32} : ∀ d m k τ, k + d = L.1 → d < m → sB [69] [] σ τ → (∀ j, j < k → τ.1 69 j = 0) → ∃ τ', f_flush_91 m x2 x3 x4 (nI k) τ = f_flush_117 4000 x2 x3 x4 (nI 0) τ' ∧ sB [69] [] σ τ' ∧ ∀ j, j < L.1 → τ'.1 69 j = 0 := by
  have h6 := hl.2.1
  intro d
  induction d with
  | zero =>
    intro m k τ hk hm b h
    obtain ⟨m, rfl⟩ : ∃ m', m = m' + 1 := ⟨m - 1, by omega⟩
    have hk : k = L.1 := by omega
    subst hk
    rw [f_flush_91, b.2 70 (by decide), hl.1, if_pos (Int32.le_refl _)]
    exact ⟨τ, rfl, b, h⟩
  | succ d ih =>
    intro m k τ hk hm b h
    obtain ⟨m, rfl⟩ : ∃ m', m = m' + 1 := ⟨m - 1, by omega⟩
    rw [f_flush_91, b.2 70 (by decide), hl.1, if_neg (nI_ge (by omega) (by omega)), wr_69 (by omega), qqx, nI_1]
    refine ih m (k + 1) _ (by omega) (by omega) (b.up (by decide)) (fun j hj => ?_)
    rw [up_s]
    by_cases c : j = k
    · rw [if_pos c]
    · rw [if_neg c]; exact h j (by omega)
def FO (T : qqT) (G : qqG) (L : qqL) (A : kA) (ex : Nat → Nat → Prop) (o9 h9 : Bool) (K : kS) (σ : mS) : Prop :=
  (KX T G A ex K σ ∧ KR T K ∧ anEq K σ ∧ KE T K σ) ∧ (RS T G σ ∧ RAn σ ∧ RNw σ ∧ RLs T L σ ∧ rowS 75 76 σ (Tord T)) ∧ (K.1 49 0 6 = σ.2 54 ∧ K.1 58 0 11 = b2 o9 ∧ K.1 58 0 12 = b2 h9) ∧
  (∀ e, e < Tn T → eRl K σ e) ∧ (∀ e, e < Tn T → bt (σ.2 48) e = false → ∀ p, p < 5 → σ.1 55 (5 * e + p) = -1) ∧ (∀ e, e < Tn T → TD T e = true → bt (K.1 49 0 10) e = bt (σ.2 49) e) ∧
  (∀ e, e < 32 → ¬ (e < Tn T ∧ TD T e = true) → bt (σ.2 48) e = false) ∧ (∀ e, e < Tn T → TD T e = false → K.1 6 e 4 = 0) ∧ (K.1 49 0 11 = σ.2 51 ∧ K.1 49 0 12 = σ.2 52 ∧ K.1 49 0 13 = σ.2 53)
def FYI (k i j : Nat) : Prop := FXI k i j ∨ (k = 49 ∧ i = 0 ∧ (j = 10 ∨ j = 11))
theorem FYI_q {k i j : Nat} (z : FYI k i j) : qOI k i j := by unfold FYI FXI at z; unfold qOI; omega
theorem kB.fyq {K' : kS} (b : kB FYI FXR K K') : kB qOI qOR K K' := b.wd (fun _ _ _ z => FYI_q z) (fun _ _ _ z => FXR_q z)
def FSL : List Nat := [43, 44, 45, 46, 47, 55, 56, 57, 58, 59, 69, 78, 82, 83, 84, 85]
theorem anEq.cg {σ' : mS} (h : anEq K σ) (k : ∀ f, f ∈ [60, 61, 62, 63, 64] → σ'.1 f = σ.1 f) : anEq K σ' := by
  unfold anEq aSt aFn at h ⊢
  rw [k 60 (by decide), k 61 (by decide), k 62 (by decide), k 63 (by decide), k 64 (by decide)]
  exact h
set_option maxRecDepth 20000 in
theorem F_flush (hw : Tw T) (h : KA A ex K S) (O : FO T G L A ex o9 h9 K σ) {o8 : Bool} (hoo : (!o8 && !h9) = (!o9 && !h9)) (hfl : ∀ τ : mS, (∀ f, f ∈ [25, 33] → τ.1 f = σ.1 f) → τ.2 36 = σ.2 36 → rFl τ o8 h9) : ∃ σ' S' K', f_flush_23 4000 (qqM (TD T) (Tn T)) 0 0 0 0 σ = some σ' ∧ f_X11_flush (A 49 0) S = some S' ∧ KA A ex K' S' ∧ FO T G L A ex o9 h9 K' σ' ∧ (K'.1 49 0 10 = 0 ∧ σ'.2 49 = 0) ∧ (∀ e, e < Tn T → TD T e = true → bt (σ'.2 48) e = true) ∧ (∀ k, k < L.1 → σ'.1 69 k = b2 (bt (K'.1 6 (L.2 k).1 4) (L.2 k).2.1)) ∧ sB FSL [48, 49, 51, 52, 53, 79] σ σ' ∧ kB FYI FXR K K' ∧ ∀ y, y < 30 → Tn T ≤ y → rY y σ σ' := by
  have h30 := hw.n30
  obtain ⟨⟨j1, j2, j3, j4⟩, ⟨j5, j6, j7, j8, j9⟩, ⟨j10, j11, j12⟩, j13, j14, j15, j20, j23, ⟨j28, j24, j25⟩⟩ := O
  obtain ⟨τ1, e1, b1, w1⟩ := r_fl23 (x2 := 0) (x3 := 0) (x4 := 0) hw j6 j7 j5.1 (fun e he p hp => (j13 e he).2.2.2.2.1 p hp) (Tn T) 4000 0 σ (by omega) (by omega) (sB.rf σ) (fun y hy => absurd hy (Nat.not_lt_zero y))
  have hl1 : RLs T L τ1 := j8.cg (fun f hf => b1.1 f (by revert f; decide)) (b1.2 70 (by decide))
  obtain ⟨τ2, e2, b2', z2⟩ := r_fl91 (x2 := 0) (x3 := 0) (x4 := 0) hl1 L.1 4000 0 τ1 (by omega) (by have := j8.2.1; omega) (sB.rf τ1) (fun j hj => absurd hj (Nat.not_lt_zero j))
  have b12 : sB [69, 85] [] σ τ2 := (b1.wd (by decide) (by decide)).tr (b2'.wd (by decide) (by decide))
  have g : ∀ f, f ∉ [69, 85] → τ2.1 f = σ.1 f := b12.1
  have g2 : τ2.2 = σ.2 := funext fun f => b12.2 f (by simp)
  have t := j1.1.2.1
  have p9 := j1.1.2.2.1
  obtain ⟨S1, c1, h1⟩ := h.PI (k := 49) (i := 0) (t := 11) (j := 11) (p9.x (by decide) (by decide) (by decide)) rfl (by decide) (K.1 49 0 11 + 1)
  obtain ⟨S2, c2, h2⟩ := h1.PI (k := 49) (i := 0) (t := 11) (j := 14) (p9.x (by decide) (by decide) (by decide)) rfl (by decide) (0 : Int32)
  obtain ⟨S3, c3, h3⟩ := h2.PI (k := 49) (i := 0) (t := 11) (j := 15) (p9.x (by decide) (by decide) (by decide)) rfl (by decide) (0 : Int32)
  generalize hK1 : kwI (kwI (kwI K 49 0 11 (K.1 49 0 11 + 1)) 49 0 14 0) 49 0 15 0 = K1 at h3
  have bK1 : kB FYI FXR K K1 := by
    rw [← hK1]
    exact (((kB.rf K).I (show FYI 49 0 11 by unfold FYI; omega)).I (show FYI 49 0 14 by unfold FYI FXI; omega)).I (show FYI 49 0 15 by unfold FYI FXI; omega)
  have x1 : KX T G A ex K1 τ2 := (j1.va bK1.fyq).cg (fun f hf => g f (by revert f; decide)) (fun f _ => by rw [g2])
  have r1 : ∀ k i j, (k ≠ 49 ∨ i ≠ 0 ∨ (j ≠ 11 ∧ j ≠ 14 ∧ j ≠ 15)) → K1.1 k i j = K.1 k i j := fun k i j hk => by
    rw [← hK1, kwI_1, if_neg (by omega), kwI_1, if_neg (by omega), kwI_1, if_neg (by omega)]
  have J : FJ T G L A ex o9 h9 τ2 K1 [] 0 0 0 K1 τ2 := by
    refine ⟨⟨x1, j2.va bK1.fyq, ?_, ?_⟩, ⟨j5.sB b12 (by decide) (by decide), j6.cg (fun f hf => g f (by revert f; decide)), ?_, j8.cg (fun f hf => g f (by revert f; decide)) (by rw [g2]), j9.sB b12 (by decide) (by decide)⟩, ⟨?_, ?_, ?_⟩, fun e he => ?_, fun e he h0 p hp => ?_, fun e he hd => ?_, ⟨fun e he => ?_, fun e he _ => ⟨b_0 e, b_0 e, b_0 e⟩, ?_⟩, ⟨fun e he => (by cases he), fun e he hne => ?_⟩, fun e he _ hh hd p hp => ?_, ⟨fun k hk => ?_, fun e he hd => ?_⟩, ⟨?_, ?_⟩, ⟨⟨sB.rf τ2, fun y _ _ => rY.rf τ2⟩, kB.rf K1⟩⟩
    · exact (j3.keep bK1 (fun i j => by unfold FYI FXI; omega)).cg (fun f hf => g f (by revert f; decide))
    · exact (j4.keep bK1 (fun i j h1 h2 => by unfold FYI FXI; omega)).cg (fun f hf => g f (by revert f; decide))
    · unfold RNw at j7 ⊢
      rw [g2, g 55 (by decide), g 56 (by decide), g 59 (by decide)]
      exact j7
    · rw [r1 49 0 6 (by omega), g2]; exact j10
    · rw [r1 58 0 11 (by omega)]; exact j11
    · rw [r1 58 0 12 (by omega)]; exact j12
    · exact (j13 e he).cg (rY.of (fun f hf => g f (by revert f; decide))) (by rw [g2]) (fun k j h1 h2 _ => r1 k e j (by omega))
    · rw [g2] at h0
      rw [g 55 (by decide)]; exact j14 e he h0 p hp
    · rw [r1 49 0 10 (by omega), g2]; exact j15 e he hd
    · rw [← hK1, kwI_s, b_0]; exact (b_0 e).symm
    · rw [← hK1, kwI_j (by decide), kwI_s]
    · rw [g2]; exact j20 e he hne
    · rw [g2] at hh
      rw [b2'.1 85 (by decide), w1 e he hd hh p hp]
      exact (qSeen_cg hp (rY.of (fun f hf => g f (by revert f; decide))) (fun f hf => g f (by revert f; decide)) (by rw [g2])).symm
    · rw [if_neg (by simp)]; exact z2 k hk
    · rw [r1 6 e 4 (by omega)]; exact j23 e he hd
    · rw [r1 49 0 12 (by omega), g2]; exact j24
    · rw [r1 49 0 13 (by omega), g2, j25]; exact (Int32.add_zero _).symm
  have hlen := Tord_len hw
  obtain ⟨rr, hrr⟩ := Tord_head hw
  obtain ⟨σ3, S4, K4, ch, un, dn, n1, n2, f1, f2, h4, J4⟩ := F_loop hw (Tord T) [] 0 0 0 K1 S3 τ2 4000 4000 h3 J rfl (by omega) (by omega)
  obtain ⟨⟨i1, i2, i3, i4⟩, ⟨i5, i6, i7, i8, i9⟩, ⟨i10, i11, i12⟩, i13, i14, i15, ⟨i16, i17, i18⟩, ⟨i19, i20⟩, i21, ⟨i22, i23⟩, ⟨i24, i25⟩, ⟨i26, i27⟩⟩ := J4
  have g3 : ∀ f, f ∉ [43, 44, 45, 46, 47, 55, 56, 57, 58, 59, 69, 78, 82, 83, 84] → σ3.1 f = τ2.1 f := i26.1.1
  have g4 : ∀ f, f ∉ [48, 52, 79] → σ3.2 f = τ2.2 f := i26.1.2
  obtain ⟨S5, c5, h5⟩ := h4.PI (k := 49) (i := 0) (t := 11) (j := 10) (p9.x (by decide) (by decide) (by decide)) rfl (by decide) (0 : Int32)
  have f318 := r_flush_318 (σ := σ3) (dn := dn) (o9 := o9) (h9 := h9) hw i5 i9 (fun v => hfl _ (fun f hf => by rw [sf_1, g3 f (by revert f; decide), g f (by revert f; decide)]) (by rw [sf_o (by decide), g4 36 (by decide), g2])) hoo (fun x hx hxo => (i17 x hx hxo).2.2) (Tord T) [] 4000 (σ3.2 53) rfl (by omega)
  rw [sf_id] at f318
  generalize hσ4 : sf (sf (sf σ3 53 (σ3.2 53 + cntF (shT T σ3 o9 h9 dn) (Tord T))) 49 0) 51 (σ3.2 51 + 1) = σ4 at f318
  have s1 : σ4.1 = σ3.1 := by rw [← hσ4]; rfl
  have so : ∀ f, f ≠ 53 → f ≠ 49 → f ≠ 51 → σ4.2 f = σ3.2 f := fun f a1 a2 a3 => by rw [← hσ4, sf_o a3, sf_o a2, sf_o a1]
  have s49 : σ4.2 49 = 0 := by rw [← hσ4, sf_o (by decide), sf_s]
  have s51 : σ4.2 51 = σ3.2 51 + 1 := by rw [← hσ4, sf_s]
  have s53 : σ4.2 53 = σ3.2 53 + cntF (shT T σ3 o9 h9 dn) (Tord T) := by rw [← hσ4, sf_o (by decide), sf_o (by decide), sf_s]
  have bK5 : kB FYI FXR K4 (kwI K4 49 0 10 0) := (kB.rf K4).I (show FYI 49 0 10 by unfold FYI; omega)
  have r5 : ∀ k i j, (k ≠ 49 ∨ i ≠ 0 ∨ j ≠ 10) → (kwI K4 49 0 10 0).1 k i j = K4.1 k i j := fun k i j hk => by rw [kwI_1, if_neg (by omega)]
  have hsB : sB FSL [48, 49, 51, 52, 53, 79] σ σ4 := by
    have k1 : sB FSL [48, 49, 51, 52, 53, 79] σ τ2 := b12.wd (by decide) (by decide)
    have k2 : sB FSL [48, 49, 51, 52, 53, 79] τ2 σ3 := i26.1.wd (by decide) (by decide)
    exact (k1.tr k2).tr ⟨fun f _ => by rw [s1], fun f hf => so f (fun z => hf (by rw [z]; decide)) (fun z => hf (by rw [z]; decide)) (fun z => hf (by rw [z]; decide))⟩
  have k10 : ∀ e, e < Tn T → TD T e = true → e ∈ Tord T := fun e he hd => Tord_mem hw e he hd
  refine ⟨σ4, S5, _, ?_, ?_, h5, ?_, ⟨kwI_s _ _ _ _ _, s49⟩, fun e he hd => by rw [so 48 (by decide) (by decide) (by decide)]; exact i19 e (k10 e he hd), fun k hk => ?_, hsB, (bK1.tr (i27.wd (fun _ _ _ z => Or.inl z) (fun _ _ _ z => z))).tr bK5, fun y hy hyn => ((rY.of (fun f hf => g f (by revert f; decide))).tr (i26.2 y hy (fun z => by have := (Tord_is hw z).1; omega))).tr (rY.of (fun f _ => by rw [s1]))⟩
  · have e1' : f_flush_23 4000 (qqM (TD T) (Tn T)) 0 0 0 0 σ = _ := e1
    rw [e1', e2]
    have f1' : f_flush_117 4000 0 0 0 (nI 0) τ2 = _ := f1
    rw [f1', f_flush_117, i9.1, if_pos (Int32.le_refl _)]
    exact f318
  · unfold f_X11_flush
    rw [p9.I49 h, qqx, c1, qqx, c2, qqx, c3, qqx, x1.1.2.2.1.trees h3, qqx, x1.1.2.1.top h3, qqx]
    have f2' : f_X11_flush_28 (A 49 0) 4000 (some (A 0 0)) S3 = f_X11_flush_28 (A 49 0) (n2 + 1) none S4 := by
      rw [hrr] at f2
      exact f2
    rw [f2', f_X11_flush_28, if_pos rfl, c5, qqx]
  · refine ⟨⟨(i1.va bK5.fyq).cg (fun f _ => by rw [s1]) (fun f hf => so f (by revert f; decide) (by revert f; decide) (by revert f; decide)), i2.va bK5.fyq, ?_, ?_⟩, ⟨?_, i6.cg (fun f _ => by rw [s1]), ?_, i8.cg (fun f _ => by rw [s1]) (so 70 (by decide) (by decide) (by decide)), ?_⟩, ⟨?_, ?_, ?_⟩, fun e he => ?_, fun e he h0 p hp => ?_, fun e he hd => ?_, fun e he hne => ?_, fun e he hd => ?_, ⟨?_, ?_, ?_⟩⟩
    · exact (i3.keep bK5 (fun i j => by unfold FYI FXI; omega)).cg (fun f _ => by rw [s1])
    · exact (i4.keep bK5 (fun i j h1 h2 => by unfold FYI FXI; omega)).cg (fun f _ => by rw [s1])
    · exact i5.sB (L1 := []) (L2 := [49, 51, 53]) ⟨fun f _ => by rw [s1], fun f hf => so f (fun z => hf (by rw [z]; decide)) (fun z => hf (by rw [z]; decide)) (fun z => hf (by rw [z]; decide))⟩ (by decide) (by decide)
    · unfold RNw at i7 ⊢
      rw [s1, so 54 (by decide) (by decide) (by decide)]
      exact i7
    · exact i9.sB (L1 := []) (L2 := [49, 51, 53]) ⟨fun f _ => by rw [s1], fun f hf => so f (fun z => hf (by rw [z]; decide)) (fun z => hf (by rw [z]; decide)) (fun z => hf (by rw [z]; decide))⟩ (by decide) (by decide)
    · rw [r5 49 0 6 (by omega), so 54 (by decide) (by decide) (by decide)]; exact i10
    · rw [r5 58 0 11 (by omega)]; exact i11
    · rw [r5 58 0 12 (by omega)]; exact i12
    · exact (i13 e he).cg (rY.of (fun f _ => by rw [s1])) (by rw [so 48 (by decide) (by decide) (by decide)]) (fun k j h1 h2 _ => r5 k e j (by omega))
    · rw [so 48 (by decide) (by decide) (by decide)] at h0
      rw [s1]; exact i14 e he h0 p hp
    · rw [kwI_s, s49]
    · rw [so 48 (by decide) (by decide) (by decide)]; exact i20 e he hne
    · rw [r5 6 e 4 (by omega)]; exact i23 e he hd
    · rw [r5 49 0 11 (by omega), s51, g4 51 (by decide), g2, i27.1 49 0 11 (by unfold FXI; omega), ← hK1, kwI_j (by decide), kwI_j (by decide), kwI_s, j28]
    · rw [r5 49 0 12 (by omega), so 52 (by decide) (by decide) (by decide)]; exact i24
    · rw [r5 49 0 13 (by omega), i25, s53, g4 53 (by decide), cntF_cg (fun x _ => show shT T τ2 o9 h9 dn x = shT T σ3 o9 h9 dn x from by
        unfold shT
        rw [shT_cg (σ := τ2) (σ' := σ3) (fun f hf => g3 f (by revert f; decide))])]
  · rw [s1, i22 k hk, r5 6 _ 4 (by omega)]
    by_cases c : (L.2 k).1 ∈ Tord T
    · rw [if_pos c]
    · have hln := (j8.2.2 k hk).1.2
      have hdf : TD T (L.2 k).1 = false := Bool.eq_false_iff.mpr (fun z => c (k10 _ hln z))
      rw [if_neg c, i23 _ hln hdf, b_0]; rfl
end FL5
