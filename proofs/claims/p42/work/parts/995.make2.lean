def mkP (n k i j : Nat) : Prop := (k ≤ 10 ∧ i = n) ∨ (k = 50 ∧ j = 1)
def mkR (n k i j : Nat) : Prop := (k ≤ 10 ∧ i = n) ∨ (k = 51 ∧ j = n)
section MK2
variable {T : qqT} {G : qqG} {L : qqL} {A A' : kA} {ex ex' : Nat → Nat → Prop} {K K' : kS} {S S' : cS} {σ σ' : mS} {v v' n : Nat} {x : Int32} {b : Bool}
theorem bt_z (i : Nat) : bt (0 : Int32) i = false := b_0 i
theorem J0.mke (hw : Tw T) (j : J0 T G L ex K σ v) (hn : n = Tn T) (hn30 : n < 30) (s : mkS T σ σ') (s2 : σ'.2 13 = nI (n + 1) ∧ ∀ f, f ≠ 13 → σ'.2 f = σ.2 f) (s0 : σ'.1 0 n = x) (hb : x = nI 7 ↔ b = true) (kb : kB (mkP n) (mkR n) K K')
    (f0 : K'.1 0 n 0 = nI n ∧ K'.1 0 n 1 = x ∧ K'.1 0 n 2 = 0 ∧ K'.1 0 n 3 = 0 ∧ K'.1 0 n 4 = -1 ∧ K'.1 0 n 5 = -1 ∧ K'.1 0 n 6 = -1 ∧ K'.1 0 n 7 = 0 ∧ K'.1 0 n 14 = 1) (r0 : (∀ d, 8 ≤ d → d ≤ 17 → K'.2 0 n d = none) ∧ K'.2 0 n 18 = some (1, n) ∧ K'.2 0 n 19 = some (6, n))
    (f1 : K'.1 1 n 3 = 2 ∧ K'.1 1 n 6 = 0 ∧ K'.1 1 n 12 = 0) (r1 : K'.2 1 n 1 = none ∧ K'.2 1 n 2 = none ∧ K'.2 1 n 8 = some (2, n) ∧ K'.2 1 n 9 = some (3, n) ∧ K'.2 1 n 10 = some (4, n) ∧ K'.2 1 n 11 = some (5, n))
    (f6 : ∀ k, 6 ≤ k → k ≤ 10 → ∀ d, K'.1 k n d = 0) (r6 : K'.2 6 n 0 = some (7, n) ∧ K'.2 6 n 5 = some (8, n) ∧ K'.2 6 n 6 = some (9, n) ∧ K'.2 6 n 7 = some (10, n))
    (f50 : K'.1 50 0 1 = nI (n + 1) ∧ K'.2 51 0 n = some (0, n)) (exI : ∀ a c, ex' a c ↔ (ex a c ∨ (a ≤ 10 ∧ c = n))) : J0 (Tnw T b) G L ex' K' σ' v := by
  subst hn
  have n1 := hw.n1
  have mono : ∀ a c, ex a c → ex' a c := fun a c h => (exI a c).mpr (Or.inl h)
  obtain ⟨⟨⟨⟨t1, t2⟩, p9, ⟨l1, l2, l3⟩, ⟨ρ, hρ⟩⟩, kv, ke, rt⟩, ca, an, va, mk, ⟨km, s26⟩, d, fr⟩ := j
  have hbig : ∀ e, Tn T ≤ e → e < 30 → Ts T e = false ∧ σ.1 1 e = 0 ∧ σ.1 2 e = 0 ∧ σ.1 3 e = -1 ∧ σ.1 4 e = -1 ∧ σ.1 5 e = -1 ∧ (∀ p, p < 12 → σ.1 43 (12 * e + p) = 0) ∧ (∀ v, v < 3 → σ.1 44 (3 * e + v) = 0 ∧ σ.1 45 (3 * e + v) = 0) ∧ ∀ p, p < 5 → σ.1 47 (5 * e + p) = 0 ∧ σ.1 55 (5 * e + p) = -1 := fr.2.1
  obtain ⟨u1, u2, u3, u4, u5, u6, u7, u8, u9⟩ := hbig (Tn T) (Nat.le_refl _) hn30
  have oI : ∀ k i d, ¬ mkP (Tn T) k i d → K'.1 k i d = K.1 k i d := kb.1
  have oR : ∀ k i d, ¬ mkR (Tn T) k i d → K'.2 k i d = K.2 k i d := kb.2
  have o1 : ∀ f, f ≠ 0 → σ'.1 f = σ.1 f := s.1
  have hN : Tn (Tnw T b) = Tn T + 1 := rfl
  have b48 : bt (σ.2 48) (Tn T) = false := va.2.2.1 (Tn T) (by omega) (fun z => by omega)
  have rt0 := rt
  obtain ⟨a1, a2, a3, a4, a5, a6, a7, a8, a9, a10⟩ := rt0
  have Ta' : Ta T (Tn T) = -1 := by rw [← a10 _ hn30]; exact u5
  have rt' : RT (Tnw T b) σ' := by
    refine ⟨s2.1, ?_, ?_, ?_, ?_, ?_, ?_, ?_, fun e he => ?_, ?_⟩
    · rw [o1 6 (by decide)]; exact a2
    · rw [o1 7 (by decide)]; exact a3
    · rw [o1 8 (by decide)]; exact a4
    · rw [o1 10 (by decide)]; exact a5
    · rw [o1 12 (by decide)]; exact a6
    · rw [o1 9 (by decide)]; exact a7
    · rw [o1 11 (by decide)]; exact a8
    · show σ'.1 0 e = nI 7 ↔ (if e = Tn T then b else Tk T e) = true
      by_cases c : e = Tn T
      · rw [if_pos c, c, s0]; exact hb
      · rw [if_neg c, s.2 e c]; exact a9 e he
    · rw [o1 4 (by decide)]; exact a10
  have lt : ∀ e, e < Tn (Tnw T b) → e ≠ Tn T → e < Tn T := fun e he hne => by rw [hN] at he; omega
  have vr : ∀ a, VR (Tnw T b) G a → VR T G a ∨ a = 40 + Tn T := fun a ha => by
    unfold VR at ha ⊢
    rw [hN] at ha
    omega
  have nvr : ¬ VR T G (40 + Tn T) := by
    have := ca.1.r40
    unfold VR
    omega
  have dc : ∀ p, p < 15 → σ.1 37 (16 * (40 + Tn T) + p) = -1 := fun p hp => fr.2.2.1 _ (by omega) nvr p hp
  have ldc : ∀ p, p < 15 → Ldc σ' p (40 + Tn T) = false := fun p hp => by
    unfold Ldc
    rw [o1 37 (by decide), dc p hp]; decide
  refine ⟨⟨⟨⟨fun e he => ?_, ?_⟩, ?_, ⟨fun e he => ?_, ?_, ?_⟩, ⟨ρ, fun e he => ?_⟩⟩, fun e he => ?_, fun e he => ?_, rt'⟩, ?_, ?_, ?_, ?_, ⟨?_, by rw [s2.2 26 (by decide)]; exact s26⟩, ?_, ?_⟩
  · -- the elements' cells
    show (∀ k, k ≤ 10 → ex' k e) ∧ K'.1 0 e 0 = nI e ∧ K'.1 0 e 7 = b2 (Ts T e) ∧ (K'.1 0 e 1 = nI 7 ↔ (if e = Tn T then b else Tk T e) = true) ∧ K'.1 0 e 5 = Ta T e ∧ K'.2 0 e 8 = ro 0 (Tp T e) ∧ K'.2 0 e 9 = ro 0 (Th T e) ∧ K'.2 0 e 10 = ro 0 (Tc T e).head? ∧ K'.2 0 e 11 = ro 0 (Tt T e).head? ∧ K'.2 0 e 12 = ro 0 (Tnx T e) ∧ K'.2 0 e 13 = ro 0 (Tpv T e) ∧ K'.2 0 e 18 = some (1, e) ∧ K'.2 0 e 19 = some (6, e) ∧ K'.2 6 e 7 = some (10, e)
    by_cases c : e = Tn T
    · subst c
      have hr := Nat.le_refl (Tn T)
      rw [if_pos rfl, f0.1, f0.2.1, f0.2.2.2.2.2.1, f0.2.2.2.2.2.2.2.1, r0.1 8 (by decide) (by decide), r0.1 9 (by decide) (by decide), r0.1 10 (by decide) (by decide), r0.1 11 (by decide) (by decide), r0.1 12 (by decide) (by decide), r0.1 13 (by decide) (by decide), r0.2.1, r0.2.2, r6.2.2.2, u1, Ta', Tp_big hw hr, Th_big hw hr, Tc_big hw hr, Tt_big hw hr, Tnx_big hw hr, Tpv_big hw hr]
      exact ⟨fun k hk => (exI _ _).mpr (Or.inr ⟨hk, rfl⟩), rfl, rfl, hb, rfl, rfl, rfl, rfl, rfl, rfl, rfl, rfl, rfl, rfl⟩
    · have he' := lt e he c
      rw [if_neg c, oI 0 e 0 (by unfold mkP; omega), oI 0 e 1 (by unfold mkP; omega), oI 0 e 5 (by unfold mkP; omega), oI 0 e 7 (by unfold mkP; omega), oR 0 e 8 (by unfold mkR; omega), oR 0 e 9 (by unfold mkR; omega), oR 0 e 10 (by unfold mkR; omega), oR 0 e 11 (by unfold mkR; omega), oR 0 e 12 (by unfold mkR; omega), oR 0 e 13 (by unfold mkR; omega), oR 0 e 18 (by unfold mkR; omega), oR 0 e 19 (by unfold mkR; omega), oR 6 e 7 (by unfold mkR; omega)]
      obtain ⟨y1, y2⟩ := t1 e he'
      exact ⟨fun k hk => mono _ _ (y1 k hk), y2⟩
  · obtain ⟨y1, y2, y3, y4, y5, y6⟩ := t2
    refine ⟨mono _ _ y1, mono _ _ y2, f50.1, by rw [oR _ _ _ (by unfold mkR; omega)]; exact y4, by rw [oR _ _ _ (by unfold mkR; omega)]; exact y5, fun e he => ?_⟩
    by_cases c : e = Tn T
    · rw [c]; exact f50.2
    · rw [oR _ _ _ (by unfold mkR; omega)]; exact y6 e (lt e he c)
  · exact KP_ex mono (p9.keep kb (fun k i d z hf => by unfold mkR at z; unfold KPf at hf; omega))
  · show K'.1 0 e 14 = nI (Tix T e + 1) ∧ K'.2 0 e 15 = ro 0 (TH T e) ∧ K'.2 0 e 16 = ro 0 (Tsp (Tnw T b) e) ∧ K'.1 1 e 12 = nI (TL T e)
    rw [Tsp_nw hw]
    by_cases c : e = Tn T
    · subst c
      have hr := Nat.le_refl (Tn T)
      rw [f0.2.2.2.2.2.2.2.2, r0.1 15 (by decide) (by decide), r0.1 16 (by decide) (by decide), f1.2.2, Tix_big hw hr, TH_big hw hr, TL_big hw hr, Tsp_n (Tp_big hw hr) (Th_big hw hr)]
      exact ⟨rfl, rfl, rfl, rfl⟩
    · rw [oI 0 e 14 (by unfold mkP; omega), oR 0 e 15 (by unfold mkR; omega), oR 0 e 16 (by unfold mkR; omega), oI 1 e 12 (by unfold mkP; omega)]
      exact l1 e (lt e he c)
  · rw [oI _ _ _ (by unfold mkP; omega), l2]
    show qqM (TD T) (Tn T) = qqM (TD T) (Tn T) ||| (if TD T (Tn T) = true then (1 : Int32) <<< (nI (Tn T) &&& 31) else 0)
    rw [TD_big hw (Nat.le_refl _), if_neg (by decide), or_00]
  · rw [Tord_nw hw]
    have h0 : 0 < Tn T := by omega
    refine chS_cong l3 (fun z hz => oR _ _ _ (fun y => ?_))
    have hz' : z < Tn T := by
      rcases List.mem_cons.mp hz with h | h
      · omega
      · exact (Tord_is hw (List.mem_of_mem_tail h)).1
    unfold mkR at y
    omega
  · by_cases c : e = Tn T
    · rw [c]; exact Or.inl (r0.1 17 (by decide) (by decide))
    · rw [oR _ _ _ (by unfold mkR; omega)]
      rcases hρ e (lt e he c) with h | ⟨f, h1, h2, h3⟩
      · exact Or.inl h
      · exact Or.inr ⟨f, h1, (show f < Tn T + 1 by omega), h3⟩
  · by_cases c : e = Tn T
    · rw [c]; exact ⟨r6.1, r6.2.1, r6.2.2.1⟩
    · rw [oR 6 e 0 (by unfold mkR; omega), oR 6 e 5 (by unfold mkR; omega), oR 6 e 6 (by unfold mkR; omega)]
      exact kv e (lt e he c)
  · rw [o1 1 (by decide), o1 2 (by decide), o1 3 (by decide), o1 4 (by decide), o1 5 (by decide)]
    by_cases c : e = Tn T
    · rw [c, s0, u2, u3, u4, u5, u6]
      exact ⟨f0.2.1, f0.2.2.1, f0.2.2.2.1, f0.2.2.2.2.1, f0.2.2.2.2.2.1, f0.2.2.2.2.2.2.1⟩
    · rw [s.2 e c, oI 0 e 1 (by unfold mkP; omega), oI 0 e 2 (by unfold mkP; omega), oI 0 e 3 (by unfold mkP; omega), oI 0 e 4 (by unfold mkP; omega), oI 0 e 5 (by unfold mkP; omega), oI 0 e 6 (by unfold mkP; omega)]
      exact ke e (lt e he c)
  · -- sheets, rules, declarations
    obtain ⟨c1, c2, c3, c4, c5⟩ := ca
    obtain ⟨g1, g2, g3, g4, g5, g6, g7⟩ := c1
    obtain ⟨k1, k2, k3, k4, k5⟩ := c2
    refine ⟨⟨(s2.2 31 (by decide)).trans g1, g2, fun k hk => ?_, (s2.2 36 (by decide)).trans g4, g5, ?_, g7⟩, ⟨fun k hk => ?_, fun r hr => ?_, fun e he => ?_, ?_, fun y hy => ?_⟩, fun a ha => ?_, fun a ha p hp hl => ?_, ?_⟩
    · rw [o1 27 (by decide), o1 28 (by decide), o1 29 (by decide), o1 30 (by decide)]
      obtain ⟨y1, y2, y3⟩ := g3 k hk
      exact ⟨y1, fun h hh => ⟨(show h < Tn T + 1 by have := (y2 h hh).1; omega), (y2 h hh).2⟩, y3⟩
    · rw [o1 32 (by decide), o1 33 (by decide)]; exact g6
    · rw [o1 27 (by decide), o1 29 (by decide), o1 30 (by decide), oI 16 k 0 (by unfold mkP; omega), oI 16 k 1 (by unfold mkP; omega), oI 16 k 3 (by unfold mkP; omega), oI 16 k 4 (by unfold mkP; omega), oR 16 k 2 (by unfold mkR; omega), oR 59 0 k (by unfold mkR; omega)]
      exact ⟨mono _ _ (k1 k hk).1, (k1 k hk).2⟩
    · rw [o1 27 (by decide), o1 34 (by decide), o1 35 (by decide), oI 11 r 0 (by unfold mkP; omega), oI 11 r 3 (by unfold mkP; omega), oI 11 r 4 (by unfold mkP; omega), oI 11 r 5 (by unfold mkP; omega), oR 11 r 1 (by unfold mkR; omega), oR 11 r 2 (by unfold mkR; omega), oR 11 r 8 (by unfold mkR; omega), oR 11 r 9 (by unfold mkR; omega), oR 11 r 10 (by unfold mkR; omega), oR 11 r 11 (by unfold mkR; omega), oR 11 r 14 (by unfold mkR; omega), oR 60 0 r (by unfold mkR; omega)]
      exact ⟨fun k h1 h2 => mono _ _ ((k2 r hr).1 k h1 h2), (k2 r hr).2⟩
    · by_cases c : e = Tn T
      · rw [c]; exact ⟨r1.1, r1.2.1, f1.1, r1.2.2⟩
      · rw [oR 1 e 1 (by unfold mkR; omega), oR 1 e 2 (by unfold mkR; omega), oI 1 e 3 (by unfold mkP; omega), oR 1 e 8 (by unfold mkR; omega), oR 1 e 9 (by unfold mkR; omega), oR 1 e 10 (by unfold mkR; omega), oR 1 e 11 (by unfold mkR; omega)]
        exact k3 e (lt e he c)
    · rw [oI 58 0 4 (by unfold mkP; omega), oI 58 0 5 (by unfold mkP; omega), oI 58 0 8 (by unfold mkP; omega), oR 58 0 6 (by unfold mkR; omega), oR 58 0 7 (by unfold mkR; omega), s2.2 31 (by decide), s2.2 36 (by decide), s2.2 50 (by decide)]
      exact k4
    · rw [oI 17 y 6 (by unfold mkP; omega), o1 20 (by decide)]
      exact ⟨mono _ _ (k5 y hy).1, (k5 y hy).2⟩
    · rcases vr a ha with h | h
      · have hk := bkr_k a
        have i9 : (bkr a).1 = 1 → (bkr a).2 ≠ Tn T := fun z y => by
          unfold VR at h
          unfold bkr at z y
          have := g5
          by_cases q : a < 40
          · rw [if_pos q] at z
            have z : 11 = 1 := z
            omega
          · rw [if_neg q] at y
            have y : a - 40 = Tn T := y
            omega
        exact ((c3 a h).cg (fun f hf => o1 f (by rintro rfl; revert hf; decide))).cgK (fun d hd => oI _ _ _ (by unfold mkP; omega)) (fun t d h1 h5 => oI _ _ _ (by unfold mkP; omega))
      · subst h
        have e1 : (bkr (40 + Tn T)).1 = 1 ∧ (bkr (40 + Tn T)).2 = Tn T := by
          unfold bkr
          rw [if_neg (by omega)]
          exact ⟨rfl, show 40 + Tn T - 40 = Tn T by omega⟩
        unfold KDr
        rw [e1.1, e1.2, f1.2.1]
        exact ⟨fun p _ _ => b_0 p, fun p hp => ⟨by rw [b_0, ldc p hp], fun z => by rw [ldc p hp] at z; exact absurd z (by decide)⟩⟩
    · rcases vr a ha with h | h
      · have := c4.cg (σ' := σ') (fun f hf => o1 f (by rintro rfl; revert hf; decide)) a h p hp hl
        exact this
      · subst h
        rw [ldc p hp] at hl
        exact absurd hl (by decide)
    · exact (c5.cg (fun f hf => o1 f (by rintro rfl; revert hf; decide))).b (fun y d => oI _ _ _ (by unfold mkP; omega)) (fun d hd => oI _ _ _ (by unfold mkP; omega))
  · -- animations
    have an' := JAn_ex mono ((an.kp kb (fun k i d z => by unfold mkP at z; unfold dNI; omega) (fun k i d z => by unfold mkR at z; unfold dNR; omega)).cg (fun f hf => o1 f (by rintro rfl; revert hf; decide)) (fun f hf => s2.2 f (by rintro rfl; revert hf; decide)))
    obtain ⟨n1', n2, n3, n4, ⟨m1, m2, m3⟩, n6⟩ := an'
    refine ⟨n1', n2, n3, n4, ⟨m1, m2, fun k hk => ?_⟩, n6⟩
    obtain ⟨⟨y1, y2⟩, y3, ⟨y4, y5⟩, y6⟩ := m3 k hk
    exact ⟨⟨y1, (show _ < Tn T + 1 by omega)⟩, y3, ⟨y4, (show _ < Tn T + 1 by omega)⟩, y6⟩
  · -- values
    obtain ⟨v1, v2, v3, v4⟩ := va
    have z6 := f6 6 (by decide) (by decide)
    have e48 : σ'.2 48 = σ.2 48 := s2.2 48 (by decide)
    refine ⟨fun e he => ?_, fun e he => ?_, fun e he hd => ?_, fun e he hd => ?_⟩
    · by_cases c : e = Tn T
      · subst c
        refine ⟨vEqv_w.mpr ⟨⟨fun p hp => ?_, fun v hv => ?_⟩, ?_⟩, fun p hp => ?_, fun p hp => ?_, fun hbe => ?_, fun p hp => ?_, ?_⟩
        · rw [f6 7 (by decide) (by decide), o1 43 (by decide), u7 p hp]
        · rw [f6 7 (by decide) (by decide), o1 44 (by decide), o1 45 (by decide), (u8 v hv).1, (u8 v hv).2]
          exact ⟨Or.inr ⟨0, by decide, rfl, sm_0⟩, by decide⟩
        · rw [o1 43 (by decide), u7 6 (by decide)]
          exact fun z => absurd z (by decide)
        · refine Or.inl ⟨?_, f6 10 (by decide) (by decide) p⟩
          rw [o1 55 (by decide)]; exact (u9 p hp).2
        · rw [z6, b_0, o1 47 (by decide), (u9 p hp).1]; rfl
        · rw [e48, b48] at hbe; exact absurd hbe (by decide)
        · rw [o1 43 (by decide), u7 p hp]
          unfold bV; decide
        · rw [z6, e48, b48]; rfl
      · exact (v1 e (lt e he c)).cg (rY.of (fun f hf => o1 f (by rintro rfl; revert hf; decide))) (by rw [e48]) (fun k d k1 k2 _ => oI _ _ _ (by unfold mkP; omega))
    · rw [e48, o1 55 (by decide)]
      by_cases c : e = Tn T
      · subst c; exact fun _ p hp => (u9 p hp).2
      · exact v2 e (lt e he c)
    · rw [e48]
      have hd' : ¬ (e < Tn T + 1 ∧ TD T e = true) := hd
      exact v3 e he (fun z => hd' ⟨by omega, z.2⟩)
    · by_cases c : e = Tn T
      · rw [c]; exact z6 4
      · rw [oI _ _ _ (by unfold mkP; omega)]; exact v4 e (lt e he c) hd
  · -- marks
    have mk' := (mk.kp kb (fun k i d z => by unfold mkP at z; omega)).cg (fun f hf => s2.2 f (by rintro rfl; revert hf; decide))
    obtain ⟨w1, w2, w3⟩ := mk'
    refine ⟨fun e he hbe => ?_, fun e he hd => ?_, w3⟩
    · have := w1 e he hbe
      exact ⟨(show e < Tn T + 1 by omega), this.2⟩
    · have hd' : TD T e = true := hd
      have c : e ≠ Tn T := fun z => by rw [z, TD_big hw (Nat.le_refl _)] at hd'; cases hd'
      exact w2 e (lt e he c) hd
  · -- sets
    have eI : ∀ k i d, 17 ≤ k → ¬ (k = 50 ∧ d = 1) → K'.1 k i d = K.1 k i d := fun k i d h h' => oI _ _ _ (by unfold mkP; omega)
    have eR : ∀ k i d, 17 ≤ k → k ≠ 51 → K'.2 k i d = K.2 k i d := fun k i d h h' => oR _ _ _ (by unfold mkR; omega)
    obtain ⟨m1, m2, m3, m4, ⟨m5, m6⟩, m7, m8⟩ := km
    have k1 : ∀ f, f ∈ [14, 15, 16, 17, 18, 19, 21, 22] → σ'.1 f = σ.1 f := fun f hf => o1 f (by rintro rfl; revert hf; decide)
    refine ⟨fun y hy => ?_, fun y hy => ?_, by rw [eI _ _ _ (by decide) (by decide)]; exact m3, m4, ⟨by rw [eI _ _ _ (by decide) (by decide)]; exact m5, fun t ht => by rw [eI _ _ _ (by decide) (by omega)]; exact m6 t ht⟩, fun t ht y hy hbt => ?_, fun h hh hv y hy hbt => ?_⟩
    · obtain ⟨a1, a2, a3, a4⟩ := m1 y hy
      refine ⟨((KSl_ex mono (a1.keep a4.n.2.1 kb (fun k d h1 h2 z => by unfold mkP at z; omega) (fun k d h3 h4 z => by unfold mkR at z; omega)))).cg k1, by rw [eI _ _ _ (by decide) (by omega)]; exact a2, by rw [eR _ _ _ (by decide) (by decide)]; exact a3, a4.cg k1⟩
    · obtain ⟨a1, a2, a3⟩ := m2 y hy
      rw [eI _ _ _ (by decide) (by omega)]
      refine ⟨a1, fun i hi hbi => ?_, fun a ha => a3 a ?_⟩
      · rw [eI _ _ _ (by decide) (by omega)]; exact a2 i hi hbi
      · rw [qIn_cg (σ := σ) (fun f hf => o1 f (by rintro rfl; revert hf; decide))] at ha
        exact ha
    · rw [eI _ _ _ (by decide) (by omega)] at hbt
      have := m7 t ht y hy hbt
      exact ⟨this.1, this.2.imp id (fun z => (show t < Tn T + 1 by omega))⟩
    · rw [eI _ _ _ (by decide) (by omega), eI _ _ _ (by decide) (by omega)] at hv
      rw [eI _ _ _ (by decide) (by omega)] at hbt
      rw [eI _ _ _ (by decide) (by omega)]
      have hh' : ∀ q, h = some q → q < Tn T := fun q hq => by
        have q1 : q < Tn T + 1 := hh q hq
        by_cases c : q = Tn T
        · exfalso
          have e9 : kTr h = Tn T := by rw [hq, c]; rfl
          rw [e9] at hbt
          have := (m7 (Tn T) (by omega) y (by omega) hbt).2
          omega
        · omega
      rw [qMs_nw hw hh' s]
      exact m8 h hh' hv y hy hbt
  · exact JDf_ex mono ((d.kp kb (fun k i d z => by unfold mkP at z; omega) (fun k i d z => by unfold mkR at z; omega)).cg (fun f hf => o1 f (by rintro rfl; revert hf; decide)))
  · obtain ⟨⟨g1, g2, g3, g4, g5, g6⟩, g7, g8, g9⟩ := fr
    have E : ∀ {a c : Nat}, ex' a c → ¬ ex a c → ¬ (a ≤ 10 ∧ c = Tn T) → False := fun h h1 h2 => ((exI _ _).mp h).elim h1 h2
    refine ⟨⟨fun k e h1 h2 z => ?_, fun k h1 z => E z (g2 k h1) (by omega), fun k r h1 h2 h3 z => E z (g3 k r h1 h2 h3) (by omega), fun y h1 k h2 h3 z => E z (g4 y h1 k h2 h3) (by omega), fun y h1 h2 => ?_, fun k h1 z => E z (g6 k h1) (by omega)⟩, fun e he h30 => ?_, fun a ha hv p hp => ?_, fun r h1 h2 => ?_⟩
    · have h2' : Tn T + 1 ≤ e := h2
      exact E z (g1 k e h1 (by omega)) (by omega)
    · rw [nC_cg (o1 14 (by decide))] at h1
      obtain ⟨y1, y2, y3, y4⟩ := g5 y h1 h2
      exact ⟨fun z => E z y1 (by omega), fun z => E z y2 (by omega), fun z => E z y3 (by omega), fun z => E z y4 (by omega)⟩
    · have he' : Tn T + 1 ≤ e := he
      rw [o1 1 (by decide), o1 2 (by decide), o1 3 (by decide), o1 4 (by decide), o1 5 (by decide), o1 43 (by decide), o1 44 (by decide), o1 45 (by decide), o1 47 (by decide), o1 55 (by decide)]
      exact g7 e (by omega) h30
    · rw [o1 37 (by decide)]
      refine g8 a ha (fun z => hv ?_) p hp
      unfold VR at z ⊢
      rw [hN]
      omega
    · rw [o1 35 (by decide)]; exact g9 r h1 h2
end MK2
