def qOI (k _i _j : Nat) : Prop := (6 ≤ k ∧ k ≤ 10) ∨ (18 ≤ k ∧ k ≤ 49) ∨ (52 ≤ k ∧ k ≤ 57) ∨ (61 ≤ k ∧ k ≤ 64)
def qOR (k _i j : Nat) : Prop := ((k = 6 ∨ k = 39 ∨ k = 44) ∧ j = 9) ∨ k = 61
section CG9
variable {T : qqT} {G : qqG} {A : kA} {ex : Nat → Nat → Prop} {K K' : kS} {S : cS} {σ : mS}
theorem KT.va (t : KT T ex K) (b : kB qOI qOR K K') : KT T ex K' := t.keep b (fun i => by unfold qOI; omega) (fun i => by unfold qOR; exact ⟨fun j h1 h2 => by omega, by omega, by omega, by omega, by omega, by omega, fun j => by omega⟩)
theorem KP.va (t : KP ex K) (b : kB qOI qOR K K') : KP ex K' := t.keep b (fun k i j h => by unfold qOR at h; unfold KPf; omega)
theorem KL.va (t : KL T K) (b : kB qOI qOR K K') : KL T K' := t.keep b (fun i => by unfold qOI; omega) (fun i => by unfold qOR; omega)
theorem KR.va (t : KR T K) (b : kB qOI qOR K K') : KR T K' := t.keep b (fun i => by unfold qOR; omega)
theorem KC.va (c : KC T G ex K σ) (b : kB qOI qOR K K') : KC T G ex K' σ := by
  obtain ⟨c1, c2, c3, c4, c5⟩ := c
  have eI : ∀ k i j, ¬ qOI k i j → K'.1 k i j = K.1 k i j := b.1
  have eR : ∀ k i j, ¬ qOR k i j → K'.2 k i j = K.2 k i j := b.2
  refine ⟨fun k hk => ?_, fun r hr => ?_, fun e he => ?_, ?_, fun s hs => ?_⟩
  · rw [eI 16 k 0 (by unfold qOI; omega), eI 16 k 1 (by unfold qOI; omega), eR 16 k 2 (by unfold qOR; omega), eI 16 k 3 (by unfold qOI; omega), eI 16 k 4 (by unfold qOI; omega), eR 59 0 k (by unfold qOR; omega)]
    exact c1 k hk
  · rw [eI 11 r 0 (by unfold qOI; omega), eR 11 r 1 (by unfold qOR; omega), eR 11 r 2 (by unfold qOR; omega), eI 11 r 3 (by unfold qOI; omega), eI 11 r 4 (by unfold qOI; omega), eI 11 r 5 (by unfold qOI; omega), eR 11 r 8 (by unfold qOR; omega), eR 11 r 9 (by unfold qOR; omega), eR 11 r 10 (by unfold qOR; omega), eR 11 r 11 (by unfold qOR; omega), eR 11 r 14 (by unfold qOR; omega), eR 60 0 r (by unfold qOR; omega)]
    exact c2 r hr
  · rw [eR 1 e 1 (by unfold qOR; omega), eR 1 e 2 (by unfold qOR; omega), eI 1 e 3 (by unfold qOI; omega), eR 1 e 8 (by unfold qOR; omega), eR 1 e 9 (by unfold qOR; omega), eR 1 e 10 (by unfold qOR; omega), eR 1 e 11 (by unfold qOR; omega)]
    exact c3 e he
  · rw [eI 58 0 4 (by unfold qOI; omega), eI 58 0 5 (by unfold qOI; omega), eI 58 0 8 (by unfold qOI; omega), eR 58 0 6 (by unfold qOR; omega), eR 58 0 7 (by unfold qOR; omega)]
    exact c4
  · rw [eI 17 s 6 (by unfold qOI; omega)]
    exact c5 s hs
theorem KPr.va (c : KPr T G K σ) (b : kB qOI qOR K K') : KPr T G K' σ := fun r hr => by
  rw [b.1 11 r 12 (by unfold qOI; omega), b.1 11 r 13 (by unfold qOI; omega)]
  exact c r hr
theorem KDr.va {a : Nat} (c : KDr K σ a) (b : kB qOI qOR K K') : KDr K' σ a := by
  have hk := bkr_k a
  unfold KDr at c ⊢
  have e : ∀ t j, t < 5 → K'.1 ((bkr a).1 + t) (bkr a).2 j = K.1 ((bkr a).1 + t) (bkr a).2 j := fun t j ht => b.1 _ _ _ (by unfold qOI; omega)
  have e0 : ∀ j, K'.1 (bkr a).1 (bkr a).2 j = K.1 (bkr a).1 (bkr a).2 j := fun j => e 0 j (by decide)
  rw [e0 6, e0 7]
  refine ⟨c.1, fun p hp => ?_⟩
  rw [e 1 p (by decide), e 2 p (by decide), e 3 p (by decide), e 4 p (by decide)]
  exact c.2 p hp
theorem KW.va (w : KW T G ex K σ) (b : kB qOI qOR K K') : KW T G ex K' σ := ⟨w.1, w.2.1.va b, w.2.2.1.va b, w.2.2.2.1.va b, w.2.2.2.2.1.va b, w.2.2.2.2.2.1.va b, fun a ha => (w.2.2.2.2.2.2 a ha).va b⟩
theorem KW.rw (w : KW T G ex K σ) {a : Nat} (hv : VR T G a) : KRw ex K σ a := by
  refine ⟨?_, w.2.2.2.2.2.2 a hv⟩
  obtain ⟨hc, t, -, -, c, -, -⟩ := w
  have h40 := hc.r40
  have hb := hv.bk hc t c
  refine ⟨hb.1, hb.2, fun q hq => ?_⟩
  unfold VR at hv
  by_cases h1 : a < 40
  · rw [bkr_lt h1]
    have c9 := c.2.1 a (by omega)
    obtain rfl | rfl | rfl | rfl : q = 0 ∨ q = 1 ∨ q = 2 ∨ q = 3 := by omega
    · exact ⟨c9.1 12 (by decide) (by decide), rfl, c9.2.2.2.2.2.2.2.1⟩
    · exact ⟨c9.1 13 (by decide) (by decide), rfl, c9.2.2.2.2.2.2.2.2.1⟩
    · exact ⟨c9.1 14 (by decide) (by decide), rfl, c9.2.2.2.2.2.2.2.2.2.1⟩
    · exact ⟨c9.1 15 (by decide) (by decide), rfl, c9.2.2.2.2.2.2.2.2.2.2.1⟩
  · rw [bkr_ge h1]
    have c9 := c.2.2.1 (a - 40) (by omega)
    have he : a - 40 < Tn T := by omega
    obtain rfl | rfl | rfl | rfl : q = 0 ∨ q = 1 ∨ q = 2 ∨ q = 3 := by omega
    · exact ⟨t.E (k := 2) he (by decide), rfl, c9.2.2.2.1⟩
    · exact ⟨t.E (k := 3) he (by decide), rfl, c9.2.2.2.2.1⟩
    · exact ⟨t.E (k := 4) he (by decide), rfl, c9.2.2.2.2.2.1⟩
    · exact ⟨t.E (k := 5) he (by decide), rfl, c9.2.2.2.2.2.2⟩
def SR (k _i _j : Nat) : Prop := k = 61
theorem c_gather_31 (hw : Tw T) {e : Nat} (he : e < Tn T) {x : Int64} {o : Option Int32} (hx : ∀ i, i < 64 → bl x i = (decide (i < Gr G) && Lap T G σ o e i)) {k10 : Option Nat → Int64 → Int32 → cS → Option cS} {p : Nat} (hp : p < 15) : ∀ n m k (b : Option Nat) (K : kS) (S : cS), KA A ex K S → KW T G ex K σ → k + n = 3 → n < m → (∀ a, b = some a → VR T G a ∧ Ldc σ p a = true) → ∃ S', f_X1_gather_31 k10 (A 58 0) m (some (A 0 e)) x (nI p) (b.map (bka A)) (nI k) S = k10 (some (A 0 e)) x (nI (p + 1)) S' ∧ KA A ex (kwR K 61 0 p (bko (LfF T G σ o e p n b))) S' := by
  intro n
  induction n with
  | zero =>
    intro m k b K S h w hk hm hb
    obtain ⟨m, rfl⟩ : ∃ m', m = m' + 1 := ⟨m - 1, by omega⟩
    have hk : k = 3 := by omega
    subst hk
    rw [f_X1_gather_31, if_pos (show (2 : Int32) < nI 3 by decide)]
    obtain ⟨S1, e1, h1⟩ := h.SR (k := 61) (i := 0) (j := p) (ci := 6) (N := 15) (w.2.2.1.x (by decide) (by decide) (by decide)) rfl (by decide) hp (bko b) (fun r hr => by
      cases b with
      | none => cases hr
      | some a =>
        cases hr
        have := (w.rw (hb a rfl).1).1
        exact ⟨this.1, this.2.1⟩)
    rw [bko_kp] at e1
    refine ⟨S1, ?_, h1⟩
    unfold f_X1_gather_76
    rw [h.R 58 1 (w.2.2.1.x (by decide) (by decide) (by decide)) rfl, w.2.2.1.2.2.2.1.2.2.2.2, qqx]
    show ((sR S (some (A 61 0)) 6 (nI p) (b.map (bka A))).bind _) = _
    rw [e1, qqx, nI_1]
  | succ n ih =>
    intro m k b K S h w hk hm hb
    obtain ⟨m, rfl⟩ : ∃ m', m = m' + 1 := ⟨m - 1, by omega⟩
    have hc := w.1
    have done : ∀ c : Option Nat, c = b → LfF T G σ o e p (n + 1) b = c → ∃ S', f_X1_gather_76 k10 (A 58 0) (some (A 0 e)) x (nI p) (c.map (bka A)) S = k10 (some (A 0 e)) x (nI (p + 1)) S' ∧ KA A ex (kwR K 61 0 p (bko (LfF T G σ o e p (n + 1) b))) S' := by
      intro c hcb hl
      rw [hl]
      obtain ⟨S1, e1, h1⟩ := h.SR (k := 61) (i := 0) (j := p) (ci := 6) (N := 15) (w.2.2.1.x (by decide) (by decide) (by decide)) rfl (by decide) hp (bko c) (fun r hr => by
        cases c with
        | none => cases hr
        | some a =>
          cases hr
          have := (w.rw (hb a hcb.symm).1).1
          exact ⟨this.1, this.2.1⟩)
      rw [bko_kp] at e1
      refine ⟨S1, ?_, h1⟩
      unfold f_X1_gather_76
      rw [h.R 58 1 (w.2.2.1.x (by decide) (by decide) (by decide)) rfl, w.2.2.1.2.2.2.1.2.2.2.2, qqx]
      show ((sR S (some (A 61 0)) 6 (nI p) (c.map (bka A))).bind _) = _
      rw [e1, qqx, nI_1]
    rw [f_X1_gather_31, if_neg (show ¬ (2 : Int32) < nI k from nI_nlt (a := 2) (b := k) (by omega) (by omega))]
    cases b with
    | none =>
      rw [if_pos (show Option.map (bka A) none = none from rfl)]
      exact done none rfl rfl
    | some a =>
      obtain ⟨hv, hd⟩ := hb a rfl
      have hr := c_row h (w.rw hv) (t := 0) (p := p) (by decide) hp
      have hdr := ((w.2.2.2.2.2.2 a hv).2 p hp).2 hd
      rw [if_neg (show ¬ Option.map (bka A) (some a) = none from fun z => by cases z)]
      show ∃ S', ((gR S (some (bka A a)) 6 8).bind _) = _ ∧ _
      rw [hr.1, qqx, hr.2, qqx, show K.1 ((bkr a).1 + 1 + 0) (bkr a).2 p = σ.1 37 (16 * a + p) from hdr.2.1]
      by_cases c : σ.1 37 (16 * a + p) = 10
      · rw [if_pos c]
        show ∃ S', ((gI S (some (bka A a)) 6 3).bind _) = _ ∧ _
        rw [c_bor h w hv, qqx, w.2.2.1.r1 h, qqx, c_winner hw h w he hp hx, qqx, nI_1]
        have e9 : LfF T G σ o e p (n + 1) (some a) = LfF T G σ o e p n (Lwin T G σ o e p (Lor G σ a)) := if_pos c
        rw [e9]
        exact ih m (k + 1) _ K S h w (by omega) (by omega) (fun a' ha' => by
          have := Lwin_is hc he ha'
          exact ⟨this.1, this.2.2.1⟩)
      · rw [if_neg c]
        exact done (some a) rfl (if_neg c)
theorem c_gather_10 (hw : Tw T) {e : Nat} (he : e < Tn T) {x : Int64} {o : Option Int32} (hx : ∀ i, i < 64 → bl x i = (decide (i < Gr G) && Lap T G σ o e i)) : ∀ n m p (K : kS) (S : cS), KA A ex K S → KW T G ex K σ → p + n = 15 → n < m → (∀ q, q < p → K.2 61 0 q = bko (Lfnd T G σ o e q)) → ∃ S' K', f_X1_gather_10 (A 58 0) m (some (A 0 e)) x (nI p) S = some S' ∧ KA A ex K' S' ∧ (∀ q, q < 15 → K'.2 61 0 q = bko (Lfnd T G σ o e q)) ∧ kB F3 SR K K' := by
  intro n
  induction n with
  | zero =>
    intro m p K S h w hp hm hq
    obtain ⟨m, rfl⟩ : ∃ m', m = m' + 1 := ⟨m - 1, by omega⟩
    have hp : p = 15 := by omega
    subst hp
    rw [f_X1_gather_10, if_pos (by decide)]
    exact ⟨S, K, rfl, h, hq, kB.rf K⟩
  | succ n ih =>
    intro m p K S h w hp hm hq
    obtain ⟨m, rfl⟩ : ∃ m', m = m' + 1 := ⟨m - 1, by omega⟩
    have hp15 : p < 15 := by omega
    rw [f_X1_gather_10, if_neg (ge15 hp15), w.2.2.1.r1 h, qqx, c_winner hw h w he hp15 hx, qqx]
    obtain ⟨S1, e1, h1⟩ := c_gather_31 (k10 := f_X1_gather_10 (A 58 0) m) hw he hx hp15 3 4000 0 (Lwin T G σ o e p 3) K S h w (by omega) (by decide) (fun a ha => by
      have := Lwin_is w.1 he ha
      exact ⟨this.1, this.2.2.1⟩)
    have e1 : f_X1_gather_31 (f_X1_gather_10 (A 58 0) m) (A 58 0) 4000 (some (A 0 e)) x (nI p) ((Lwin T G σ o e p 3).map (bka A)) 0 S = _ := e1
    rw [e1]
    have b1 : kB F3 SR K (kwR K 61 0 p (bko (LfF T G σ o e p 3 (Lwin T G σ o e p 3)))) := (kB.rf K).R (show SR 61 0 p from rfl)
    obtain ⟨S2, K2, e2, h2, q2, b2⟩ := ih m (p + 1) _ S1 h1 (w.va (b1.wd (fun _ _ _ z => z.elim) (fun k i j z => Or.inr z))) (by omega) (by omega) (fun q hqp => by
      rw [kwR_2]
      by_cases c : q = p
      · rw [if_pos ⟨rfl, rfl, c⟩, c]; rfl
      · rw [if_neg (fun z => c z.2.2)]; exact hq q (by omega))
    exact ⟨S2, K2, e2, h2, q2, b1.tr b2⟩
theorem c_gather (hw : Tw T) {e : Nat} (he : e < Tn T) (h : KA A ex K S) (w : KW T G ex K σ) {hh : Option Nat} {o : Option Int32} (ho : match hh with
    | none => o = none
    | some y => gI S (some y) 9 2 = o) (hon : hh.isSome = true → o.isSome = true) : ∃ S' K', f_X1_gather (A 58 0) (some (A 0 e)) hh S = some S' ∧ KA A ex K' S' ∧ (∀ q, q < 15 → K'.2 61 0 q = bko (Lfnd T G σ o e q)) ∧ kB F3 SR K K' := by
  obtain ⟨x, e1, hx⟩ := c_applying h w.2.2.1 w.1 w.2.1 w.2.2.2.2.1 w.2.2.2.2.2.1 hw he ho hon
  unfold f_X1_gather
  rw [w.2.2.1.r1 h, qqx, e1, qqx]
  exact c_gather_10 hw he hx 15 4000 0 K S h w (by omega) (by decide) (fun q hq => by omega)
end CG9
