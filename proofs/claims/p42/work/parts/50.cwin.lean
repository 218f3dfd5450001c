section CW9
variable {T : qqT} {G : qqG} {A : kA} {ex : Nat → Nat → Prop} {K : kS} {S : cS} {σ : mS}
def KW (T : qqT) (G : qqG) (ex : Nat → Nat → Prop) (K : kS) (σ : mS) : Prop := RC T G σ ∧ KT T ex K ∧ KP ex K ∧ KL T K ∧ KC T G ex K σ ∧ KPr T G K σ ∧ ∀ a, VR T G a → KDr K σ a
theorem bka_lt {a : Nat} (h : a < 40) : bka A a = A 11 a := by unfold bka; rw [bkr_lt h]; rfl
theorem bka_ge {a : Nat} (h : ¬ a < 40) : bka A a = A 1 (a - 40) := by unfold bka; rw [bkr_ge h]; rfl
theorem c_bor (h : KA A ex K S) (w : KW T G ex K σ) {a : Nat} (hv : VR T G a) : gI S (some (bka A a)) 6 3 = some (Lor G σ a) := by
  obtain ⟨hc, t, -, -, c, -, -⟩ := w
  have := hc.r40
  rw [bI h hv hc t c]
  unfold Lor
  by_cases h1 : a < 40
  · rw [if_pos h1, bkr_lt h1]
    exact congrArg some (c.2.1 a (by unfold VR at hv; omega)).2.2.2.2.1
  · rw [if_neg h1, bkr_ge h1]
    exact congrArg some (c.2.2.1 (a - 40) (by unfold VR at hv; omega)).2.2.1
theorem c_bdp (h : KA A ex K S) (w : KW T G ex K σ) {a : Nat} (hv : VR T G a) : gI S (some (bka A a)) 6 12 = some (Ldp T G a) := by
  obtain ⟨hc, t, -, l, c, pr, -⟩ := w
  have := hc.r40
  rw [bI h hv hc t c]
  unfold Ldp
  by_cases h1 : a < 40
  · rw [if_pos h1, bkr_lt h1]
    exact congrArg some (pr a (by unfold VR at hv; omega)).1
  · rw [if_neg h1, bkr_ge h1]
    exact congrArg some (l.1 (a - 40) (by unfold VR at hv; omega)).2.2.2
theorem c_bsh (h : KA A ex K S) (w : KW T G ex K σ) {a : Nat} (hv : VR T G a) : gR S (some (bka A a)) 6 1 = some (if a < 40 then some (A 16 (Gsf G a)) else none) := by
  obtain ⟨hc, t, -, -, c, -, -⟩ := w
  have := hc.r40
  rw [bR h hv hc t c]
  by_cases h1 : a < 40
  · rw [if_pos h1, bkr_lt h1]
    rw [show K.2 (11, a).1 (11, a).2 1 = some (16, Gsf G a) from (c.2.1 a (by unfold VR at hv; omega)).2.2.1]
    rfl
  · rw [if_neg h1, bkr_ge h1]
    rw [show K.2 (1, a - 40).1 (1, a - 40).2 1 = none from (c.2.2.1 (a - 40) (by unfold VR at hv; omega)).1]
    rfl
theorem c_sI (h : KA A ex K S) (w : KW T G ex K σ) {k : Nat} (hk : k < Gk G) (j : Nat) : gI S (some (A 16 k)) 8 j = some (K.1 16 k j) := h.I 16 8 (w.2.2.2.2.1.1 k hk).1 rfl
theorem c_bsel (h : KA A ex K S) (w : KW T G ex K σ) {a : Nat} (ha : a < Gr G) : gR S (some (A 11 a)) 6 2 = some (some (A 17 (Gse G a))) ∧ gI S (some (A 17 (Gse G a))) 7 6 = some (σ.1 20 (Gse G a)) := by
  obtain ⟨hc, t, -, -, c, -, -⟩ := w
  have hs := (hc.e ha).2
  refine ⟨?_, ?_⟩
  · rw [h.R 11 6 ((c.2.1 a ha).1 11 (by decide) (by decide)) rfl, (c.2.1 a ha).2.2.2.1]; rfl
  · rw [h.I 17 7 (c.2.2.2.2 _ hs).1 rfl, (c.2.2.2.2 _ hs).2]
theorem KA.ne (h : KA A ex K S) {k i k' i' : Nat} (h1 : ex k i) (h2 : ex k' i') : (some (A k i) = some (A k' i')) = (k = k' ∧ i = i') := by rw [Option.some.injEq, h.inj h1 h2]
theorem qqcc {b c : Bool} {x y : Int32} : (if b2 b = b2 c then x else y) = if b = c then x else y := by
  by_cases h : b = c
  · rw [if_pos h, if_pos (by rw [h])]
  · rw [if_neg h, if_neg (fun z => h (b2_inj z))]
theorem c_precedence (h : KA A ex K S) (w : KW T G ex K σ) {a b p : Nat} (ha : VR T G a) (hb : VR T G b) (hp : p < 15) (da : Ldc σ p a = true) (db : Ldc σ p b = true) : f_X1_precedence (A 58 0) (some (bka A a)) (some (bka A b)) (nI p) S = some (Lag T G σ p a b) := by
  have hc := w.1
  have t := w.2.1
  have c := w.2.2.2.2.1
  have h40 := hc.r40
  have h8 := hc.k8
  have ma := ((w.2.2.2.2.2.2 a ha).2 p hp).2 da
  have mb := ((w.2.2.2.2.2.2 b hb).2 p hp).2 db
  have tail : Lrk G σ p a = Lrk G σ p b → f_X1_precedence_74 (A 58 0) (some (bka A a)) (some (bka A b)) (b2 (Lim σ p a)) (Lrk G σ p a) (Lrk G σ p b) S = some (Lag T G σ p a b) := by
    intro c1
    unfold f_X1_precedence_74 Lag agS
    rw [if_pos c1, if_pos c1, c_bdp h w ha, qqx, c_bdp h w hb, qqx]
    by_cases c2 : Ldp T G a = Ldp T G b
    · rw [if_pos c2, if_pos c2, c_bsh h w ha, qqx]
      by_cases c3 : a < 40
      · have har : a < Gr G := by clear ma mb; unfold VR at ha; omega
        have hfa := (hc.f har).2
        rw [if_pos c3, if_neg (fun z => by cases z), c_bsh h w hb, qqx]
        by_cases c4 : b < 40
        · have hbr : b < Gr G := by clear ma mb; unfold VR at hb; omega
          have hfb := (hc.f hbr).2
          have hl : ∀ k, k < Gk G → (σ.1 29 k = -1 ∧ (if σ.1 29 k < 0 then (4 : Int32) else σ.1 29 k) = 4) ∨ (¬ σ.1 29 k = -1 ∧ (if σ.1 29 k < 0 then (4 : Int32) else σ.1 29 k) = σ.1 29 k) := by
            intro k hk
            rcases (hc.2.2.1 k hk).2.2.2.1 with q | ⟨l, q1, q2⟩
            · exact Or.inl ⟨q, by rw [q]; rfl⟩
            · refine Or.inr ⟨fun z => ?_, ?_⟩
              · have z2 : ¬ nI l < 0 := nI_pos (by omega)
                rw [← q2, z] at z2
                exact z2 (by decide)
              · rw [if_neg (by rw [q2]; exact nI_pos (by omega))]
          rw [if_pos c4, if_neg (fun z => by cases z), if_neg (show ¬ (decide (40 ≤ a) = true ∨ decide (40 ≤ b) = true) from by rw [decide_eq_true_iff, decide_eq_true_iff]; omega), qqx, c_sI h w hfa, (c.1 _ hfa).2.2.2.2.1, qqx, qqx]
          have e280 : ∀ x y : Int32, f_X1_precedence_280 (A 58 0) (some (bka A a)) (some (bka A b)) x y S = some (if x = y then (if nI (Gsf G a) = nI (Gsf G b) then (if nI a ≤ nI b then -6 else 6) else if nI (Gsf G a) ≤ nI (Gsf G b) then -6 else 6) else if x ≤ y then -5 else 5) := by
            intro x y
            unfold f_X1_precedence_280
            by_cases c6 : x = y
            · rw [if_pos c6, if_pos c6, c_bsh h w ha, qqx, c_bsh h w hb, qqx, if_pos c3, if_pos c4, bI h ha hc t c, bI h hb hc t c, bkr_lt c3, bkr_lt c4]
              rw [show K.1 (11, a).1 (11, a).2 0 = nI a from (c.2.1 a har).2.1, show K.1 (11, b).1 (11, b).2 0 = nI b from (c.2.1 b hbr).2.1]
              have e1 : (some (A 16 (Gsf G a)) = some (A 16 (Gsf G b))) = (nI (Gsf G a) = nI (Gsf G b)) := by
                rw [h.ne (c.1 _ hfa).1 (c.1 _ hfb).1, nI_eqE (by omega) (by omega)]
                simp
              by_cases c7 : nI (Gsf G a) = nI (Gsf G b)
              · rw [if_pos (e1.mpr c7), if_pos c7, qqx, qqx]
                by_cases c8 : nI a ≤ nI b
                · rw [if_pos c8, if_pos c8]; rfl
                · rw [if_neg c8, if_neg c8]; rfl
              · rw [if_neg (fun z => c7 (e1.mp z)), if_neg c7, qqx, c_sI h w hfa, qqx, qqx, c_sI h w hfb, qqx, (c.1 _ hfa).2.1, (c.1 _ hfb).2.1]
                by_cases c8 : nI (Gsf G a) ≤ nI (Gsf G b)
                · rw [if_pos c8, if_pos c8]; rfl
                · rw [if_neg c8, if_neg c8]; rfl
            · rw [if_neg c6, if_neg c6]
              by_cases c8 : x ≤ y
              · rw [if_pos c8, if_pos c8]; rfl
              · rw [if_neg c8, if_neg c8]; rfl
          have e260 : ∀ x : Int32, f_X1_precedence_260 (A 58 0) (some (bka A a)) (some (bka A b)) x S = f_X1_precedence_280 (A 58 0) (some (bka A a)) (some (bka A b)) x (σ.1 20 (Gse G b)) S := by
            intro x
            unfold f_X1_precedence_260
            rw [show (gR S (some (bka A b)) 6 2) = some (some (A 17 (Gse G b))) from by rw [bka_lt c4]; exact (c_bsel h w hbr).1, qqx, if_neg (fun z => by cases z), qqx, (c_bsel h w hbr).2, qqx]
          have e209 : ∀ x y : Int32, f_X1_precedence_209 (A 58 0) (some (bka A a)) (some (bka A b)) (b2 (Lim σ p a)) x y S = some (if x = y then (if σ.1 20 (Gse G a) = σ.1 20 (Gse G b) then (if nI (Gsf G a) = nI (Gsf G b) then (if nI a ≤ nI b then -6 else 6) else if nI (Gsf G a) ≤ nI (Gsf G b) then -6 else 6) else if σ.1 20 (Gse G a) ≤ σ.1 20 (Gse G b) then -5 else 5) else if decide (y < x) = Lim σ p a then -4 else 4) := by
            intro x y
            unfold f_X1_precedence_209
            by_cases c5 : x = y
            · rw [if_pos c5, if_pos c5, show (gR S (some (bka A a)) 6 2) = some (some (A 17 (Gse G a))) from by rw [bka_lt c3]; exact (c_bsel h w har).1, qqx, if_neg (fun z => by cases z), qqx, (c_bsel h w har).2, qqx, e260, e280]
            · rw [if_neg c5, if_neg c5]
              unfold f_X1_precedence_230
              by_cases c8 : x ≤ y
              · rw [if_pos c8, decide_eq_false (Int32.not_lt.mpr c8), show (0 : Int32) = b2 false from rfl]
                cases Lim σ p a <;> rfl
              · rw [if_neg c8, decide_eq_true (Int32.not_le.mp c8), show (1 : Int32) = b2 true from rfl]
                cases Lim σ p a <;> rfl
          have e185 : ∀ x : Int32, f_X1_precedence_185 (A 58 0) (some (bka A a)) (some (bka A b)) (b2 (Lim σ p a)) x S = f_X1_precedence_209 (A 58 0) (some (bka A a)) (some (bka A b)) (b2 (Lim σ p a)) x (Lly G σ b) S := by
            intro x
            unfold f_X1_precedence_185
            rw [c_bsh h w hb, qqx, if_pos c4, c_sI h w hfb, (c.1 _ hfb).2.2.2.2.1, qqx]
            have e9 : Lly G σ b = if σ.1 29 (Gsf G b) < 0 then (4 : Int32) else σ.1 29 (Gsf G b) := rfl
            rcases hl _ hfb with ⟨q1, q2⟩ | ⟨q1, q2⟩
            · rw [if_pos q1, e9, q2]
            · rw [if_neg q1, qqx, c_sI h w hfb, (c.1 _ hfb).2.2.2.2.1, qqx, e9, q2]
          have e9 : Lly G σ a = if σ.1 29 (Gsf G a) < 0 then (4 : Int32) else σ.1 29 (Gsf G a) := rfl
          rcases hl _ hfa with ⟨q1, q2⟩ | ⟨q1, q2⟩
          · rw [if_pos q1, e185, e209, e9, q2]
          · rw [if_neg q1, c_sI h w hfa, (c.1 _ hfa).2.2.2.2.1, qqx, e185, e209, e9, q2]
        · rw [if_neg c4, if_pos rfl, if_pos (Or.inr (decide_eq_true (by omega))), if_neg (by rw [decide_eq_true_iff]; omega)]
          unfold f_X1_precedence_149
          rw [c_bsh h w ha, qqx, if_pos c3, if_neg (fun z => by cases z)]
          rfl
      · rw [if_neg c3, if_pos rfl, if_pos (Or.inl (decide_eq_true (by omega))), if_pos (decide_eq_true (show 40 ≤ a by omega))]
        unfold f_X1_precedence_149
        rw [c_bsh h w ha, qqx, if_neg c3, if_pos rfl]
        rfl
    · rw [if_neg c2, if_neg c2, qqx, qqx]
      unfold f_X1_precedence_123
      by_cases c8 : Ldp T G b ≤ Ldp T G a
      · rw [if_pos c8, decide_eq_false (Int32.not_lt.mpr c8), show (0 : Int32) = b2 false from rfl]
        cases Lim σ p a <;> rfl
      · rw [if_neg c8, decide_eq_true (Int32.not_le.mp c8), show (1 : Int32) = b2 true from rfl]
        cases Lim σ p a <;> rfl
  have e74 : f_X1_precedence_74 (A 58 0) (some (bka A a)) (some (bka A b)) (b2 (Lim σ p a)) (Lrk G σ p a) (Lrk G σ p b) S = some (Lag T G σ p a b) := by
    by_cases c1 : Lrk G σ p a = Lrk G σ p b
    · exact tail c1
    · unfold f_X1_precedence_74 Lag agS
      rw [if_neg c1, if_neg c1]
      by_cases c8 : Lrk G σ p a ≤ Lrk G σ p b
      · rw [if_pos c8, if_pos c8]; rfl
      · rw [if_neg c8, if_neg c8]; rfl
  have e54 : ∀ x, f_X1_precedence_54 (A 58 0) (some (bka A a)) (some (bka A b)) x (b2 (Lim σ p b)) (Lrk G σ p a) S = f_X1_precedence_74 (A 58 0) (some (bka A a)) (some (bka A b)) x (Lrk G σ p a) (Lrk G σ p b) S := by
    intro x
    unfold f_X1_precedence_54
    rw [c_bor h w hb, qqx, qqx, b2_i0]
    have e9 : Lrk G σ p b = if Lim σ p b then 5 - Lor G σ b else Lor G σ b := rfl
    rw [e9]
    cases Lim σ p b <;> rfl
  have e34 : f_X1_precedence_34 (A 58 0) (some (bka A a)) (some (bka A b)) (b2 (Lim σ p a)) (b2 (Lim σ p b)) S = f_X1_precedence_54 (A 58 0) (some (bka A a)) (some (bka A b)) (b2 (Lim σ p a)) (b2 (Lim σ p b)) (Lrk G σ p a) S := by
    unfold f_X1_precedence_34
    rw [c_bor h w ha, qqx, qqx, b2_i0]
    have e9 : Lrk G σ p a = if Lim σ p a then 5 - Lor G σ a else Lor G σ a := rfl
    rw [e9]
    cases Lim σ p a <;> rfl
  have e16 : f_X1_precedence_16 (A 58 0) (some (bka A a)) (some (bka A b)) (nI p) (b2 (Lim σ p a)) S = some (Lag T G σ p a b) := by
    unfold f_X1_precedence_16
    rw [bI h hb hc t c, qqx, c_ask _ (by omega), mb.1]
    rw [← e74, ← e54, ← e34]
    cases Lim σ p b <;> rfl
  unfold f_X1_precedence
  rw [bI h ha hc t c, qqx, c_ask _ (by omega), ma.1, ← e16]
  cases Lim σ p a <;> rfl
def bko (b : Option Nat) : Option (Nat × Nat) := b.map bkr
theorem bko_kp (A : kA) (b : Option Nat) : (bko b).map (kp A) = b.map (bka A) := by cases b <;> rfl
theorem c_winner_33 (hw : Tw T) (h : KA A ex K S) (w : KW T G ex K σ) {e p : Nat} (he : e < Tn T) (hp : p < 15) {x : Int64} {o : Option Int32} {lim : Int32} (hx : ∀ i, i < 64 → bl x i = (decide (i < Gr G) && Lap T G σ o e i)) : ∀ d m k, k + d = Gr G → d < m → f_X1_winner_33 (A 58 0) m (nI p) x lim ((Lwk T G σ o e p lim k).map (bka A)) (if k < Gr G then some (A 11 k) else none) S = some ((Lwin T G σ o e p lim).map (bka A)) := by
  have hc := w.1
  have t := w.2.1
  have c := w.2.2.2.2.1
  have h40 := hc.r40
  intro d
  induction d with
  | zero =>
    intro m k hk hm
    obtain ⟨m, rfl⟩ : ∃ m', m = m' + 1 := ⟨m - 1, by omega⟩
    have hk : k = Gr G := by omega
    subst hk
    rw [f_X1_winner_33, if_neg (show ¬ Gr G < Gr G from Nat.lt_irrefl _), if_pos rfl]
    rfl
  | succ d ih =>
    intro m k hk hm
    obtain ⟨m, rfl⟩ : ∃ m', m = m' + 1 := ⟨m - 1, by omega⟩
    have hkr : k < Gr G := by omega
    have hv : VR T G k := Or.inl hkr
    have hbk : bka A k = A 11 k := bka_lt (by omega)
    have hxk := (c.2.1 k hkr).1 11 (by decide) (by decide)
    have hih := ih m (k + 1) (by omega) (by omega)
    have e104 : ∀ y : Option Nat, f_X1_winner_104 (fun z0 z1 z2 z3 z4 => f_X1_winner_33 (A 58 0) m z0 z1 z2 z3 z4 S) (A 58 0) (nI p) x lim y (some (A 11 k)) S = f_X1_winner_33 (A 58 0) m (nI p) x lim y (if k + 1 < Gr G then some (A 11 (k + 1)) else none) S := by
      intro y
      unfold f_X1_winner_104
      rw [c.nx h hkr, qqx]
    have stay : Lwc T G σ o e p lim k (Lwk T G σ o e p lim k) = false → f_X1_winner_104 (fun z0 z1 z2 z3 z4 => f_X1_winner_33 (A 58 0) m z0 z1 z2 z3 z4 S) (A 58 0) (nI p) x lim ((Lwk T G σ o e p lim k).map (bka A)) (some (A 11 k)) S = some ((Lwin T G σ o e p lim).map (bka A)) := by
      intro hz
      rw [e104]
      have : Lwk T G σ o e p lim (k + 1) = Lwk T G σ o e p lim k := by
        show (if Lwc T G σ o e p lim k (Lwk T G σ o e p lim k) = true then some k else Lwk T G σ o e p lim k) = _
        rw [hz]; rfl
      rw [this] at hih
      exact hih
    have take : Lwc T G σ o e p lim k (Lwk T G σ o e p lim k) = true → f_X1_winner_100 (fun z0 z1 z2 z3 z4 => f_X1_winner_33 (A 58 0) m z0 z1 z2 z3 z4 S) (A 58 0) (nI p) x lim (some (A 11 k)) S = some ((Lwin T G σ o e p lim).map (bka A)) := by
      intro hz
      unfold f_X1_winner_100
      rw [e104]
      have : Lwk T G σ o e p lim (k + 1) = some k := by
        show (if Lwc T G σ o e p lim k (Lwk T G σ o e p lim k) = true then some k else Lwk T G σ o e p lim k) = _
        rw [hz]; rfl
      rw [this] at hih
      rw [← hbk]
      exact hih
    have no : Lwc T G σ o e p lim k (Lwk T G σ o e p lim k) = false → f_X1_winner_75 (fun z0 z1 z2 z3 z4 => f_X1_winner_33 (A 58 0) m z0 z1 z2 z3 z4 S) (A 58 0) (nI p) x lim ((Lwk T G σ o e p lim k).map (bka A)) (some (A 11 k)) S = some ((Lwin T G σ o e p lim).map (bka A)) := by
      intro hz
      unfold f_X1_winner_75 f_X1_winner_76
      rw [if_pos rfl]
      exact stay hz
    rw [f_X1_winner_33, if_pos hkr, if_neg (fun z => by cases z), h.I 11 6 hxk rfl, (c.2.1 k hkr).2.1, qqx, nI_l (by omega), l_cmp0 _ (by omega), hx k (by omega), decide_eq_true hkr, Bool.true_and]
    by_cases c1 : Lap T G σ o e k = true
    · rw [if_pos c1, h.Rc 11 6 hxk rfl, qqx, ← hbk, c_declares h hv hc t c (w.2.2.2.2.2.2 k hv) hp, qqx, b2_i0, hbk]
      by_cases c2 : Ldc σ p k = true
      · rw [if_pos c2]
        rw [show gI S (some (A 11 k)) 6 3 = some (Lor G σ k) from by rw [← hbk]; exact c_bor h w hv, qqx]
        by_cases c3 : lim ≤ Lor G σ k
        · rw [if_pos c3]
          exact no (by unfold Lwc; rw [decide_eq_false (Int32.not_lt.mpr c3)]; simp)
        · have d3 : decide (Lor G σ k < lim) = true := decide_eq_true (Int32.not_le.mp c3)
          rw [if_neg c3]
          unfold f_X1_winner_76
          rw [if_neg (by decide)]
          cases hb : Lwk T G σ o e p lim k with
          | none =>
            rw [if_pos (show Option.map (bka A) none = none from rfl)]
            exact take (by unfold Lwc; rw [c1, c2, d3, hb]; rfl)
          | some b =>
            have hbi := Lwk_is hc he k (by omega) b hb
            rw [if_neg (fun z => by cases z), w.2.2.1.r1 h, qqx]
            show ((f_X1_precedence (A 58 0) (some (A 11 k)) (some (bka A b)) (nI p) S).bind _) = _
            rw [← hbk, c_precedence h w hv hbi.1 hp c2 hbi.2.2.1, qqx, hbk]
            by_cases c6 : Lag T G σ p k b ≤ 0
            · rw [if_pos c6]
              rw [hb] at stay
              refine stay ?_
              unfold Lwc
              show (_ && (_ && (_ && decide (0 < Lag T G σ p k b)))) = false
              rw [decide_eq_false (Int32.not_lt.mpr c6)]
              simp
            · rw [if_neg c6]
              refine take ?_
              unfold Lwc
              rw [c1, c2, d3, hb]
              show (true && (true && (true && decide (0 < Lag T G σ p k b)))) = true
              rw [decide_eq_true (Int32.not_le.mp c6)]
              rfl
      · rw [if_neg c2]
        exact no (by unfold Lwc; rw [Bool.not_eq_true _ |>.mp c2]; rfl)
    · rw [if_neg c1]
      exact no (by unfold Lwc; rw [Bool.not_eq_true _ |>.mp c1]; simp)
theorem c_winner (hw : Tw T) (h : KA A ex K S) (w : KW T G ex K σ) {e p : Nat} (he : e < Tn T) (hp : p < 15) {x : Int64} {o : Option Int32} {lim : Int32} (hx : ∀ i, i < 64 → bl x i = (decide (i < Gr G) && Lap T G σ o e i)) : f_X1_winner (A 58 0) (some (A 0 e)) (nI p) x lim S = some ((Lwin T G σ o e p lim).map (bka A)) := by
  have hc := w.1
  have t := w.2.1
  have c := w.2.2.2.2.1
  have hv : VR T G (40 + e) := Or.inr ⟨by omega, by omega⟩
  have hbk : bka A (40 + e) = A 1 e := by rw [bka_ge (by omega), show 40 + e - 40 = e by omega]
  have e25 : ∀ b, b = Lwk T G σ o e p lim 0 → f_X1_winner_25 (A 58 0) (nI p) x lim (b.map (bka A)) S = some ((Lwin T G σ o e p lim).map (bka A)) := by
    intro b hb
    unfold f_X1_winner_25
    rw [c.first h w.2.2.1, qqx, hb]
    exact c_winner_33 hw h w he hp hx (Gr G) 4000 0 (by omega) (by have := hc.r40; omega)
  have e0 : Lwk T G σ o e p lim 0 = if (Ldc σ p (40 + e) && decide (2 < lim)) = true then some (40 + e) else none := rfl
  unfold f_X1_winner f_X1_winner_24
  by_cases c1 : lim ≤ 2
  · rw [if_pos c1]
    exact e25 none (by rw [e0, decide_eq_false (Int32.not_lt.mpr c1)]; simp)
  · rw [if_neg c1, t.g18 h he, qqx, h.Rc 1 6 (t.E he (by decide)) rfl, qqx, ← hbk, c_declares h hv hc t c (w.2.2.2.2.2.2 _ hv) hp, qqx, b2_i0, hbk]
    by_cases c2 : Ldc σ p (40 + e) = true
    · rw [if_pos c2, qqx, ← hbk]
      exact e25 (some (40 + e)) (by rw [e0, c2, decide_eq_true (Int32.not_le.mp c1)]; rfl)
    · rw [if_neg c2]
      exact e25 none (by rw [e0, Bool.not_eq_true _ |>.mp c2]; rfl)
end CW9
