def kAv (ex : Nat → Nat → Prop) (K : kS) (d i : Nat) (I : qI) : Prop := match I.2.1 with
  | none => K.2 d i 9 = none
  | some f => ∃ ka ia, K.2 d i 9 = some (ka, ia) ∧ kSt ex K ka ia ∧ (ka ≠ d ∨ ia ≠ i) ∧ (∀ p, p < 12 → K.1 (ka + 1) ia p = f.1 p) ∧ ∀ v, v < 3 → K.1 (ka + 1) ia (12 + v) = cod (f.2 v)
def kIn (A : kA) (ex : Nat → Nat → Prop) (K : kS) : Prop := ex 65 0 ∧ A 65 0 = 0 ∧ ∀ p, p < 12 → K.1 65 0 p = vI0 p
section CV8
variable {T : qqT} {G : qqG} {A : kA} {ex : Nat → Nat → Prop} {K : kS} {S : cS} {σ : mS} {I : qI} {d i : Nat}
theorem kAv.ab (a : kAv ex K d i I) : kAb ex K d i (qiV I) := by
  unfold kAv at a
  unfold kAb qiV
  cases h : I.2.1 with
  | none => rw [h] at a; exact a
  | some f =>
    rw [h] at a
    obtain ⟨ka, ia, g1, g2, g3, -, g5⟩ := a
    exact ⟨ka, ia, g1, g2, g3, g5⟩
theorem kAv.keep {K' : kS} {PI PR : Nat → Nat → Nat → Prop} (a : kAv ex K d i I) (b : kB PI PR K K') (h1 : ∀ ka ia, (ka ≠ d ∨ ia ≠ i) → ∀ q, ¬ PI (ka + 1) ia q) (h2 : ¬ PR d i 9) (h3 : ∀ ka ia, ¬ PR ka ia 0) : kAv ex K' d i I := by
  unfold kAv at a ⊢
  cases h : I.2.1 with
  | none => rw [h] at a; show K'.2 d i 9 = none; rw [b.2 d i 9 h2]; exact a
  | some f =>
    rw [h] at a
    obtain ⟨ka, ia, g1, g2, g3, g4, g5⟩ := a
    exact ⟨ka, ia, by rw [b.2 d i 9 h2]; exact g1, g2.keep b (h3 ka ia), g3, fun p hp => by rw [b.1 _ _ _ (h1 ka ia g3 p)]; exact g4 p hp, fun v hv => by rw [b.1 _ _ _ (h1 ka ia g3 (12 + v))]; exact g5 v hv⟩
theorem kIn.keep {K' : kS} {PI PR : Nat → Nat → Nat → Prop} (a : kIn A ex K) (b : kB PI PR K K') (h1 : ∀ q, ¬ PI 65 0 q) : kIn A ex K' := ⟨a.1, a.2.1, fun p hp => by rw [b.1 _ _ _ (h1 p)]; exact a.2.2 p hp⟩
theorem c_hd (n b : Int32) {x0 : Nat} : f_X9_evaluated_190 x0 n b S = some (vHd n b) := by
  unfold f_X9_evaluated_190 f_X9_evaluated_233 vHd vBd
  rw [ldv100, qqx]
  by_cases h1 : (0 : Int32) ≤ lg_cmp (n.toInt64 * b.toInt64 / 100) (-100000)
  · rw [if_pos h1, if_pos h1]
    by_cases h2 : lg_cmp (n.toInt64 * b.toInt64 / 100) 100000 ≤ (0 : Int32)
    · rw [if_pos h2, if_pos h2]
    · rw [if_neg h2, if_neg h2]
  · rw [if_neg h1, if_neg h1]
def kEv (A : kA) (ex : Nat → Nat → Prop) (K : kS) (σ : mS) (I : qI) (d i : Nat) : Prop := kSt ex K d i ∧ kAv ex K d i I ∧ kIn A ex K ∧
  K.1 d i 10 = (vLe (qiP I)) ∧ K.1 d i 11 = (vSn (qiP I) (σ.2 50)) ∧ K.1 d i 13 = qHe σ I
theorem c_evaluated (h : KA A ex K S) (v : kEv A ex K σ I d i) {p : Nat} (hp : p < 12) {u : Nat} (hu : u < 10) {n : Int32} (h4 : u = 4 → p = 1 ∨ p = 2) (htop : K.1 d i 12 = vTo (qiP I) p (K.1 (d + 1) i 1) I.2.2.1) : f_X9_evaluated (A d i) (nI p) (nI u) n S = some (vEv (qiP I) (K.1 (d + 1) i 1) I.2.2.1 (qHe σ I) (σ.2 50) p (nI u, n)) := by
  obtain ⟨st, av, ini, e10, e11, e13⟩ := v
  have e184 : f_X9_evaluated_184 (A d i) (nI p) S = some (vI0 p) := by
    unfold f_X9_evaluated_184 f_X9_evaluated_189
    rw [← ini.2.1, h.AI 65 12 ini.1 rfl hp, qqx, ini.2.2 p hp]
  have habove : ((gR S (some (A d i)) 9 9).bind (fun v7 => if v7 = none then f_X9_evaluated_184 (A d i) (nI p) S else (gR S (some (A d i)) 9 9).bind (fun v8 => (gR S v8 9 0).bind (fun v9 => (aI S v9 (nI p)).bind (fun v10 => f_X9_evaluated_189 (A d i) v10 S))))) = some (vPa (qiP I) p) := by
    rw [h.R d 9 st.1 st.2.2.1]
    unfold kAv at av
    unfold qiP
    cases hI : I.2.1 with
    | none =>
      rw [hI] at av
      have av : K.2 d i 9 = none := av
      rw [av, qqx, if_pos (show Option.map (kp A) none = none from rfl), e184]
      rfl
    | some f =>
      rw [hI] at av
      obtain ⟨ka, ia, g1, g2, -, g4, -⟩ := av
      rw [g1, qqx, if_neg (fun z => by cases z), qqx]
      show ((gR S (some (A ka ia)) 9 0).bind _) = _
      rw [g2.v h, qqx, g2.a h (by omega), qqx, g4 p hp]
      rfl
  have e127 : (u = 4) → f_X9_evaluated_127 (A d i) (nI p) n S = some (vHd n (if p = 1 then (vLe (qiP I)) else (vSn (qiP I) (σ.2 50)))) := by
    intro hu4
    unfold f_X9_evaluated_127 f_X9_evaluated_143
    rw [iq2 (by omega)]
    by_cases c : p = 2
    · rw [if_pos c, st.I h, qqx, c_hd, e11, if_neg (by omega)]
    · have : p = 1 := (h4 hu4).resolve_right c
      rw [if_neg c, st.I h, qqx, c_hd, e10, if_pos this]
  have e26 : ∀ inh : Bool, inh = decide (u = 8 ∨ (u = 9 ∧ p < 2)) → f_X9_evaluated_26 (A d i) (nI p) (nI u) n (b2 inh) S = some (vEv (qiP I) (K.1 (d + 1) i 1) I.2.2.1 (qHe σ I) (σ.2 50) p (nI u, n)) := by
    intro inh hinh
    have inhT : inh = true → (if b2 inh = (0 : Int32) then f_X9_evaluated_184 (A d i) (nI p) S else ((gR S (some (A d i)) 9 9).bind (fun v7 => if v7 = none then f_X9_evaluated_184 (A d i) (nI p) S else (gR S (some (A d i)) 9 9).bind (fun v8 => (gR S v8 9 0).bind (fun v9 => (aI S v9 (nI p)).bind (fun v10 => f_X9_evaluated_189 (A d i) v10 S)))))) = some (vPa (qiP I) p) := by
      intro hh
      rw [b2_i0, if_pos hh]
      exact habove
    have inhF : inh = false → (if b2 inh = (0 : Int32) then f_X9_evaluated_184 (A d i) (nI p) S else ((gR S (some (A d i)) 9 9).bind (fun v7 => if v7 = none then f_X9_evaluated_184 (A d i) (nI p) S else (gR S (some (A d i)) 9 9).bind (fun v8 => (gR S v8 9 0).bind (fun v9 => (aI S v9 (nI p)).bind (fun v10 => f_X9_evaluated_189 (A d i) v10 S)))))) = some (vI0 p) := by
      intro hh
      rw [b2_i0, if_neg (show ¬ inh = true by rw [hh]; decide)]
      exact e184
    obtain rfl | rfl | rfl | rfl | rfl | rfl | rfl | rfl | rfl | rfl : u = 0 ∨ u = 1 ∨ u = 2 ∨ u = 3 ∨ u = 4 ∨ u = 5 ∨ u = 6 ∨ u = 7 ∨ u = 8 ∨ u = 9 := by omega
    · rfl
    · rfl
    · show (if nI p = (1 : Int32) then ((gI S (some (A d i)) 9 10).bind (fun v3 => f_X9_evaluated_96 (A d i) n v3 S)) else ((gR S (some (A d i)) 9 0).bind (fun v1 => (aI S v1 (1 : Int32)).bind (fun v2 => f_X9_evaluated_96 (A d i) n v2 S)))) = some (vHd n (if p = 1 then vLe (qiP I) else K.1 (d + 1) i 1))
      unfold f_X9_evaluated_96
      rw [iq1 (by omega)]
      by_cases cp : p = 1
      · rw [if_pos cp, st.I h, qqx, c_hd, e10, if_pos cp]
      · rw [if_neg cp, st.v h, qqx, show (1 : Int32) = nI 1 from rfl, st.a h (by decide), qqx, c_hd, if_neg cp]
    · show ((gI S (some (A d i)) 9 12).bind (fun v4 => f_X9_evaluated_190 (A d i) n v4 S)) = some (vHd n (vTo (qiP I) p (K.1 (d + 1) i 1) I.2.2.1))
      rw [st.I h, qqx, c_hd, htop]
    · show (if nI p = (2 : Int32) then ((gI S (some (A d i)) 9 11).bind (fun v5 => if v5 = (-1000000 : Int32) then some (-1000000 : Int32) else f_X9_evaluated_127 (A d i) (nI p) n S)) else f_X9_evaluated_127 (A d i) (nI p) n S) = some (if p = 1 then vHd n (vLe (qiP I)) else if vSn (qiP I) (σ.2 50) = -1000000 then -1000000 else vHd n (vSn (qiP I) (σ.2 50)))
      rw [iq2 (by omega), e127 rfl]
      by_cases cp : p = 2
      · have cp1 : ¬ p = 1 := by omega
        rw [if_pos cp, st.I h, qqx, e11, if_neg cp1, if_neg cp1]
        by_cases cA : vSn (qiP I) (σ.2 50) = -1000000
        · rw [if_pos cA, if_pos cA]
        · rw [if_neg cA, if_neg cA]
      · have cp1 : p = 1 := (h4 rfl).resolve_right cp
        rw [if_neg cp, if_pos cp1, if_pos cp1]
    · show ((gI S (some (A d i)) 9 13).bind (fun v6 => f_X9_evaluated_190 (A d i) n v6 S)) = some (vHd n (qHe σ I))
      rw [st.I h, qqx, c_hd, e13]
    · rfl
    · exact inhF (by rw [hinh]; exact decide_eq_false (by omega))
    · exact inhT (by rw [hinh]; exact decide_eq_true (by omega))
    · by_cases cp : p < 2
      · have e9 : vEv (qiP I) (K.1 (d + 1) i 1) I.2.2.1 (qHe σ I) (σ.2 50) p (nI 9, n) = vPa (qiP I) p := if_pos (Or.inr ⟨rfl, cp⟩)
        rw [e9]
        exact inhT (by rw [hinh]; exact decide_eq_true (by omega))
      · have e9 : vEv (qiP I) (K.1 (d + 1) i 1) I.2.2.1 (qHe σ I) (σ.2 50) p (nI 9, n) = vI0 p := by
          unfold vEv
          rw [if_neg (show ¬ (nI 9 = 8 ∨ (nI 9 = 9 ∧ p < 2)) from fun z => z.elim (fun y => absurd y (by decide)) (fun y => cp y.2)), if_pos (show (6 : Int32) < nI 9 by decide)]
        rw [e9]
        exact inhF (by rw [hinh]; exact decide_eq_false (by omega))
  unfold f_X9_evaluated f_X9_evaluated_21 f_X9_evaluated_25
  rw [iq8 (by omega), iq9 (by omega), iq0 (by omega), iq1 (by omega), show (0 : Int32) = b2 false from rfl, show (1 : Int32) = b2 true from rfl]
  by_cases c8 : u = 8
  · rw [if_pos c8]; exact e26 true (decide_eq_true (Or.inl c8)).symm
  · rw [if_neg c8]
    by_cases c9 : u = 9
    · rw [if_pos c9]
      by_cases q0 : p = 0
      · rw [if_pos q0]; exact e26 true (decide_eq_true (Or.inr ⟨c9, by omega⟩)).symm
      · rw [if_neg q0]
        by_cases q1 : p = 1
        · rw [if_pos q1]; exact e26 true (decide_eq_true (Or.inr ⟨c9, by omega⟩)).symm
        · rw [if_neg q1]; exact e26 false (decide_eq_false (by omega)).symm
    · rw [if_neg c9]; exact e26 false (decide_eq_false (by omega)).symm
theorem c_suits : ∀ p, p < 16 → ∀ u, u < 11 → f_X11_suits (nI p) (nI u) = some (b2 (vSu p (nI u))) := by decide +kernel
theorem vEv_hi {P : Option (Nat → Int32)} {a b c e : Int32} {p u : Nat} (h6 : 6 ≤ u) (hu : u < 12) (n m : Int32) : vEv P a b c e p (nI u, n) = vEv P a b c e p (nI u, m) := by
  unfold vEv
  by_cases h8 : nI u = 8 ∨ (nI u = 9 ∧ p < 2)
  · rw [if_pos h8, if_pos h8]
  · rw [if_neg h8, if_neg h8]
    by_cases h7 : (6 : Int32) < nI u
    · rw [if_pos h7, if_pos h7]
    · have hu6 : u = 6 := by
        rw [show (6 : Int32) = nI 6 from rfl, nI_ltE (by decide) (by omega)] at h7
        omega
      subst hu6
      rw [if_neg h7, if_neg h7, if_neg (show ¬ nI 6 < 2 by decide), if_neg (show ¬ nI 6 < 2 by decide), if_neg (show ¬ nI 6 = 2 by decide), if_neg (show ¬ nI 6 = 2 by decide), if_neg (show ¬ nI 6 = 3 by decide), if_neg (show ¬ nI 6 = 3 by decide), if_neg (show ¬ nI 6 = 4 by decide), if_neg (show ¬ nI 6 = 4 by decide), if_neg (show ¬ nI 6 = 5 by decide), if_neg (show ¬ nI 6 = 5 by decide)]
theorem c_findValue (h : KA A ex K S) (v : kEv A ex K σ I d i) (so : kSo ex K σ I.1) {p : Nat} (hp : p < 12) (hP : ∀ f, qiV I = some f → ∀ v, v < 3 → okP (f v)) (hV : ∀ w, w < 3 → K.1 (d + 1) i (12 + w) = cod (qVr σ I w)) (h70 : ∀ q, q < 15 → ∀ a, I.1 q = some a → a < 70) (htop : K.1 d i 12 = vTo (qiP I) p (K.1 (d + 1) i 1) I.2.2.1) : f_X9_findValue (A d i) (nI p) ((I.1 p).map (bka A)) S = some (vEv (qiP I) (K.1 (d + 1) i 1) I.2.2.1 (qHe σ I) (σ.2 50) p (vUn σ (qVr σ I) p (I.1 p))) := by
  have st := v.1
  have e125 : ∀ u n, u < 10 → (u = 4 → p = 1 ∨ p = 2) → f_X9_findValue_125 (A d i) (nI p) (nI u) n S = some (vEv (qiP I) (K.1 (d + 1) i 1) I.2.2.1 (qHe σ I) (σ.2 50) p (nI u, n)) := by
    intro u n hu h4
    unfold f_X9_findValue_125
    rw [st.rc h, qqx, c_evaluated h v hp hu h4 htop, qqx]
  unfold f_X9_findValue
  cases hR : I.1 p with
  | none =>
    rw [if_pos (show Option.map (bka A) none = none from rfl)]
    exact e125 9 0 (by decide) (fun z => by omega)
  | some a =>
    obtain ⟨hrw, hrok, hld, hn10⟩ := (so.2 p (by omega)).2 a hR
    have r0 := c_row h hrw (t := 0) (p := p) (by decide) (by omega)
    have r1 := c_row h hrw (t := 1) (p := p) (by decide) (by omega)
    have r2 := c_row h hrw (t := 2) (p := p) (by decide) (by omega)
    have r3 := c_row h hrw (t := 3) (p := p) (by decide) (by omega)
    obtain ⟨u, hu, hu2, hu3, hu4, hu5⟩ := hrok
    have hun := so.n (show p < 15 by omega) hR hu2 hu
    rw [if_neg (show ¬ Option.map (bka A) (some a) = none from fun z => by cases z)]
    show ((gR S (some (bka A a)) 6 8).bind _) = _
    rw [r0.1, qqx, r0.2, qqx, show K.1 ((bkr a).1 + 1 + 0) (bkr a).2 p = σ.1 37 (16 * a + p) from so.u (by omega) hR]
    show ((gR S (some (bka A a)) 6 9).bind _) = _
    rw [r1.1, qqx, r1.2, qqx]
    show (if _ then ((gR S (some (bka A a)) 6 10).bind _) else _) = _
    by_cases c : σ.1 37 (16 * a + p) = 11
    · have hu11 : u = 11 := by rw [hu2] at c; exact (nI_eq (b := 11) (by omega) (by decide)).mp c
      obtain ⟨n3, n4, ⟨w, hw3, hw4⟩, n6⟩ := hun.2.2 hu11
      have hvv : (σ.1 40 (16 * a + p)).toNatClampNeg - 12 = w := by rw [hw4, nI_clamp (by omega)]; omega
      have e1 : vUn σ (qVr σ I) p (some a) = if (qVr σ I w).1 < 0 then (if σ.1 41 (16 * a + p) < 0 then (9, 0) else if vSu p (σ.1 41 (16 * a + p)) = true then (σ.1 41 (16 * a + p), σ.1 42 (16 * a + p)) else (9, 0)) else if vSu p (qVr σ I w).1 = true then qVr σ I w else (9, 0) := by
        rw [← hvv]
        exact if_pos c
      have hok := qVar_ok (P := qiV I) (R := I.1) (σ := σ) (fun v hv b hb => ⟨((so.2 (12 + v) (by omega)).2 b hb).2.1, h70 (12 + v) (by omega) b hb⟩) hP hw3
      have hok : okP (qVr σ I w) := hok
      have e118 : ∀ n, f_X9_findValue_118 (A d i) (nI p) n S = some (vEv (qiP I) (K.1 (d + 1) i 1) I.2.2.1 (qHe σ I) (σ.2 50) p (9, 0)) := by
        intro n
        unfold f_X9_findValue_118 f_X9_findValue_124
        rw [show (9 : Int32) = nI 9 from rfl, e125 9 n (by decide) (fun z => by omega)]
        exact congrArg some (vEv_9 n 0)
      have e105 : ∀ y n, y < 7 → f_X9_findValue_105 (A d i) (nI p) (nI y) n S = some (vEv (qiP I) (K.1 (d + 1) i 1) I.2.2.1 (qHe σ I) (σ.2 50) p (if vSu p (nI y) = true then (nI y, n) else (9, 0))) := by
        intro y n hy
        unfold f_X9_findValue_105
        rw [if_neg (show ¬ nI y = -1 from fun z => by
          have z2 : ¬ nI y < 0 := nI_pos (by omega)
          rw [z] at z2
          exact z2 (by decide)), c_suits p (by omega) y (by omega), qqx, b2_i0]
        cases hs : vSu p (nI y) with
        | true =>
          rw [if_pos rfl, if_pos rfl]
          unfold f_X9_findValue_124
          exact e125 y n (by omega) (fun z => vSu_4 hp hs (by rw [z]; rfl))
        | false =>
          rw [if_neg (by decide), if_neg (by decide), e118]
      rw [if_pos c, r2.1, qqx, r2.2, qqx, show K.1 ((bkr a).1 + 1 + 2) (bkr a).2 p = nI (12 + w) from n3.trans hw4, if_neg (show ¬ nI (12 + w) < 12 from nI_nlt (a := 12 + w) (b := 12) (by omega) (by omega)), if_pos (show nI (12 + w) < 15 from nI_lt (b := 15) (by omega) (by decide)), st.v h, qqx, st.a h (by omega), qqx, hV w hw3, e1]
      unfold f_X9_findValue_68
      show (if _ then ((gR S (some (bka A a)) 6 11).bind _) else _) = _
      by_cases cn : (qVr σ I w).1 < 0
      · rw [if_pos cn]
        have cb : qVr σ I w = (-1, 0) := by rw [okP_neg hok] at cn; exact cn
        rw [if_pos (by rw [cb]; rfl), r3.1, qqx, r3.2, qqx, show K.1 ((bkr a).1 + 1 + 3) (bkr a).2 p = σ.1 41 (16 * a + p) from n4]
        rcases n6 with n7 | ⟨y, hy7, n8, n9, n10⟩
        · rw [if_pos (by rw [n7]; decide), n7]
          unfold f_X9_findValue_105
          rw [if_pos rfl, e118]
        · rw [if_neg (by rw [n8]; exact nI_pos (by omega)), n8, e105 y _ hy7]
          cases hs : vSu p (nI y) with
          | false => rfl
          | true =>
            rw [if_pos rfl, if_pos rfl]
            by_cases y6 : y < 6
            · rw [show K.1 ((bkr a).1 + 1 + 1) (bkr a).2 p = σ.1 42 (16 * a + p) from n9 y6]
            · exact congrArg some (vEv_hi (by omega) (by omega) _ _)
      · rw [if_neg cn]
        rcases okP_c hok with cb | ⟨y, n, hy, hsm, cb⟩
        · rw [cb] at cn; exact absurd (by decide) cn
        · have hcu := cod_u hy hsm
          rw [cb, if_neg (show ¬ cod (nI y, n) = -1000001 from fun z => by
            rw [cod_bad (Or.inr ⟨y, hy, rfl, hsm⟩)] at z
            have z1 := congrArg Prod.fst z
            have z2 : nI y = -1 := z1
            have z3 : ¬ nI y < 0 := nI_pos (by omega)
            rw [z2] at z3
            exact z3 (by decide)), hcu.1, qqx, hcu.2, e105 y n hy]
    · have e1 : vUn σ (qVr σ I) p (some a) = (σ.1 37 (16 * a + p), σ.1 38 (16 * a + p)) := if_neg c
      have hu10 : u < 10 := by
        have n10 : u ≠ 10 := fun z => hn10 (by rw [hu2, z]; rfl)
        have n11 : u ≠ 11 := fun z => c (by rw [hu2, z]; rfl)
        omega
      rw [if_neg c, e1, hu2, e125 u _ hu10 (fun z => by have := hu4 z; omega)]
      by_cases u6 : u < 6
      · rw [show K.1 ((bkr a).1 + 1 + 1) (bkr a).2 p = σ.1 38 (16 * a + p) from hun.1 u6]
      · exact congrArg some (vEv_hi (by omega) (by omega) _ _)
def FI (d i : Nat) (k x j : Nat) : Prop := (k = d ∧ x = i ∧ (j = 3 ∨ (10 ≤ j ∧ j ≤ 13))) ∨ (k = d + 1 ∧ x = i)
def FR (d i : Nat) (k x j : Nat) : Prop := k = d ∧ x = i ∧ j = 9
def kNr (d : Nat) : Prop := d = 6 ∨ d = 39 ∨ d = 44
theorem kNr.n (h : kNr d) : ¬ kRow d ∧ ¬ kRow (d + 1) ∧ d ≠ 65 ∧ d + 1 ≠ 65 ∧ d ≠ 61 ∧ d + 1 ≠ 61 := by unfold kNr at h; unfold kRow; omega
def kFs (A : kA) (ex : Nat → Nat → Prop) (K : kS) (σ : mS) (I : qI) (d i : Nat) : Prop := kEv A ex K σ I d i ∧ kSo ex K σ I.1 ∧ kNr d ∧ (∀ f, qiV I = some f → ∀ v, v < 3 → okP (f v)) ∧ ∀ q, q < 15 → ∀ a, I.1 q = some a → a < 70
theorem kNo (hd : kNr d) {ka ia : Nat} (s : (kT ka).1 = 9) (hne : ka ≠ d ∨ ia ≠ i) {q : Nat} : ¬ FI d i (ka + 1) ia q := by
  intro z
  unfold FI at z
  have h9 : ∀ k, k < 66 → (kT k).1 = 9 → k = 6 ∨ k = 39 ∨ k = 44 := by decide +kernel
  have hk : ka = 6 ∨ ka = 39 ∨ ka = 44 := by
    rcases Nat.lt_or_ge ka 66 with h | h
    · exact h9 ka h s
    · exfalso
      have : kT ka = (99, 0) := by
        unfold kT
        rw [List.getD_eq_getElem?_getD, List.getElem?_eq_none (show kTL.length ≤ ka from Nat.le_trans (by decide) h)]
        rfl
      rw [this] at s
      cases s
  unfold kNr at hd
  omega
theorem kAv.keepF {K' : kS} (hd : kNr d) (a : kAv ex K d i I) {PI PR : Nat → Nat → Nat → Prop} (b : kB PI PR K K') (hI : ∀ k x j, PI k x j → FI d i k x j) (hR : ∀ k x j, PR k x j → False) : kAv ex K' d i I := by
  unfold kAv at a ⊢
  cases h : I.2.1 with
  | none => rw [h] at a; show K'.2 d i 9 = none; rw [b.2 d i 9 (hR _ _ _)]; exact a
  | some f =>
    rw [h] at a
    obtain ⟨ka, ia, g1, g2, g3, g4, g5⟩ := a
    exact ⟨ka, ia, by rw [b.2 d i 9 (hR _ _ _)]; exact g1, g2.keep b (hR _ _ _), g3, fun p hp => by rw [b.1 _ _ _ (fun z => kNo hd g2.2.2.1 g3 (hI _ _ _ z))]; exact g4 p hp, fun v hv => by rw [b.1 _ _ _ (fun z => kNo hd g2.2.2.1 g3 (hI _ _ _ z))]; exact g5 v hv⟩
theorem kFs.keep {K' : kS} (s : kFs A ex K σ I d i) {PI : Nat → Nat → Nat → Prop} (b : kB PI F3 K K') (hI : ∀ k x j, PI k x j → FI d i k x j) (h10 : ¬ PI d i 10 ∧ ¬ PI d i 11 ∧ ¬ PI d i 13) : kFs A ex K' σ I d i := by
  obtain ⟨⟨st, av, ini, e10, e11, e13⟩, so, nr, hP, h70⟩ := s
  have nn := nr.n
  refine ⟨⟨st.keep b (fun z => z), av.keepF nr b hI (fun _ _ _ z => z), ini.keep b (fun q z => by have := hI _ _ _ z; unfold FI at this; omega), ?_, ?_, ?_⟩, so.keep b (fun k i j hk hj z => ?_) (fun _ _ _ _ _ _ z => z) (fun _ z => z), nr, hP, h70⟩
  · rw [b.1 _ _ _ h10.1]; exact e10
  · rw [b.1 _ _ _ h10.2.1]; exact e11
  · rw [b.1 _ _ _ h10.2.2]; exact e13
  · have := hI _ _ _ z
    unfold FI at this
    rcases this with y | y
    · rw [y.1] at hk; exact nn.1 hk
    · rw [y.1] at hk; exact nn.2.1 hk
def kVl (K : kS) (σ : mS) (I : qI) (d i p : Nat) : Prop := (∀ q, q < 12 → (q < p ∨ q = 1) → K.1 (d + 1) i q = qVl σ I q) ∧ (∀ v, v < 3 → K.1 (d + 1) i (12 + v) = cod (qVr σ I v)) ∧ (∀ q, q < 32 → bt (K.1 d i 3) q = (decide (q < p ∧ q < 15) && qIm σ I q))
theorem c_ff_156 : ∀ n m p (K : kS) (S : cS), KA A ex K S → kFs A ex K σ I d i → kVl K σ I d i p → (K.1 d i 12 = vTo (qiP I) 0 (K.1 (d + 1) i 1) I.2.2.1) → p + n = 15 → n < m → ∃ S' K', f_X9_findFrom_156 (A d i) m (some (A 61 0)) (nI p) S = some S' ∧ KA A ex K' S' ∧ kFs A ex K' σ I d i ∧ kVl K' σ I d i 15 ∧ kB (FI d i) F3 K K' := by
  intro n
  induction n with
  | zero =>
    intro m p K S h s vl ht hp hm
    obtain ⟨m, rfl⟩ : ∃ m', m = m' + 1 := ⟨m - 1, by omega⟩
    have hp : p = 15 := by omega
    subst hp
    rw [f_X9_findFrom_156, if_pos (by decide)]
    exact ⟨S, K, rfl, h, s, vl, kB.rf K⟩
  | succ n ih =>
    intro m p K S h s vl ht hp hm
    obtain ⟨m, rfl⟩ : ∃ m', m = m' + 1 := ⟨m - 1, by omega⟩
    have hp15 : p < 15 := by omega
    have imp : ∀ (K1 : kS) (S1 : cS), KA A ex K1 S1 → kFs A ex K1 σ I d i → (∀ q, q < 12 → (q < p + 1 ∨ q = 1) → K1.1 (d + 1) i q = qVl σ I q) → (∀ v, v < 3 → K1.1 (d + 1) i (12 + v) = cod (qVr σ I v)) → K1.1 d i 3 = K.1 d i 3 → (K1.1 d i 12 = vTo (qiP I) 0 (K1.1 (d + 1) i 1) I.2.2.1) → kB (FI d i) F3 K K1 → ∃ S' K', f_X9_findFrom_197 (f_X9_findFrom_156 (A d i) m) (A d i) (some (A 61 0)) (nI p) ((I.1 p).map (bka A)) S1 = some S' ∧ KA A ex K' S' ∧ kFs A ex K' σ I d i ∧ kVl K' σ I d i 15 ∧ kB (FI d i) F3 K K' := by
      intro K1 S1 h1 s1 v1 v2 e3 ht1 b1
      have st := s1.1.1
      have go : ∀ y : Int32, (∀ q, q < 32 → bt y q = (decide (q = p) && qIm σ I p)) → ∃ S' K', f_X9_findFrom_221 (f_X9_findFrom_156 (A d i) m) (A d i) (some (A 61 0)) (nI p) (some (A d i)) (K1.1 d i 3) y S1 = some S' ∧ KA A ex K' S' ∧ kFs A ex K' σ I d i ∧ kVl K' σ I d i 15 ∧ kB (FI d i) F3 K K' := by
        intro y hy
        unfold f_X9_findFrom_221
        obtain ⟨S2, e2, h2⟩ := h1.PI (k := d) (i := i) (j := 3) st.1 st.2.2.1 st.2.2.2.2.1 (K1.1 d i 3 ||| y)
        rw [e2, qqx, nI_1]
        have b2 : kB (fun k x j => k = d ∧ x = i ∧ j = 3) F3 K1 (kwI K1 d i 3 (K1.1 d i 3 ||| y)) := (kB.rf K1).I ⟨rfl, rfl, rfl⟩
        have s2 := s1.keep b2 (fun k x j z => Or.inl ⟨z.1, z.2.1, Or.inl z.2.2⟩) ⟨fun z => absurd z.2.2 (by decide), fun z => absurd z.2.2 (by decide), fun z => absurd z.2.2 (by decide)⟩
        have o2 : ∀ q, (kwI K1 d i 3 (K1.1 d i 3 ||| y)).1 (d + 1) i q = K1.1 (d + 1) i q := fun q => b2.1 _ _ _ (fun z => by omega)
        obtain ⟨S3, K3, e4, h3, s3, v3, b3⟩ := ih m (p + 1) _ S2 h2 s2 ⟨fun q hq hqp => by rw [o2]; exact v1 q hq hqp, fun v hv => by rw [o2]; exact v2 v hv, fun q hq => by
            rw [kwI_1, if_pos ⟨rfl, rfl, rfl⟩, b_or, e3, vl.2.2 q hq, hy q hq]
            by_cases c : q = p
            · subst c
              rw [decide_eq_false (by omega), decide_eq_true rfl, decide_eq_true (show q < q + 1 ∧ q < 15 by omega)]
              rfl
            · rw [decide_eq_false c, Bool.false_and, Bool.or_false]
              by_cases c2 : q < p ∧ q < 15
              · rw [decide_eq_true c2, decide_eq_true (show q < p + 1 ∧ q < 15 by omega)]
              · rw [decide_eq_false c2, decide_eq_false (show ¬ (q < p + 1 ∧ q < 15) by omega)]⟩ (by
            rw [o2, kwI_1, if_neg (fun z => absurd z.2.2 (by decide))]
            exact ht1) (by omega) (by omega)
        exact ⟨S3, K3, e4, h3, s3, v3, b1.tr ((b2.wd (fun k x j z => Or.inl ⟨z.1, z.2.1, Or.inl z.2.2⟩) (fun _ _ _ z => z)).tr b3)⟩
      unfold f_X9_findFrom_197
      rw [st.I h1, qqx]
      cases hR : I.1 p with
      | none =>
        rw [if_pos (show Option.map (bka A) none = none from rfl)]
        exact go 0 (fun q _ => by
          rw [b_0]
          unfold qIm
          rw [hR]
          show false = (decide (q = p) && false)
          rw [Bool.and_false])
      | some a =>
        rw [if_neg (show ¬ Option.map (bka A) (some a) = none from fun z => by cases z)]
        have hrw := ((s1.2.1.2 p hp15).2 a hR).1
        have e7 : gI S1 (some (bka A a)) 6 7 = some (K1.1 (bkr a).1 (bkr a).2 7) := h1.I (bkr a).1 6 hrw.1.1 hrw.1.2.1
        show ∃ S' K', ((gI S1 (some (bka A a)) 6 7).bind _) = _ ∧ _
        rw [e7, qqx]
        refine go _ (fun q hq => ?_)
        rw [b_and, b_one (by omega) hq]
        by_cases c : q = p
        · subst c
          rw [s1.2.1.im hp15 hR, decide_eq_true rfl, Bool.and_true, Bool.true_and]
          unfold qIm
          rw [hR]
          rfl
        · rw [decide_eq_false c, Bool.and_false, Bool.false_and]
    rw [f_X9_findFrom_156, if_neg (ge15 hp15), s.2.1.g h hp15, qqx]
    by_cases c12 : 12 ≤ p
    · rw [if_pos (show (12 : Int32) ≤ nI p from le12 c12 (by omega))]
      exact imp K S h s (fun q hq _ => vl.1 q hq (Or.inl (by omega))) vl.2.1 rfl ht (kB.rf K)
    · rw [if_neg (show ¬ (12 : Int32) ≤ nI p from ge12 (by omega)), iq1 (by omega)]
      by_cases c1 : p = 1
      · rw [if_pos c1]
        exact imp K S h s (fun q hq hq1 => vl.1 q hq (by omega)) vl.2.1 rfl ht (kB.rf K)
      · have st := s.1.1
        have hown : K.1 (d + 1) i 1 = qSz σ I := by rw [vl.1 1 (by decide) (Or.inr rfl), qVl_1]
        rw [if_neg c1, st.v h, qqx, st.rc h, qqx, c_findValue h s.1 s.2.1 (by omega) s.2.2.2.1 vl.2.1 s.2.2.2.2 (by
          rw [ht]
          unfold vTo
          cases qiP I with
          | none => show (if 0 = 1 then (16 : Int32) else _) = if p = 1 then _ else _; rw [if_neg c1, if_neg (by decide)]
          | some f => rfl), qqx, hown]
        obtain ⟨S2, e2, h2⟩ := h.SI (k := d + 1) (i := i) (j := p) (N := 15) st.2.1 st.2.2.2.1 st.2.2.2.2.2.1 (by omega) (qVl σ I p)
        have e2 : sI S (some (A (d + 1) i)) (nI p) (vEv (qiP I) (qSz σ I) I.2.2.1 (qHe σ I) (σ.2 50) p (vUn σ (qVr σ I) p (I.1 p))) = some S2 := e2
        rw [e2, qqx]
        have b2 : kB (fun k x j => k = d + 1 ∧ x = i ∧ j = p) F3 K (kwI K (d + 1) i p (qVl σ I p)) := (kB.rf K).I ⟨rfl, rfl, rfl⟩
        refine imp _ S2 h2 (s.keep b2 (fun k x j z => Or.inr ⟨z.1, z.2.1⟩) ⟨fun z => by omega, fun z => by omega, fun z => by omega⟩) (fun q hq hq1 => ?_) (fun v hv => ?_) ?_ ?_ (b2.wd (fun k x j z => Or.inr ⟨z.1, z.2.1⟩) (fun _ _ _ z => z))
        · rw [kwI_1]
          by_cases c : q = p
          · rw [if_pos ⟨rfl, rfl, c⟩, c]
          · rw [if_neg (fun z => c z.2.2)]; exact vl.1 q hq (by omega)
        · rw [kwI_1, if_neg (fun z => by omega)]; exact vl.2.1 v hv
        · rw [kwI_1, if_neg (fun z => by omega)]
        · rw [kwI_1, if_neg (fun z => by omega), kwI_1, if_neg (fun z => by omega)]; exact ht
end CV8
