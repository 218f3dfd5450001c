section TS8
variable {T : qqT} {G : qqG} {L : qqL} {A A' : kA} {ex ex' : Nat → Nat → Prop} {K K' : kS} {S S' : cS} {σ σ' : mS} {v v' n k c nw9 m : Nat} {x1 x2 x3 : Int32}
theorem r_336n (x1 x2 x3 x9 : Int32) (σ : mS) : f_test_336 x1 x2 x3 x9 1 σ = some (-1, sf σ 81 1) ∧ f_test_336 x1 x2 x3 x9 2 σ = some (-1, sf σ 81 2) ∧ f_test_336 x1 x2 x3 x9 3 σ = some (-1, sf σ 81 3) := by
  unfold f_test_336
  rw [r_holds1, r_holds2, r_holds3]
  exact ⟨rfl, rfl, rfl⟩
theorem r_209n (hk : k < 4) (h14 : σ.1 14 30 = nI (k + 1)) (hc : c ≤ 4) (h16 : σ.1 16 (120 + k) = nI c) (x1 x2 x3 x4 x5 y : Int32) : f_test_209 x1 x2 x3 x4 x5 0 y σ = some (-1, sf σ 81 1) := by
  unfold f_test_209 f_test_251
  rw [if_pos rfl, r_t252 (m := k + 1) (by omega) (by omega) h14 hc h16]
  unfold f_test_300 f_test_313
  rw [if_pos rfl]
  exact (r_336n _ _ _ _ _).1
theorem r_180n (hk : k < 4) (h14 : σ.1 14 30 = nI (k + 1)) (hc : c ≤ 4) (h16 : σ.1 16 (120 + k) = nI c) {y0 y1 : Int32} (hy : y0 &&& y1 = 0) (x1 x2 x3 x4 x5 : Int32) : f_test_180 x1 x2 x3 x4 x5 y0 y1 σ = some (-1, sf σ 81 1) := by
  unfold f_test_180 f_test_204
  rw [hy]
  by_cases c4 : x4 = 0
  · rw [if_pos c4]; exact r_209n hk h14 hc h16 _ _ _ _ _ _
  · rw [if_neg c4, r_in, qqx]
    rw [r_209n hk h14 hc h16, r_209n hk h14 hc h16, ite_self]
def P_ts (T : qqT) (G : qqG) (σ : mS) (x : Int32) (T' : qqT) (G' : qqG) (σ' : mS) : Prop := T' = T ∧ G' = G ∧ (∀ f, σ'.2 f = (sf σ 81 0).2 f) ∧ ∃ kk c x2 x3, kk + 1 = nC σ 30 ∧ c = nTt σ 30 kk ∧ c < 4 ∧ tsS (sf σ 81 0) σ' kk c x x2 x3 ∧ σ'.1 21 30 = (if x = 9 then x2 else σ.1 21 30) ∧ σ'.1 22 30 = (if x = 8 then 1 else σ.1 22 30)
theorem sq_test {T : qqT} {G : qqG} {L : qqL} {A : kA} {ex : Nat → Nat → Prop} {K : kS} {v nw9 k : Nat} {S : cS} {σ : mS} (w : JW k T G L A ex K v nw9 S σ) (a1 a2 a3 : Int32) : sJR [0, 2, 1] lvN (JP (pf T G σ (P_ts T G σ a1)) (k + 1)) (f_X11_test 1 a1 a2 a3 S) (f_test a1 a2 a3 σ) := by
  obtain ⟨⟨hw, hA, hin⟩, h49, ⟨hv, hn, h54⟩, j⟩ := id w
  have h30 := hw.n30
  have q9 := j.1.1
  have hg := j.2.2.2.2.2.1.1.2.2.2.1
  have df := j.2.2.2.2.2.2.1
  obtain ⟨kk, c, hkk, hc, hc4, hk4, h14, h16, d⟩ := drf j
  refine at49 (P := fun x => sJR [0, 2, 1] lvN (JP (pf T G σ (P_ts T G σ a1)) (k + 1)) (f_X11_test x a1 a2 a3 S) (f_test a1 a2 a3 σ)) h49 ?_
  unfold f_X11_test
  rcases ix_cases a1 (n := 10) (by decide) with ⟨q, hq, rfl⟩ | hx
  · have no : ∀ x0, sJR [0, 2, 1] lvN (JP (pf T G σ (P_ts T G σ (nI q))) (k + 1)) (f_X11_test_14 x0 (nI q) a2 a3 1 S) (some (-1, sf σ 81 1)) := fun x0 => by
      unfold f_X11_test_14
      rw [c_refA1, qqx]
      exact sJR.l rfl (w.no 1)
    rw [c_suitsY hq, qqx, b2_i0]
    obtain ⟨y0, y1, e1, e2⟩ := r_testS hq a2 a3 σ
    rw [e1]
    cases hs : sutB q a2 a3 with
    | false =>
      rw [hs] at e2
      rw [if_neg (by decide), r_180n hk4 h14 hc4 h16 e2]
      exact no _
    | true =>
      rw [hs] at e2
      rw [if_pos rfl]
      have n : ∀ r : Nat, r < 10 → q ≠ r → ¬ nI q = nI r := fun r hr hne z => hne ((nI_eqE (by omega) (by omega)).mp z)
      have put : ∀ (x4 : Option Nat), (∀ hc5 : c < 4, ∃ S' K' σ', f_X7_addTest (A 17 (Gs G)) (nI q) a2 a3 x4 S = some S' ∧ f_test_336 (nI q) a2 a3 (nI (120 + kk)) 0 σ = some (nI (c + 1), σ') ∧ KA A ex K' S' ∧ J0 T G L ex K' σ' v ∧ K'.1 (18 + kk) (Gs G) 4 = nI (c + 1) ∧ kB (tsP (Gs G) kk c) F3 K K' ∧ (∀ f, σ'.2 f = (sf σ 81 0).2 f) ∧ tsS (sf σ 81 0) σ' kk c (nI q) a2 a3 ∧ σ'.1 21 30 = (if nI q = 9 then a2 else σ.1 21 30) ∧ σ'.1 22 30 = (if nI q = 8 then 1 else σ.1 22 30)) → sJR [0, 2, 1] lvN (JP (pf T G σ (P_ts T G σ (nI q))) (k + 1)) (f_X11_test_91 (A 49 0) (nI q) a2 a3 x4 S) (f_test_252 (nI q) a2 a3 1 1 0 σ) := by
        intro x4 hp
        have g52 : gR S (some (A 52 0)) 5 3 = some (some (A 17 (Gs G))) := by
          rw [hA.R 52 5 (q9.2.1.x (by decide) (by decide) (by decide)) rfl, df.1.2.2.1]; rfl
        have gC : gI S (some (A (18 + kk) (Gs G))) 2 4 = some (nI c) := by rw [d.cI hA, d.2.2.2]
        have g4 : gI S (some (A 17 (Gs G))) 7 4 = some (σ.1 21 30) := by rw [d.dI hA, df.1.1.1.2.2.2.2.1]
        rw [r_t252 (m := kk + 1) (by omega) (by omega) h14 hc4 h16]
        unfold f_X11_test_91
        rw [q9.2.1.matcher hA, qqx, g52, qqx, d.l hA rfl, qqx, gC, qqx]
        have full : sJR [0, 2, 1] lvN (JP (pf T G σ (P_ts T G σ (nI q))) (k + 1)) (f_X11_test_127 (A 49 0) (nI q) a2 a3 x4 (some (A 17 (Gs G))) S) (f_test_300 (nI q) a2 a3 1 1 0 (nI (120 + kk)) 1 σ) := by
          unfold f_X11_test_127 f_X11_test_132 f_test_300
          rw [c_refS1, qqx, if_neg (by decide), if_pos rfl, if_neg (by decide), if_neg (by decide), (r_336n _ _ _ _ _).2.2]
          exact sJR.l rfl (w.no 3)
        by_cases c4 : c = 4
        · rw [if_pos (show (4 : Int32) ≤ nI c by rw [c4]; decide), decide_eq_true c4, Bool.true_or]
          exact full
        · obtain ⟨S', K', σ', f1, f2, f3, f4, f5, f6, f7⟩ := hp (by omega)
          have e2 : K'.2 = K.2 := funext fun x => funext fun y => funext fun z => f6.2 x y z (fun w => w)
          have ok : sJR [0, 2, 1] lvN (JP (pf T G σ (P_ts T G σ (nI q))) (k + 1)) (f_X11_test_131 (A 49 0) (nI q) a2 a3 x4 (some (A 17 (Gs G))) S) (f_test_300 (nI q) a2 a3 1 1 0 (nI (120 + kk)) 0 σ) := by
            unfold f_X11_test_131 f_X11_test_132 f_test_300
            rw [c_refS0, qqx, if_neg (by decide), if_pos rfl, if_neg (by decide), if_pos rfl, f2]
            show sJR _ _ _ ((rc S (some (A 17 (Gs G))) 7).bind _) _
            have gC' : gI S' (some (A (18 + kk) (Gs G))) 2 4 = some (nI (c + 1)) := by rw [d.cI f3, f5]
            rw [d.dR hA, qqx, f1, qqx, d.l f3 e2, qqx, gC', qqx]
            exact sJR.r rfl ((f7.1 81).trans rfl) (w.to f3 (hin.kp f6 (fun i j => by unfold tsP; omega)) f4 (by omega) ((f7.1 54).trans rfl) (Or.inr ⟨(f7.1 81).trans rfl, rfl, rfl, f7.1, kk, c, a2, a3, hkk, hc, by omega, f7.2.1, f7.2.2.1, f7.2.2.2⟩))
          rw [if_neg (show ¬ (4 : Int32) ≤ nI c from nI_ge (b := 4) (by omega) (by decide)), decide_eq_false c4, Bool.false_or]
          by_cases c9 : nI q = 9
          · rw [if_pos c9, g4, qqx, decide_eq_true c9, Bool.and_true]
            rcases df.1.2.1.2.1 with h | ⟨p, hp4, h⟩
            · rw [h, if_pos rfl]; exact ok
            · rw [h, if_neg (nI_m1 (by omega)), decide_eq_true (nI_pos' (by omega))]; exact full
          · rw [if_neg c9, decide_eq_false c9, Bool.and_false]; exact ok
      show sJR _ _ _ (f_X11_test_14 (A 49 0) (nI q) a2 a3 0 S) _
      unfold f_X11_test_14
      rw [c_refA0, qqx]
      show sJR _ _ _ (if nI q = (5:Int32) then (f_X11_test_37 (A 49 0) (nI q) a2 a3 S) else (if nI q = (6:Int32) then (f_X11_test_37 (A 49 0) (nI q) a2 a3 S) else (if nI q = (7:Int32) then (f_X11_test_37 (A 49 0) (nI q) a2 a3 S) else (f_X11_test_91 (A 49 0) (nI q) a2 a3 none S)))) _
      by_cases hns : q = 5 ∨ q = 6 ∨ q = 7
      · have cl : (if nI q = (5:Int32) then (f_X11_test_37 (A 49 0) (nI q) a2 a3 S) else (if nI q = (6:Int32) then (f_X11_test_37 (A 49 0) (nI q) a2 a3 S) else (if nI q = (7:Int32) then (f_X11_test_37 (A 49 0) (nI q) a2 a3 S) else (f_X11_test_91 (A 49 0) (nI q) a2 a3 none S)))) = f_X11_test_52 (A 49 0) (nI q) a2 a3 (some (A 52 0)) (ofI q a2 a3) S := by
          have e37 : f_X11_test_37 (A 49 0) (nI q) a2 a3 S = f_X11_test_52 (A 49 0) (nI q) a2 a3 (some (A 52 0)) (ofI q a2 a3) S := by
            unfold f_X11_test_37 ofI
            rw [q9.2.1.matcher hA, qqx]
            by_cases z : q = 7
            · rw [if_pos (show nI q = 7 by rw [z]; rfl), if_pos z]
            · rw [if_neg (show ¬ nI q = 7 from n 7 (by decide) z), if_neg z]
          rw [e37]
          rcases hns with z | z | z
          · rw [if_pos (show nI q = 5 by rw [z]; rfl)]
          · rw [if_neg (show ¬ nI q = 5 from n 5 (by decide) (by omega)), if_pos (show nI q = 6 by rw [z]; rfl)]
          · rw [if_neg (show ¬ nI q = 5 from n 5 (by decide) (by omega)), if_neg (show ¬ nI q = 6 from n 6 (by decide) (by omega)), if_pos (show nI q = 7 by rw [z]; rfl)]
        rw [cl]
        unfold f_X11_test_52 f_test_180
        rw [q9.2.1.r5 hA, qqx, e2, show nsB q = true from decide_eq_true hns, if_neg (show ¬ b2 true = 0 by decide), j.2.2.2.2.2.1.2, r_in0 (ofI q a2 a3) (n := Gs G) (by omega) rfl, qqx]
        rcases ix_cases (ofI q a2 a3) (n := Gs G) (by omega) with ⟨a, ha, hof⟩ | hx
        · have km := j.2.2.2.2.2.1.1.1 a ha
          have x17 : ex 17 a := km.1.1.1
          have sel := c_selectorAt q9.2.1 hA j.2.2.2.2.2.1.1.2.2.1 hg ha km.2.2.1
          have g5 : gI S (some (A 17 a)) 7 5 = some (σ.1 22 a) := by rw [hA.I 17 7 x17 rfl, km.1.1.2.2.2.2.2]
          have g4 : gI S (some (A 17 a)) 7 4 = some (σ.1 21 a) := by rw [hA.I 17 7 x17 rfl, km.1.1.2.2.2.2.1]
          rw [hof, if_dt (nI_inn ha (by omega)), sel, qqx, if_neg (fun z => by cases z), hA.Rc 17 7 x17 rfl, qqx]
          unfold f_X7_reachesOut f_X7_reachesOut_15 f_X7_reachesOut_20 f_test_204 f_test_209
          rw [g5, qqx, if_neg (show ¬ b2 true = 0 by decide), if_neg (show ¬ b2 true = 0 by decide), if_neg (show ¬ (1 : Int32) = 0 by decide), rd_22 (by omega), qqx]
          have bars : sJR [0, 2, 1] lvN (JP (pf T G σ (P_ts T G σ (nI q))) (k + 1)) (some (.inl 0, S)) (f_test_247 (nI q) a2 a3 (b2 true) 1 σ) := by
            unfold f_test_247
            rw [r_t252 (m := kk + 1) (by omega) (by omega) h14 hc4 h16]
            unfold f_test_300 f_test_313
            rw [if_neg (show ¬ b2 true = 0 by decide), if_neg (show ¬ (1 : Int32) = 0 by decide), (r_336n _ _ _ _ _).1]
            exact sJR.l rfl (w.no 1)
          obtain ⟨hb, h22⟩ := km.2.2.2.2.2.1
          rw [h22, b2_i0, b2_i1]
          cases hb with
          | true =>
            rw [if_pos rfl, if_pos rfl]
            exact bars
          | false =>
            rw [if_neg (by decide), if_neg (by decide), g4, qqx, rd_21 (by omega), qqx]
            rcases km.2.2.2.2.1 with h21 | ⟨p, hp4, h21⟩
            · rw [h21, if_pos rfl, if_pos (show (-1 : Int32) < 0 by decide)]
              show sJR _ _ _ (f_X11_test_78 (A 49 0) (nI q) a2 a3 (some (A 17 a)) S) (f_test_252 (nI q) a2 a3 1 1 0 σ)
              unfold f_X11_test_78
              rw [if_neg (fun z => by cases z)]
              exact put (some (A 17 a)) (fun hc5 => ts_I hA j hkk hc hc5 h16 d hs hns ha hof (by rw [h22]; rfl) (by rw [h21]; decide))
            · rw [h21, if_neg (nI_m1 (by omega)), if_neg (nI_pos (by omega))]
              exact bars
        · have seln : f_X5_selectorAt (A 52 0) (ofI q a2 a3) S = some none := by
            have m := j.2.2.2.2.2.1.1
            unfold f_X5_selectorAt
            by_cases h0 : ofI q a2 a3 < 0
            · rw [if_pos h0]; rfl
            · rw [if_neg h0, q9.2.1.I52 hA, m.2.2.1, qqx, if_pos (Int32.not_lt.mp (fun z => hx ⟨Int32.not_lt.mp h0, z⟩))]; rfl
          rw [seln, qqx, if_pos rfl, if_df hx]
          unfold f_X11_test_78 f_test_209 f_test_251
          rw [if_pos rfl, if_neg (show ¬ b2 true = 0 by decide), if_neg (show ¬ b2 true = 0 by decide), if_pos rfl, r_t252 (m := kk + 1) (by omega) (by omega) h14 hc4 h16]
          unfold f_test_300
          rw [if_neg (show ¬ b2 true = 0 by decide), if_pos rfl, if_pos rfl, (r_336n _ _ _ _ _).2.1]
          exact sJR.l rfl (w.no 2)
      · rw [if_neg (show ¬ nI q = 5 from n 5 (by decide) (by omega)), if_neg (show ¬ nI q = 6 from n 6 (by decide) (by omega)), if_neg (show ¬ nI q = 7 from n 7 (by decide) (by omega))]
        unfold f_test_180 f_test_204 f_test_209 f_test_251
        rw [e2, show nsB q = false from decide_eq_false hns, if_pos (show b2 false = 0 from rfl), if_neg (show ¬ b2 true = 0 by decide), if_pos (show b2 false = 0 from rfl)]
        exact put none (fun hc5 => ts_N hA j hkk hc hc5 h16 d hq hs ⟨by omega, by omega, by omega⟩)
  · have no : ∀ x0, sJR [0, 2, 1] lvN (JP (pf T G σ (P_ts T G σ a1)) (k + 1)) (f_X11_test_14 x0 a1 a2 a3 1 S) (some (-1, sf σ 81 1)) := fun x0 => by
      unfold f_X11_test_14
      rw [c_refA1, qqx]
      exact sJR.l rfl (w.no 1)
    rw [c_suitsN hx, qqx, if_pos rfl, r_testN hx, r_180n hk4 h14 hc4 h16 (by decide)]
    exact no _
end TS8
