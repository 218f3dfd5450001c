def sutB (q : Nat) (x2 x3 : Int32) : Bool := if q = 0 ∨ q = 1 then decide (0 ≤ x2 ∧ x2 < nI 8) else if q = 2 ∨ q = 9 then decide (0 ≤ x2 ∧ x2 < nI 4) else if q = 3 then (decide (0 ≤ x2 ∧ x2 < nI 2) && decide (0 ≤ x3 ∧ x3 < nI 10)) else if q = 4 then (decide (-9 ≤ x2 ∧ x2 ≤ 9) && decide (-9 ≤ x3 ∧ x3 ≤ 9)) else if q = 7 then decide (0 ≤ x2 ∧ x2 < nI 4) else true
def nsB (q : Nat) : Bool := decide (q = 5 ∨ q = 6 ∨ q = 7)
def ofI (q : Nat) (x2 x3 : Int32) : Int32 := if q = 7 then x3 else x2
theorem q10 {q : Nat} (h : q < 10) : q = 0 ∨ q = 1 ∨ q = 2 ∨ q = 3 ∨ q = 4 ∨ q = 5 ∨ q = 6 ∨ q = 7 ∨ q = 8 ∨ q = 9 := by omega
theorem c_suitsY {q : Nat} (hq : q < 10) (x2 x3 : Int32) : f_X11_suitsTest (nI q) x2 x3 = some (b2 (sutB q x2 x3)) := by
  have lt9 : ∀ x : Int32, (x < -9 ∨ 9 < x) ↔ ¬ (-9 ≤ x ∧ x ≤ 9) := fun x => by
    constructor
    · rintro (h | h) ⟨h1, h2⟩
      · exact absurd h1 (Int32.not_le.mpr h)
      · exact absurd h2 (Int32.not_le.mpr h)
    · intro h
      by_cases c : x < -9
      · exact Or.inl c
      · exact Or.inr (Int32.not_le.mp (fun z => h ⟨Int32.not_lt.mp c, z⟩))
  unfold f_X11_suitsTest
  have z0 : f_X11_suitsTest_133 = some 0 := rfl
  have z1 : f_X11_suitsTest_134 1 = some 1 := rfl
  have y0 : f_X11_suitsTest_103 = some 0 := rfl
  have y1 : f_X11_suitsTest_104 1 = some 1 := rfl
  have w1 : f_X11_suitsTest_158 = some 1 := rfl
  rcases q10 hq with rfl | rfl | rfl | rfl | rfl | rfl | rfl | rfl | rfl | rfl
  · rw [if_pos (show nI 0 = 0 from rfl), show (8 : Int32) = nI 8 from rfl, c_isBelow, qqx, rz_b2]; rfl
  · rw [if_neg (show ¬ nI 1 = 0 by decide), if_pos (show nI 1 = 1 from rfl), show (8 : Int32) = nI 8 from rfl, c_isBelow, qqx, rz_b2]; rfl
  · rw [if_neg (show ¬ nI 2 = 0 by decide), if_neg (show ¬ nI 2 = 1 by decide), if_pos (show nI 2 = 2 from rfl), show (4 : Int32) = nI 4 from rfl, c_isBelow, qqx, rz_b2]; rfl
  · rw [if_neg (show ¬ nI 3 = 0 by decide), if_neg (show ¬ nI 3 = 1 by decide), if_neg (show ¬ nI 3 = 2 by decide), if_pos (show nI 3 = 3 from rfl), show (2 : Int32) = nI 2 from rfl, show (10 : Int32) = nI 10 from rfl, c_isBelow, qqx, b2_i0, y0, y1, show sutB 3 x2 x3 = (decide (0 ≤ x2 ∧ x2 < nI 2) && decide (0 ≤ x3 ∧ x3 < nI 10)) from rfl]
    cases decide (0 ≤ x2 ∧ x2 < nI 2) with
    | false => rfl
    | true =>
      rw [if_pos rfl, c_isBelow, qqx, b2_i0]
      cases decide (0 ≤ x3 ∧ x3 < nI 10) <;> rfl
  · rw [if_neg (show ¬ nI 4 = 0 by decide), if_neg (show ¬ nI 4 = 1 by decide), if_neg (show ¬ nI 4 = 2 by decide), if_neg (show ¬ nI 4 = 3 by decide), if_pos (show nI 4 = 4 from rfl), z0, z1, show sutB 4 x2 x3 = (decide (-9 ≤ x2 ∧ x2 ≤ 9) && decide (-9 ≤ x3 ∧ x3 ≤ 9)) from rfl]
    by_cases c1 : -9 ≤ x2 ∧ x2 ≤ 9
    · have n1 : ¬ x2 < -9 := fun z => (lt9 x2).mp (Or.inl z) c1
      have n2 : ¬ 9 < x2 := fun z => (lt9 x2).mp (Or.inr z) c1
      rw [if_neg n1, if_neg n2, decide_eq_true c1, Bool.true_and]
      by_cases c2 : -9 ≤ x3 ∧ x3 ≤ 9
      · rw [if_neg (show ¬ x3 < -9 from fun z => (lt9 x3).mp (Or.inl z) c2), if_neg (show ¬ 9 < x3 from fun z => (lt9 x3).mp (Or.inr z) c2), decide_eq_true c2]; rfl
      · rw [decide_eq_false c2]
        rcases (lt9 x3).mpr c2 with z | z
        · rw [if_pos z]; rfl
        · rw [if_pos z, ite_self]; rfl
    · rw [decide_eq_false c1, Bool.false_and]
      rcases (lt9 x2).mpr c1 with z | z
      · rw [if_pos z]; rfl
      · rw [if_pos z, ite_self]; rfl
  · rw [if_neg (show ¬ nI 5 = 0 by decide), if_neg (show ¬ nI 5 = 1 by decide), if_neg (show ¬ nI 5 = 2 by decide), if_neg (show ¬ nI 5 = 3 by decide), if_neg (show ¬ nI 5 = 4 by decide), if_pos (show nI 5 = 5 from rfl), if_pos (show nI 5 = 5 from rfl), w1]; rfl
  · rw [if_neg (show ¬ nI 6 = 0 by decide), if_neg (show ¬ nI 6 = 1 by decide), if_neg (show ¬ nI 6 = 2 by decide), if_neg (show ¬ nI 6 = 3 by decide), if_neg (show ¬ nI 6 = 4 by decide), if_neg (show ¬ nI 6 = 5 by decide), if_pos (show nI 6 = 6 from rfl), if_neg (show ¬ nI 6 = 5 by decide), if_pos (show nI 6 = 6 from rfl), w1]; rfl
  · rw [if_neg (show ¬ nI 7 = 0 by decide), if_neg (show ¬ nI 7 = 1 by decide), if_neg (show ¬ nI 7 = 2 by decide), if_neg (show ¬ nI 7 = 3 by decide), if_neg (show ¬ nI 7 = 4 by decide), if_neg (show ¬ nI 7 = 5 by decide), if_neg (show ¬ nI 7 = 6 by decide), if_pos (show nI 7 = 7 from rfl), show (4 : Int32) = nI 4 from rfl, c_isBelow, qqx, rz_b2]; rfl
  · rw [if_neg (show ¬ nI 8 = 0 by decide), if_neg (show ¬ nI 8 = 1 by decide), if_neg (show ¬ nI 8 = 2 by decide), if_neg (show ¬ nI 8 = 3 by decide), if_neg (show ¬ nI 8 = 4 by decide), if_neg (show ¬ nI 8 = 5 by decide), if_neg (show ¬ nI 8 = 6 by decide), if_neg (show ¬ nI 8 = 7 by decide), if_pos (show nI 8 = 8 from rfl), if_neg (show ¬ nI 8 = 5 by decide), if_neg (show ¬ nI 8 = 6 by decide), if_pos (show nI 8 = 8 from rfl), w1]; rfl
  · rw [if_neg (show ¬ nI 9 = 0 by decide), if_neg (show ¬ nI 9 = 1 by decide), if_neg (show ¬ nI 9 = 2 by decide), if_neg (show ¬ nI 9 = 3 by decide), if_neg (show ¬ nI 9 = 4 by decide), if_neg (show ¬ nI 9 = 5 by decide), if_neg (show ¬ nI 9 = 6 by decide), if_neg (show ¬ nI 9 = 7 by decide), if_neg (show ¬ nI 9 = 8 by decide), if_pos (show nI 9 = 9 from rfl), show (4 : Int32) = nI 4 from rfl, c_isBelow, qqx, rz_b2]; rfl
theorem x10_ne {x : Int32} (hx : ¬ (0 ≤ x ∧ x < nI 10)) {q : Nat} (hq : q < 10) : ¬ x = nI q := fun z => hx (by rw [z]; exact nI_inn hq (by decide))
theorem c_suitsN {x1 : Int32} (hx : ¬ (0 ≤ x1 ∧ x1 < nI 10)) (x2 x3 : Int32) : f_X11_suitsTest x1 x2 x3 = some 0 := by
  have n : ∀ q, q < 10 → ¬ x1 = nI q := fun q hq => x10_ne hx hq
  have n0 : ¬ x1 = 0 := n 0 (by decide)
  have n1 : ¬ x1 = 1 := n 1 (by decide)
  have n2 : ¬ x1 = 2 := n 2 (by decide)
  have n3 : ¬ x1 = 3 := n 3 (by decide)
  have n4 : ¬ x1 = 4 := n 4 (by decide)
  have n5 : ¬ x1 = 5 := n 5 (by decide)
  have n6 : ¬ x1 = 6 := n 6 (by decide)
  have n7 : ¬ x1 = 7 := n 7 (by decide)
  have n8 : ¬ x1 = 8 := n 8 (by decide)
  have n9 : ¬ x1 = 9 := n 9 (by decide)
  unfold f_X11_suitsTest
  rw [if_neg n0, if_neg n1, if_neg n2, if_neg n3, if_neg n4, if_neg n5, if_neg n6, if_neg n7, if_neg n8, if_neg n9, if_neg n5, if_neg n6, if_neg n8]
  rfl
section TS5
variable {T : qqT} {G : qqG} {L : qqL} {A A' : kA} {ex ex' : Nat → Nat → Prop} {K K' : kS} {S S' : cS} {σ σ' : mS} {v v' n k c : Nat} {x1 x2 x3 : Int32}
theorem and_01 (b : Bool) : (1 : Int32) &&& b2 b = b2 b ∧ b2 b &&& 1 = b2 b := by cases b <;> exact ⟨rfl, rfl⟩
theorem r_testS {q : Nat} (hq : q < 10) (x2 x3 : Int32) (σ : mS) : ∃ y0 y1, f_test (nI q) x2 x3 σ = f_test_180 (nI q) x2 x3 (b2 (nsB q)) (ofI q x2 x3) y0 y1 σ ∧ y0 &&& y1 = b2 (sutB q x2 x3) := by
  have br : ∀ (b : Bool) (X Y : Option (Int32 × mS)) (F : Int32 → Option (Int32 × mS)), F 0 = X → F 1 = Y → (if b2 b = (0 : Int32) then X else Y) = F (b2 b) := fun b X Y F h0 h1 => by
    cases b with
    | true => exact (if_neg (show ¬ b2 true = 0 by decide)).trans h1.symm
    | false => exact (if_pos rfl).trans h0.symm
  rcases q10 hq with rfl | rfl | rfl | rfl | rfl | rfl | rfl | rfl | rfl | rfl
  · refine ⟨b2 (sutB 0 x2 x3), 1, ?_, (and_01 _).2⟩
    show (f_in x2 0 7).bind (fun v2 => if v2 = (0:Int32) then (f_test_115 (nI 0) x2 x3 0 x2 σ) else (f_test_64 (nI 0) x2 x3 0 x2 σ)) = _
    rw [r_in0 x2 (n := 8) (by decide) (by decide), qqx]
    exact br _ _ _ (fun y => f_test_180 (nI 0) x2 x3 0 x2 y 1 σ) rfl rfl
  · refine ⟨b2 (sutB 1 x2 x3), 1, ?_, (and_01 _).2⟩
    show (f_in x2 0 7).bind (fun v2 => if v2 = (0:Int32) then (f_test_115 (nI 1) x2 x3 0 x2 σ) else (f_test_64 (nI 1) x2 x3 0 x2 σ)) = _
    rw [r_in0 x2 (n := 8) (by decide) (by decide), qqx]
    exact br _ _ _ (fun y => f_test_180 (nI 1) x2 x3 0 x2 y 1 σ) rfl rfl
  · refine ⟨b2 (sutB 2 x2 x3), 1, ?_, (and_01 _).2⟩
    show (f_in x2 0 3).bind (fun v1 => if v1 = (0:Int32) then (f_test_115 (nI 2) x2 x3 0 x2 σ) else (f_test_85 (nI 2) x2 x3 0 x2 σ)) = _
    rw [r_in0 x2 (n := 4) (by decide) (by decide), qqx]
    exact br _ _ _ (fun y => f_test_180 (nI 2) x2 x3 0 x2 y 1 σ) rfl rfl
  · refine ⟨b2 (sutB 3 x2 x3), 1, ?_, (and_01 _).2⟩
    show (f_in x2 0 1).bind (fun v1 => if v1 = (0:Int32) then (f_test_115 (nI 3) x2 x3 0 x2 σ) else ((f_in x3 0 9).bind (fun v2 => if v2 = (0:Int32) then (f_test_115 (nI 3) x2 x3 0 x2 σ) else (f_test_111 (nI 3) x2 x3 0 x2 σ)))) = f_test_180 (nI 3) x2 x3 0 x2 (b2 (decide (0 ≤ x2 ∧ x2 < nI 2) && decide (0 ≤ x3 ∧ x3 < nI 10))) 1 σ
    rw [r_in0 x2 (n := 2) (by decide) (by decide), qqx, b2_i0]
    cases decide (0 ≤ x2 ∧ x2 < nI 2) with
    | false => rw [if_neg (by decide), Bool.false_and]; rfl
    | true =>
      rw [if_pos rfl, r_in0 x3 (n := 10) (by decide) (by decide), qqx, Bool.true_and]
      exact br _ _ _ (fun y => f_test_180 (nI 3) x2 x3 0 x2 y 1 σ) rfl rfl
  · refine ⟨b2 (sutB 4 x2 x3), 1, ?_, (and_01 _).2⟩
    show (f_in x2 (-9) 9).bind (fun v1 => if v1 = (0:Int32) then (f_test_153 (nI 4) x2 x3 0 x2 1 σ) else ((f_in x3 (-9) 9).bind (fun v2 => if v2 = (0:Int32) then (f_test_153 (nI 4) x2 x3 0 x2 1 σ) else (f_test_149 (nI 4) x2 x3 0 x2 1 σ)))) = f_test_180 (nI 4) x2 x3 0 x2 (b2 (decide (-9 ≤ x2 ∧ x2 ≤ 9) && decide (-9 ≤ x3 ∧ x3 ≤ 9))) 1 σ
    rw [r_in, qqx, b2_i0]
    cases decide (-9 ≤ x2 ∧ x2 ≤ 9) with
    | false => rw [if_neg (by decide), Bool.false_and]; rfl
    | true =>
      rw [if_pos rfl, r_in, qqx, Bool.true_and]
      exact br _ _ _ (fun y => f_test_180 (nI 4) x2 x3 0 x2 y 1 σ) rfl rfl
  · exact ⟨1, 1, rfl, rfl⟩
  · exact ⟨1, 1, rfl, rfl⟩
  · refine ⟨1, b2 (sutB 7 x2 x3), ?_, (and_01 _).1⟩
    show (f_in x2 0 3).bind (fun v1 => if v1 = (0:Int32) then (f_test_180 (nI 7) x2 x3 1 x3 (1 &&& 1) 0 σ) else (f_test_175 (nI 7) x2 x3 1 x3 (1 &&& 1) σ)) = _
    rw [r_in0 x2 (n := 4) (by decide) (by decide), qqx]
    exact br _ _ _ (fun y => f_test_180 (nI 7) x2 x3 1 x3 1 y σ) rfl rfl
  · exact ⟨1, 1, rfl, rfl⟩
  · refine ⟨b2 (sutB 9 x2 x3), 1, ?_, (and_01 _).2⟩
    show (f_in x2 0 3).bind (fun v1 => if v1 = (0:Int32) then (f_test_115 (nI 9) x2 x3 0 x2 σ) else (f_test_85 (nI 9) x2 x3 0 x2 σ)) = _
    rw [r_in0 x2 (n := 4) (by decide) (by decide), qqx]
    exact br _ _ _ (fun y => f_test_180 (nI 9) x2 x3 0 x2 y 1 σ) rfl rfl
theorem r_testN {x1 : Int32} (hx : ¬ (0 ≤ x1 ∧ x1 < nI 10)) (x2 x3 : Int32) (σ : mS) : f_test x1 x2 x3 σ = f_test_180 x1 x2 x3 0 x2 0 1 σ := by
  have n : ∀ q, q < 10 → ¬ x1 = nI q := fun q hq => x10_ne hx hq
  have n4 : ¬ x1 = 4 := n 4 (by decide)
  have n5 : ¬ x1 = 5 := n 5 (by decide)
  have n6 : ¬ x1 = 6 := n 6 (by decide)
  have n7 : ¬ x1 = 7 := n 7 (by decide)
  unfold f_test f_test_22
  rw [if_neg n5, if_neg n6, if_neg n7, if_neg n7]
  unfold f_test_35
  rw [r_in0 x1 (n := 10) (by decide) (by decide), qqx, if_df hx]
  unfold f_test_115 f_test_116 f_test_149 f_test_154 f_test_175
  rw [if_neg n4, if_neg n7]
  rfl
theorem r_t252 {m : Nat} (hm1 : 1 ≤ m) (hm4 : m ≤ 4) (h14 : σ.1 14 30 = nI m) {c : Nat} (hc : c ≤ 4) (h16 : σ.1 16 (120 + (m - 1)) = nI c) (x1 x2 x3 x6 x7 y0 : Int32) : f_test_252 x1 x2 x3 x6 x7 y0 σ = f_test_300 x1 x2 x3 x6 x7 y0 (nI (120 + (m - 1))) (b2 (decide (c = 4) || (decide (0 ≤ σ.1 21 30) && decide (x1 = 9)))) σ := by
  have e : (120 : Int32) + nI m - 1 = nI (120 + (m - 1)) := by
    rw [show (120 : Int32) = nI 120 from rfl, nI_add, show (1 : Int32) = nI 1 from rfl, pk_sub (by omega)]
    congr 1; omega
  unfold f_test_252 f_test_295 f_test_299
  rw [show rd σ 14 (30 : Int32) = some (nI m) by rw [show (30 : Int32) = nI 30 from rfl, rd_14 (by decide), h14], qqx, e, rd_16 (by omega), qqx, h16]
  by_cases c4 : c = 4
  · rw [if_pos (show nI c = 4 by rw [c4]; rfl), decide_eq_true c4, Bool.true_or]; rfl
  · rw [if_neg (show ¬ nI c = 4 from fun z => c4 ((nI_eqE (b := 4) (by omega) (by decide)).mp z)), decide_eq_false c4, Bool.false_or, show rd σ 21 (30 : Int32) = some (σ.1 21 30) by rw [show (30 : Int32) = nI 30 from rfl, rd_21 (by decide)], qqx]
    by_cases z : σ.1 21 30 < 0
    · rw [if_pos z, decide_eq_false (Int32.not_le.mpr z), Bool.false_and]; rfl
    · rw [if_neg z, decide_eq_true (Int32.not_lt.mp z), Bool.true_and]
      by_cases y : x1 = 9
      · rw [if_pos y, decide_eq_true y]; rfl
      · rw [if_neg y, decide_eq_false y]; rfl
end TS5
