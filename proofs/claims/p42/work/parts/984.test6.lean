section TS6
variable {T : qqT} {G : qqG} {L : qqL} {A A' : kA} {ex ex' : Nat → Nat → Prop} {K K' : kS} {S S' : cS} {σ σ' : mS} {v v' n k c nw9 : Nat} {x1 x2 x3 : Int32}
theorem drf (j : J0 T G L ex K σ v) : ∃ k c, k + 1 = nC σ 30 ∧ c = nTt σ 30 k ∧ c ≤ 4 ∧ k < 4 ∧ σ.1 14 30 = nI (k + 1) ∧ σ.1 16 (120 + k) = nI c ∧ drC ex K (Gs G) k c := by
  obtain ⟨⟨d1, d2, -⟩, -⟩ := j.2.2.2.2.2.2.1
  have rn := d2.n
  have hk : nC σ 30 - 1 < nC σ 30 := by omega
  obtain ⟨t1, t2, -⟩ := d2.t hk
  obtain ⟨⟨e1, e2, e3, e4, e5, e6⟩, e7⟩ := d1
  obtain ⟨⟨y1, y2, y3, y4⟩, z1, z2, z3, z4, z5, z6, -⟩ := e7 (nC σ 30 - 1) hk
  have h16 : σ.1 16 (120 + (nC σ 30 - 1)) = nI (nTt σ 30 (nC σ 30 - 1)) := by
    have : 4 * 30 + (nC σ 30 - 1) = 120 + (nC σ 30 - 1) := by omega
    rw [this] at t2; exact t2
  refine ⟨nC σ 30 - 1, nTt σ 30 (nC σ 30 - 1), by omega, rfl, t1, by omega, by rw [show nC σ 30 - 1 + 1 = nC σ 30 by omega]; exact rn.2.2, h16, ⟨e1, y1, y2, y3, y4⟩, by omega, ⟨e3, z4, z5, z6⟩, ?_⟩
  rw [z1]; exact t2
theorem c_feat {q : Nat} (hq : q < 10) (x2 : Int32) : ∃ ft, f_X7_feature (nI q) x2 = some ft ∧ (q = 1 → ft = (1 : Int32) <<< (x2 &&& 31)) ∧ (q = 2 → ft = (1 : Int32) <<< (((8:Int32) + x2) &&& 31)) ∧ (q = 3 → ft = (1 : Int32) <<< (((12:Int32) + x2) &&& 31)) ∧ (q ≠ 1 → q ≠ 2 → q ≠ 3 → ft = 0) := by
  rcases q10 hq with rfl | rfl | rfl | rfl | rfl | rfl | rfl | rfl | rfl | rfl
  all_goals refine ⟨_, rfl, ?_, ?_, ?_, ?_⟩
  all_goals first
    | exact fun _ => rfl
    | exact fun z => absurd z (by decide)
    | exact fun z1 z2 z3 => absurd rfl (by first | exact z1 | exact z2 | exact z3)
    | exact fun _ _ _ => rfl
theorem b_256 {a : Nat} (ha : a < 4) {i : Nat} (hi : i < 32) : bt ((256 : Int32) <<< (nI a &&& 31)) i = decide (i = 8 + a) := by
  rw [b_shl a (by omega) _ hi, show (256 : Int32) = (1 : Int32) <<< (nI 8 &&& 31) by decide]
  by_cases h : a ≤ i
  · rw [decide_eq_true h, Bool.true_and, b_one (by decide) (by omega)]
    exact decide_eq_decide.mpr (by omega)
  · rw [decide_eq_false h, Bool.false_and, decide_eq_false (by omega)]
theorem b_4096 {a : Nat} (ha : a < 2) {i : Nat} (hi : i < 32) : bt ((4096 : Int32) <<< (nI a &&& 31)) i = decide (i = 12 + a) := by
  rw [b_shl a (by omega) _ hi, show (4096 : Int32) = (1 : Int32) <<< (nI 12 &&& 31) by decide]
  by_cases h : a ≤ i
  · rw [decide_eq_true h, Bool.true_and, b_one (by decide) (by omega)]
    exact decide_eq_decide.mpr (by omega)
  · rw [decide_eq_false h, Bool.false_and, decide_eq_false (by omega)]
theorem b_16384 {i : Nat} (hi : i < 32) : bt (16384 : Int32) i = decide (i = 14) := by
  rw [show (16384 : Int32) = (1 : Int32) <<< (nI 14 &&& 31) by decide, b_one (by decide) hi]
theorem b_32768 {i : Nat} (hi : i < 32) : bt (32768 : Int32) i = decide (i = 15) := by
  rw [show (32768 : Int32) = (1 : Int32) <<< (nI 15 &&& 31) by decide, b_one (by decide) hi]
theorem r_t336 {c : Nat} (hk : k < 4) (hc : c < 4) (h16 : σ.1 16 (120 + k) = nI c) (x1 x2 x3 : Int32) : ∃ σ', f_test_336 x1 x2 x3 (nI (120 + k)) 0 σ = some (nI (c + 1), σ') ∧ tsS (sf σ 81 0) σ' k c x1 x2 x3 ∧ σ'.1 21 30 = (if x1 = 9 then x2 else σ.1 21 30) ∧ σ'.1 22 30 = (if x1 = 8 then 1 else σ.1 22 30) := by
  have e4 : (4 : Int32) * nI (120 + k) + nI c = nI (480 + 4 * k + c) := by
    rw [show (4 : Int32) = nI 4 from rfl, pk_mul, nI_add]
    congr 1; omega
  have hi : 480 + 4 * k + c < 496 := by omega
  refine ⟨up (up (up (up (up (up (sf σ 81 0) 17 (480 + 4 * k + c) x1) 18 (480 + 4 * k + c) x2) 19 (480 + 4 * k + c) x3) 21 30 (if x1 = 9 then x2 else σ.1 21 30)) 22 30 (if x1 = 8 then 1 else σ.1 22 30)) 16 (120 + k) (nI (c + 1)), ?_, ⟨?_, ⟨?_, fun i hi => ?_⟩, ⟨?_, ?_, ?_⟩, fun i hi => ?_, fun s hs => ?_⟩, ?_, ?_⟩
  · have h16' : (sf σ 81 0).1 16 (120 + k) = nI c := h16
    have fin : ∀ y z : Int32, f_test_429 (nI (120 + k)) 30 z (up (up (up (up (sf σ 81 0) 17 (480 + 4 * k + c) x1) 18 (480 + 4 * k + c) x2) 19 (480 + 4 * k + c) x3) 21 30 y) = some (nI (c + 1), up (up (up (up (up (up (sf σ 81 0) 17 (480 + 4 * k + c) x1) 18 (480 + 4 * k + c) x2) 19 (480 + 4 * k + c) x3) 21 30 y) 22 30 z) 16 (120 + k) (nI (c + 1))) := by
      intro y z
      unfold f_test_429
      rw [show (30 : Int32) = nI 30 from rfl, wr_22 (by decide), qqx, rd_16 (by omega), qqx, up_o (by decide), up_o (by decide), up_o (by decide), up_o (by decide), up_o (by decide), h16', nI_1, wr_16 (by omega), qqx, rd_16 (by omega), qqx, up_s, if_pos rfl]
    have mid : ∀ y : Int32, f_test_405 x1 (nI (120 + k)) 30 y (up (up (up (sf σ 81 0) 17 (480 + 4 * k + c) x1) 18 (480 + 4 * k + c) x2) 19 (480 + 4 * k + c) x3) = some (nI (c + 1), up (up (up (up (up (up (sf σ 81 0) 17 (480 + 4 * k + c) x1) 18 (480 + 4 * k + c) x2) 19 (480 + 4 * k + c) x3) 21 30 y) 22 30 (if x1 = 8 then 1 else σ.1 22 30)) 16 (120 + k) (nI (c + 1))) := by
      intro y
      unfold f_test_405
      rw [show (30 : Int32) = nI 30 from rfl, wr_21 (by decide), qqx]
      by_cases c8 : x1 = 8
      · rw [if_pos c8, if_pos c8]; exact fin y 1
      · rw [if_neg c8, if_neg c8, rd_22 (by decide), qqx, up_o (by decide), up_o (by decide), up_o (by decide), up_o (by decide)]; exact fin y _
    unfold f_test_336
    rw [r_holds0, qqx, if_pos rfl, rd_16 (by omega), qqx, h16', e4, wr_17 hi, qqx, wr_18 hi, qqx, wr_19 hi, qqx]
    by_cases c9 : x1 = 9
    · rw [if_pos c9, if_pos c9]; exact mid x2
    · rw [if_neg c9, if_neg c9, show (30 : Int32) = nI 30 from rfl, rd_21 (by decide), qqx, up_o (by decide), up_o (by decide), up_o (by decide)]; exact mid _
  · exact ((((((sB.rf _).up (by simp)).up (by simp)).up (by simp)).up (by simp)).up (by simp)).up (by simp)
  · rw [up_s, if_pos rfl]
  · rw [up_s, if_neg hi, up_o (by decide), up_o (by decide), up_o (by decide), up_o (by decide), up_o (by decide)]
  · rw [up_o (by decide), up_o (by decide), up_o (by decide), up_o (by decide), up_o (by decide), up_s, if_pos rfl]
  · rw [up_o (by decide), up_o (by decide), up_o (by decide), up_o (by decide), up_s, if_pos rfl]
  · rw [up_o (by decide), up_o (by decide), up_o (by decide), up_s, if_pos rfl]
  · refine ⟨?_, ?_, ?_⟩
    · rw [up_o (by decide), up_o (by decide), up_o (by decide), up_o (by decide), up_o (by decide), up_s, if_neg hi]
    · rw [up_o (by decide), up_o (by decide), up_o (by decide), up_o (by decide), up_s, if_neg hi, up_o (by decide)]
    · rw [up_o (by decide), up_o (by decide), up_o (by decide), up_s, if_neg hi, up_o (by decide), up_o (by decide)]
  · refine ⟨?_, ?_⟩
    · rw [up_o (by decide), up_o (by decide), up_s, if_neg hs, up_o (by decide), up_o (by decide), up_o (by decide)]
    · rw [up_o (by decide), up_s, if_neg hs, up_o (by decide), up_o (by decide), up_o (by decide), up_o (by decide)]
  · rw [up_o (by decide), up_o (by decide), up_s, if_pos rfl]
  · rw [up_o (by decide), up_s, if_pos rfl]
end TS6
