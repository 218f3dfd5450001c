section SL2
variable {σ σ' τ : mS} {n b i a j : Nat}
theorem r_se76 (hn : n < 30) : ∀ d m k τ, k + d = 4 → d < m → ∃ τ', f_select_76 m (nI n) (nI k) τ = f_select_127 4000 (nI n) 0 τ' ∧ sB [15, 16] [] τ τ' ∧ (∀ j, k ≤ j → j < 4 → τ'.1 15 (4 * n + j) = τ.1 15 (120 + j) ∧ τ'.1 16 (4 * n + j) = τ.1 16 (120 + j)) ∧ ∀ i, ¬ (4 * n + k ≤ i ∧ i < 4 * n + 4) → τ'.1 15 i = τ.1 15 i ∧ τ'.1 16 i = τ.1 16 i := by
  intro d
  induction d with
  | zero =>
    intro m k τ hk hm
    obtain ⟨m, rfl⟩ : ∃ m', m = m' + 1 := ⟨m - 1, by omega⟩
    have hk : k = 4 := by omega
    subst hk
    refine ⟨τ, ?_, sB.rf _, fun j h1 h2 => by omega, fun _ _ => ⟨rfl, rfl⟩⟩
    rw [f_select_76, if_pos (by decide)]
  | succ d ih =>
    intro m k τ hk hm
    obtain ⟨m, rfl⟩ : ∃ m', m = m' + 1 := ⟨m - 1, by omega⟩
    obtain ⟨τ', e, sb, c1, c2⟩ := ih m (k + 1) (up (up τ 15 (4 * n + k) (τ.1 15 (120 + k))) 16 (4 * n + k) (τ.1 16 (120 + k))) (by omega) (by omega)
    refine ⟨τ', ?_, (((sB.rf _).up (by simp)).up (by simp)).tr sb, fun j h1 h2 => ?_, fun i hi => ?_⟩
    · rw [f_select_76, if_neg (show ¬ (4 : Int32) ≤ nI k from nI_ge (b := 4) (by omega) (by decide)), show (120 : Int32) = nI 120 from rfl, show (4 : Int32) = nI 4 from rfl, pk_mul, nI_add, nI_add, rd_15 (by omega), qqx, wr_15 (by omega), qqx, rd_16 (by omega), qqx, wr_16 (by omega), qqx, nI_1, up_o (by decide), e]
    · by_cases z : j = k
      · subst z
        obtain ⟨y1, y2⟩ := c2 (4 * n + j) (by omega)
        rw [y1, y2, up_o (by decide), up_ss, up_ss]
        exact ⟨rfl, rfl⟩
      · obtain ⟨y1, y2⟩ := c1 j (by omega) h2
        rw [y1, y2, up_o (by decide), up_sn (by omega), up_sn (by omega), up_o (by decide)]
        exact ⟨rfl, rfl⟩
    · obtain ⟨y1, y2⟩ := c2 i (by omega)
      rw [y1, y2, up_o (by decide), up_sn (by omega), up_sn (by omega), up_o (by decide)]
      exact ⟨rfl, rfl⟩
theorem dv4 : ∀ j, j < 16 → dv (nI j) 4 = some (nI (j / 4)) ∧ rm (nI j) 4 = some (nI (j % 4)) := by decide +kernel
def seQ (τ0 τ : mS) (n j : Nat) : Prop := sB [17, 18, 19, 20] [] τ0 τ ∧ (∀ q, q < j → τ.1 17 (16 * n + q) = τ0.1 17 (480 + q) ∧ τ.1 18 (16 * n + q) = τ0.1 18 (480 + q) ∧ τ.1 19 (16 * n + q) = τ0.1 19 (480 + q)) ∧ (∀ i, ¬ (16 * n ≤ i ∧ i < 16 * n + j) → τ.1 17 i = τ0.1 17 i ∧ τ.1 18 i = τ0.1 18 i ∧ τ.1 19 i = τ0.1 19 i) ∧ τ.1 20 n = wSm τ0 30 j ∧ ∀ a, a ≠ n → τ.1 20 a = τ0.1 20 a
theorem r_se127 {τ0 : mS} (hn : n < 30) (r : RSl τ0 30 n) (e14 : τ0.1 14 n = τ0.1 14 30) (e16 : ∀ k, k < 4 → τ0.1 16 (4 * n + k) = τ0.1 16 (120 + k)) : ∀ d m j τ, j + d = 16 → d < m → seQ τ0 τ n j → ∃ τ', seQ τ0 τ' n 16 ∧ f_select_127 m (nI n) (nI j) τ = (f_study (nI n) (sf τ' 26 (τ'.2 26 + 1))).bind (fun v1 => (f_draft v1).bind (fun v2 => some (nI n, v2))) := by
  have hr := r.n
  intro d
  induction d with
  | zero =>
    intro m j τ hj hm q
    obtain ⟨m, rfl⟩ : ∃ m', m = m' + 1 := ⟨m - 1, by omega⟩
    have hj : j = 16 := by omega
    subst hj
    refine ⟨τ, q, ?_⟩
    rw [f_select_127, if_pos (by decide)]
  | succ d ih =>
    intro m j τ hj hm q
    obtain ⟨m, rfl⟩ : ∃ m', m = m' + 1 := ⟨m - 1, by omega⟩
    obtain ⟨q1, q2, q3, q4, q5⟩ := q
    have hj16 : j < 16 := by omega
    have d1 : j / 4 < 4 := by omega
    obtain ⟨v1, v2⟩ := dv4 j hj16
    obtain ⟨x1, x2, x3⟩ := q3 (480 + j) (by omega)
    obtain ⟨s8, hs8⟩ : ∃ s8, s8 = up (up (up τ 17 (16 * n + j) (τ.1 17 (480 + j))) 18 (16 * n + j) (τ.1 18 (480 + j))) 19 (16 * n + j) (τ.1 19 (480 + j)) := ⟨_, rfl⟩
    have o8 : ∀ f, f ≠ 17 → f ≠ 18 → f ≠ 19 → s8.1 f = τ.1 f := fun f h1 h2 h3 => by rw [hs8, up_o h3, up_o h2, up_o h1]
    have a8 : s8.1 17 (16 * n + j) = τ0.1 17 (480 + j) ∧ s8.1 18 (16 * n + j) = τ0.1 18 (480 + j) ∧ s8.1 19 (16 * n + j) = τ0.1 19 (480 + j) := by
      rw [hs8]
      refine ⟨?_, ?_, ?_⟩
      · rw [up_o (by decide), up_o (by decide), up_ss, x1]
      · rw [up_o (by decide), up_ss, x2]
      · rw [up_ss, x3]
    have b8 : ∀ i, i ≠ 16 * n + j → s8.1 17 i = τ.1 17 i ∧ s8.1 18 i = τ.1 18 i ∧ s8.1 19 i = τ.1 19 i := fun i hi => by
      rw [hs8]
      refine ⟨?_, ?_, ?_⟩
      · rw [up_o (by decide), up_o (by decide), up_sn hi]
      · rw [up_o (by decide), up_sn hi, up_o (by decide)]
      · rw [up_sn hi, up_o (by decide), up_o (by decide)]
    have sb8 : sB [17, 18, 19, 20] [] τ s8 := by rw [hs8]; exact (((sB.rf _).up (by simp)).up (by simp)).up (by simp)
    have run : f_select_127 (m + 1) (nI n) (nI j) τ = f_select_127 m (nI n) (nI (j + 1)) (up s8 20 n (τ.1 20 n + (if j / 4 < nC τ0 30 ∧ j % 4 < nTt τ0 30 (j / 4) then tWt τ0 (480 + j) else 0))) := by
      have e1 : (up (up τ 17 (16 * n + j) (τ.1 17 (480 + j))) 18 (16 * n + j) ((up τ 17 (16 * n + j) (τ.1 17 (480 + j))).1 18 (480 + j))) = up (up τ 17 (16 * n + j) (τ.1 17 (480 + j))) 18 (16 * n + j) (τ.1 18 (480 + j)) := by rw [up_o (by decide)]
      rw [f_select_127, if_neg (show ¬ (16 : Int32) ≤ nI j from nI_ge (b := 16) hj16 (by decide)), show (480 : Int32) = nI 480 from rfl, show (16 : Int32) = nI 16 from rfl, pk_mul, nI_add, nI_add, rd_17 (by omega), qqx, wr_17 (by omega), qqx, rd_18 (by omega), qqx, wr_18 (by omega), qqx, e1, rd_19 (by omega), qqx, up_o (by decide), up_o (by decide), wr_19 (by omega), qqx, ← hs8, rd_20 (by omega), qqx, v1, qqx, rd_14 (by omega), qqx, o8 14 (by decide) (by decide) (by decide), q1.1 14 (by decide), e14, hr.2.2, o8 20 (by decide) (by decide) (by decide)]
      unfold f_select_233 f_select_234
      by_cases c1 : j / 4 < nC τ0 30
      · obtain ⟨t1, t2, -, t4⟩ := r.t c1
        have c16 : s8.1 16 (4 * n + j / 4) = nI (nTt τ0 30 (j / 4)) := by rw [o8 16 (by decide) (by decide) (by decide), q1.1 16 (by decide), e16 _ d1]; exact t2
        rw [if_neg (nI_ge c1 (by omega)), v2, qqx, qqx, show (4 : Int32) = nI 4 from rfl, pk_mul, nI_add, rd_16 (by omega), qqx, c16]
        by_cases c2 : j % 4 < nTt τ0 30 (j / 4)
        · have rt := t4 (j % 4) c2
          rw [show 16 * 30 + 4 * (j / 4) + j % 4 = 480 + j by omega] at rt
          have rt8 : RTs s8 n (16 * n + j) := by
            obtain ⟨k, k1, k2, k3, k4, k5, k6, k7⟩ := rt
            have p21 : s8.1 21 = τ0.1 21 := by rw [o8 21 (by decide) (by decide) (by decide), q1.1 21 (by decide)]
            have p22 : s8.1 22 = τ0.1 22 := by rw [o8 22 (by decide) (by decide) (by decide), q1.1 22 (by decide)]
            refine ⟨k, k1, ?_, ?_, ?_, ?_, ?_, ?_⟩
            · rw [a8.1]; exact k2
            · rw [a8.2.1]; exact k3
            · rw [a8.2.1]; exact k4
            · rw [a8.2.1, a8.2.2]; exact k5
            · rw [a8.2.1, p21, p22]; exact k6
            · rw [a8.2.1, a8.2.2, p21, p22]; exact k7
          have wt : tWt s8 (16 * n + j) = tWt τ0 (480 + j) := by
            obtain ⟨w5, w7⟩ := RTs_k rt
            have eA : tA s8 (16 * n + j) = tA τ0 (480 + j) := by unfold tA; rw [a8.2.1]
            have eB : tB s8 (16 * n + j) = tB τ0 (480 + j) := by unfold tB; rw [a8.2.2]
            have e20 : ∀ a, a ≠ n → s8.1 20 a = τ0.1 20 a := fun a ha => by rw [o8 20 (by decide) (by decide) (by decide), q5 a ha]
            unfold tWt
            rw [a8.1, eA, eB]
            by_cases z1 : τ0.1 17 (480 + j) = 0 ∨ τ0.1 17 (480 + j) = 9
            · rw [if_pos z1, if_pos z1]
            · rw [if_neg z1, if_neg z1]
              by_cases z2 : τ0.1 17 (480 + j) = 5 ∨ τ0.1 17 (480 + j) = 6
              · obtain ⟨a, h1, h2⟩ := w5 z2
                have : tA τ0 (480 + j) = a := by unfold tA; rw [h2]; exact nI_clamp (by omega)
                rw [if_pos z2, if_pos z2, this, e20 a (by omega)]
              · rw [if_neg z2, if_neg z2]
                by_cases z3 : τ0.1 17 (480 + j) = 7
                · obtain ⟨-, a, h1, h2⟩ := w7 z3
                  have : tB τ0 (480 + j) = a := by unfold tB; rw [h2]; exact nI_clamp (by omega)
                  rw [if_pos z3, if_pos z3, this, e20 a (by omega)]
                · rw [if_neg z3, if_neg z3]
          rw [if_neg (nI_ge c2 (by omega)), r_weigh (b := n) (by omega) (by omega) rt8, qqx, wr_20 (by omega), qqx, nI_1, wt, if_pos ⟨c1, c2⟩]
        · rw [if_pos ((nI_leE (by omega) (by omega)).mpr (by omega)), wr_20 (by omega), qqx, nI_1, if_neg (fun z => c2 z.2)]
      · rw [if_pos ((nI_leE (by omega) (by omega)).mpr (by omega)), wr_20 (by omega), qqx, nI_1, if_neg (fun z => c1 z.1)]
    rw [run]
    refine ih m (j + 1) _ (by omega) (by omega) ⟨(q1.tr sb8).up (by simp), fun q hq => ?_, fun i hi => ?_, ?_, fun a ha => ?_⟩
    · rw [up_o (by decide), up_o (by decide), up_o (by decide)]
      by_cases z : q = j
      · rw [z]; exact a8
      · obtain ⟨y1, y2, y3⟩ := b8 (16 * n + q) (by omega)
        rw [y1, y2, y3]
        exact q2 q (by omega)
    · rw [up_o (by decide), up_o (by decide), up_o (by decide)]
      obtain ⟨y1, y2, y3⟩ := b8 i (by omega)
      rw [y1, y2, y3]
      exact q3 i (by omega)
    · rw [up_ss, q4]
      rfl
    · rw [up_sn ha, o8 20 (by decide) (by decide) (by decide), q5 a ha]
theorem r_dr10 : ∀ d m k τ, k + d = 4 → d < m → ∃ τ', f_draft_10 m (nI k) τ = some τ' ∧ sB [16, 21, 22] [] τ τ' ∧ (∀ j, k ≤ j → j < 4 → τ'.1 16 (120 + j) = 0) ∧ (∀ i, ¬ (120 + k ≤ i ∧ i < 124) → τ'.1 16 i = τ.1 16 i) ∧ (τ'.1 21 30 = -1 ∧ τ'.1 22 30 = 0) ∧ ∀ s, s ≠ 30 → τ'.1 21 s = τ.1 21 s ∧ τ'.1 22 s = τ.1 22 s := by
  intro d
  induction d with
  | zero =>
    intro m k τ hk hm
    obtain ⟨m, rfl⟩ : ∃ m', m = m' + 1 := ⟨m - 1, by omega⟩
    have hk : k = 4 := by omega
    subst hk
    refine ⟨up (up τ 21 30 (-1)) 22 30 0, ?_, ((sB.rf _).up (by simp)).up (by simp), fun j h1 h2 => by omega, fun i _ => ?_, ⟨?_, ?_⟩, fun s hs => ?_⟩
    · rw [f_draft_10, if_pos (by decide), show (30 : Int32) = nI 30 from rfl, wr_21 (by decide), qqx, wr_22 (by decide), qqx]
    · rw [up_o (by decide), up_o (by decide)]
    · rw [up_o (by decide), up_ss]
    · rw [up_ss]
    · rw [up_o (by decide), up_sn hs, up_sn hs, up_o (by decide)]; exact ⟨rfl, rfl⟩
  | succ d ih =>
    intro m k τ hk hm
    obtain ⟨m, rfl⟩ : ∃ m', m = m' + 1 := ⟨m - 1, by omega⟩
    obtain ⟨τ', e, sb, c1, c2, c3, c4⟩ := ih m (k + 1) (up τ 16 (120 + k) 0) (by omega) (by omega)
    refine ⟨τ', ?_, ((sB.rf _).up (by simp)).tr sb, fun j h1 h2 => ?_, fun i hi => ?_, c3, fun s hs => ?_⟩
    · rw [f_draft_10, if_neg (show ¬ (4 : Int32) ≤ nI k from nI_ge (b := 4) (by omega) (by decide)), show (120 : Int32) = nI 120 from rfl, nI_add, wr_16 (by omega), qqx, nI_1, e]
    · by_cases z : j = k
      · rw [z, c2 _ (by omega), up_ss]
      · exact c1 j (by omega) h2
    · rw [c2 i (by omega), up_sn (by omega)]
    · obtain ⟨y1, y2⟩ := c4 s hs
      rw [y1, y2, up_o (by decide), up_o (by decide)]; exact ⟨rfl, rfl⟩
theorem r_draft (τ : mS) : ∃ τ', f_draft τ = some τ' ∧ sB [14, 16, 21, 22] [] τ τ' ∧ (τ'.1 14 30 = 1 ∧ ∀ s, s ≠ 30 → τ'.1 14 s = τ.1 14 s) ∧ (∀ j, j < 4 → τ'.1 16 (120 + j) = 0) ∧ (∀ i, i < 120 → τ'.1 16 i = τ.1 16 i) ∧ (τ'.1 21 30 = -1 ∧ τ'.1 22 30 = 0) ∧ ∀ s, s ≠ 30 → τ'.1 21 s = τ.1 21 s ∧ τ'.1 22 s = τ.1 22 s := by
  obtain ⟨τ', e, sb, c1, c2, c3, c4⟩ := r_dr10 4 4000 0 (up τ 14 30 1) (by omega) (by omega)
  refine ⟨τ', ?_, ((sB.rf _).up (by simp)).tr (sb.wd (fun f hf => by revert f; decide) (fun f hf => hf)), ⟨?_, fun s hs => ?_⟩, fun j hj => c1 j (by omega) hj, fun i hi => ?_, c3, fun s hs => ?_⟩
  · unfold f_draft
    rw [show (30 : Int32) = nI 30 from rfl, wr_14 (by decide), qqx]; exact e
  · rw [sb.1 14 (by decide), up_ss]
  · rw [sb.1 14 (by decide), up_sn hs]
  · rw [c2 i (by omega), up_o (by decide)]
  · obtain ⟨y1, y2⟩ := c4 s hs
    rw [y1, y2, up_o (by decide), up_o (by decide)]; exact ⟨rfl, rfl⟩
end SL2
