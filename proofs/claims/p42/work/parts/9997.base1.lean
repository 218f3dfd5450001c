/-! MATHS, 123: the reference after its constructor; the start -/
theorem upx (τ : mS) (g k : Nat) (v : Int32) (f i : Nat) : (up τ g k v).1 f i = if f = g ∧ i = k then v else τ.1 f i := by
  by_cases c : f = g
  · subst c
    rw [up_s]
    by_cases d : i = k
    · rw [if_pos d, if_pos ⟨rfl, d⟩]
    · rw [if_neg d, if_neg (fun z => d z.2)]
  · rw [up_o c, if_neg (fun z => c z.1)]
theorem r_i675 : ∀ d m k τ, k + d = 4 → d < m → ∃ τ', f_init_675 m (nI k) τ = (f_draft (sf (sf τ' 13 1) 50 1000)).bind (fun v1 => some v1) ∧ τ'.2 = τ.2 ∧ ∀ f i, τ'.1 f i = if f = 60 ∧ k ≤ i ∧ i < 4 then 10 else if f = 61 ∧ k ≤ i ∧ i < 4 then 1 else τ.1 f i := by
  intro d
  induction d with
  | zero =>
    intro m k τ hk hm
    obtain ⟨m, rfl⟩ : ∃ m', m = m' + 1 := ⟨m - 1, by omega⟩
    have hk : k = 4 := by omega
    subst hk
    refine ⟨τ, ?_, rfl, fun f i => by rw [if_neg (by omega), if_neg (by omega)]⟩
    rw [f_init_675, if_pos (by decide)]
  | succ d ih =>
    intro m k τ hk hm
    obtain ⟨m, rfl⟩ : ∃ m', m = m' + 1 := ⟨m - 1, by omega⟩
    obtain ⟨τ', e, s2, c⟩ := ih m (k + 1) (up (up τ 60 k 10) 61 k 1) (by omega) (by omega)
    refine ⟨τ', ?_, s2, fun f i => ?_⟩
    · rw [f_init_675, if_neg (show ¬ (4 : Int32) ≤ nI k from nI_ge (b := 4) (by omega) (by decide)), wr_60 (by omega), qqx, wr_61 (by omega), qqx, nI_1, e]
    · rw [c, upx, upx]
      by_cases h0 : f = 60
      · subst h0
        by_cases h1 : i = k
        · rw [if_neg (by omega), if_neg (by omega), if_neg (by omega), if_pos ⟨rfl, h1⟩, if_pos (by omega)]
        · by_cases h2 : k ≤ i ∧ i < 4
          · rw [if_pos (by omega), if_pos (by omega)]
          · rw [if_neg (by omega), if_neg (by omega), if_neg (by omega), if_neg (by omega), if_neg (by omega), if_neg (by omega)]
      · by_cases h3 : f = 61
        · subst h3
          by_cases h1 : i = k
          · rw [if_neg (by omega), if_neg (by omega), if_pos ⟨rfl, h1⟩, if_neg (by omega), if_pos (by omega)]
          · by_cases h2 : k ≤ i ∧ i < 4
            · rw [if_neg (by omega), if_pos (by omega), if_neg (by omega), if_pos (by omega)]
            · rw [if_neg (by omega), if_neg (by omega), if_neg (by omega), if_neg (by omega), if_neg (by omega), if_neg (by omega)]
        · rw [if_neg (by omega), if_neg (by omega), if_neg (by omega), if_neg (by omega), if_neg (by omega), if_neg (by omega)]
theorem r_i653 : ∀ d m k τ, k + d = 150 → d < m → ∃ τ', f_init_653 m (nI k) τ = f_init_675 4000 0 τ' ∧ τ'.2 = τ.2 ∧ ∀ f i, τ'.1 f i = if f = 55 ∧ k ≤ i ∧ i < 150 then -1 else τ.1 f i := by
  intro d
  induction d with
  | zero =>
    intro m k τ hk hm
    obtain ⟨m, rfl⟩ : ∃ m', m = m' + 1 := ⟨m - 1, by omega⟩
    have hk : k = 150 := by omega
    subst hk
    refine ⟨τ, ?_, rfl, fun f i => by rw [if_neg (by omega)]⟩
    rw [f_init_653, if_pos (by decide)]
  | succ d ih =>
    intro m k τ hk hm
    obtain ⟨m, rfl⟩ : ∃ m', m = m' + 1 := ⟨m - 1, by omega⟩
    obtain ⟨τ', e, s2, c⟩ := ih m (k + 1) (up τ 55 k (-1)) (by omega) (by omega)
    refine ⟨τ', ?_, s2, fun f i => ?_⟩
    · rw [f_init_653, if_neg (show ¬ (150 : Int32) ≤ nI k from nI_ge (b := 150) (by omega) (by decide)), wr_55 (by omega), qqx, nI_1, e]
    · rw [c, upx]
      by_cases h1 : f = 55 ∧ i = k
      · rw [if_neg (by omega), if_pos h1, if_pos (by omega)]
      · by_cases h2 : f = 55 ∧ k ≤ i ∧ i < 150
        · rw [if_pos (by omega), if_pos h2]
        · rw [if_neg (by omega), if_neg h1, if_neg h2]
theorem r_i631 : ∀ d m k τ, k + d = 1120 → d < m → ∃ τ', f_init_631 m (nI k) τ = f_init_653 4000 0 τ' ∧ τ'.2 = τ.2 ∧ ∀ f i, τ'.1 f i = if f = 37 ∧ k ≤ i ∧ i < 1120 then -1 else τ.1 f i := by
  intro d
  induction d with
  | zero =>
    intro m k τ hk hm
    obtain ⟨m, rfl⟩ : ∃ m', m = m' + 1 := ⟨m - 1, by omega⟩
    have hk : k = 1120 := by omega
    subst hk
    refine ⟨τ, ?_, rfl, fun f i => by rw [if_neg (by omega)]⟩
    rw [f_init_631, if_pos (by decide)]
  | succ d ih =>
    intro m k τ hk hm
    obtain ⟨m, rfl⟩ : ∃ m', m = m' + 1 := ⟨m - 1, by omega⟩
    obtain ⟨τ', e, s2, c⟩ := ih m (k + 1) (up τ 37 k (-1)) (by omega) (by omega)
    refine ⟨τ', ?_, s2, fun f i => ?_⟩
    · rw [f_init_631, if_neg (show ¬ (1120 : Int32) ≤ nI k from nI_ge (b := 1120) (by omega) (by decide)), wr_37 (by omega), qqx, nI_1, e]
    · rw [c, upx]
      by_cases h1 : f = 37 ∧ i = k
      · rw [if_neg (by omega), if_pos h1, if_pos (by omega)]
      · by_cases h2 : f = 37 ∧ k ≤ i ∧ i < 1120
        · rw [if_pos (by omega), if_pos h2]
        · rw [if_neg (by omega), if_neg h1, if_neg h2]
def f6L (f : Nat) : Prop := f = 3 ∨ f = 4 ∨ f = 5 ∨ f = 6 ∨ f = 7 ∨ f = 59
theorem r_i575 : ∀ d m k τ, k + d = 30 → d < m → ∃ τ', f_init_575 m (nI k) τ = f_init_631 4000 0 τ' ∧ τ'.2 = τ.2 ∧ (∀ f i, f6L f → k ≤ i → i < 30 → τ'.1 f i = -1) ∧ ∀ f i, ¬ (f6L f ∧ k ≤ i ∧ i < 30) → τ'.1 f i = τ.1 f i := by
  intro d
  induction d with
  | zero =>
    intro m k τ hk hm
    obtain ⟨m, rfl⟩ : ∃ m', m = m' + 1 := ⟨m - 1, by omega⟩
    have hk : k = 30 := by omega
    subst hk
    refine ⟨τ, ?_, rfl, fun f i _ h1 h2 => by omega, fun f i _ => rfl⟩
    rw [f_init_575, if_pos (by decide)]
  | succ d ih =>
    intro m k τ hk hm
    obtain ⟨m, rfl⟩ : ∃ m', m = m' + 1 := ⟨m - 1, by omega⟩
    obtain ⟨τ', e, s2, c1, c2⟩ := ih m (k + 1) (up (up (up (up (up (up τ 3 k (-1)) 4 k (-1)) 5 k (-1)) 6 k (-1)) 7 k (-1)) 59 k (-1)) (by omega) (by omega)
    have o : ∀ f i, ¬ (f6L f ∧ i = k) → (up (up (up (up (up (up τ 3 k (-1)) 4 k (-1)) 5 k (-1)) 6 k (-1)) 7 k (-1)) 59 k (-1)).1 f i = τ.1 f i := fun f i h => by
      unfold f6L at h
      rw [upx, upx, upx, upx, upx, upx, if_neg (by omega), if_neg (by omega), if_neg (by omega), if_neg (by omega), if_neg (by omega), if_neg (by omega)]
    have s : ∀ f, f6L f → (up (up (up (up (up (up τ 3 k (-1)) 4 k (-1)) 5 k (-1)) 6 k (-1)) 7 k (-1)) 59 k (-1)).1 f k = -1 := fun f h => by
      unfold f6L at h
      rw [upx, upx, upx, upx, upx, upx]
      rcases h with rfl | rfl | rfl | rfl | rfl | rfl <;> simp
    refine ⟨τ', ?_, s2, fun f i hf h1 h2 => ?_, fun f i h => ?_⟩
    · rw [f_init_575, if_neg (show ¬ (30 : Int32) ≤ nI k from nI_ge (b := 30) (by omega) (by decide)), wr_3 (by omega), qqx, wr_4 (by omega), qqx, wr_5 (by omega), qqx, wr_6 (by omega), qqx, wr_7 (by omega), qqx, wr_59 (by omega), qqx, nI_1, e]
    · by_cases h3 : i = k
      · rw [c2 f i (fun z => by omega), h3, s f hf]
      · exact c1 f i hf (by omega) h2
    · rw [c2 f i (fun z => h ⟨z.1, by omega, z.2.2⟩), o f i (fun z => h ⟨z.1, by omega, by omega⟩)]
/-- what the reference's constructor leaves -/
theorem r_X12 : ∃ σ, f_X12_init = some σ ∧ (∀ f i, f6L f → i < 30 → σ.1 f i = -1) ∧ (∀ i, i < 1120 → σ.1 37 i = -1) ∧ (∀ i, i < 150 → σ.1 55 i = -1) ∧ (∀ i, i < 4 → σ.1 60 i = 10 ∧ σ.1 61 i = 1) ∧ (σ.1 14 30 = 1 ∧ (∀ j, j < 4 → σ.1 16 (120 + j) = 0) ∧ σ.1 21 30 = -1 ∧ σ.1 22 30 = 0) ∧ (∀ f i, ¬ f6L f → f ≠ 37 → f ≠ 55 → f ≠ 60 → f ≠ 61 → f ≠ 14 → f ≠ 16 → f ≠ 21 → f ≠ 22 → σ.1 f i = 0) ∧ σ.2 13 = 1 ∧ σ.2 50 = 1000 ∧ ∀ f, f ≠ 13 → f ≠ 50 → σ.2 f = 0 := by
  obtain ⟨τ1, e1, p1, a1, b1⟩ := r_i575 30 4000 0 mZero (by omega) (by omega)
  obtain ⟨τ2, e2, p2, a2⟩ := r_i631 1120 4000 0 τ1 (by omega) (by omega)
  obtain ⟨τ3, e3, p3, a3⟩ := r_i653 150 4000 0 τ2 (by omega) (by omega)
  obtain ⟨τ4, e4, p4, a4⟩ := r_i675 4 4000 0 τ3 (by omega) (by omega)
  obtain ⟨σ, e5, sb, d1, d2, d3, d4, d5⟩ := r_draft (sf (sf τ4 13 1) 50 1000)
  have all : ∀ f i, f ≠ 14 → f ≠ 16 → f ≠ 21 → f ≠ 22 → σ.1 f i = τ4.1 f i := fun f i h1 h2 h3 h4 => by
    rw [sb.1 f (by simp [h1, h2, h3, h4])]; rfl
  have z2 : τ4.2 = fun _ => 0 := by rw [p4, p3, p2, p1]; rfl
  refine ⟨σ, ?_, fun f i hf hi => ?_, fun i hi => ?_, fun i hi => ?_, fun i hi => ⟨?_, ?_⟩, ⟨d1.1, d2, d4.1, d4.2⟩, fun f i h0 h1 h2 h3 h4 h5 h6 h7 h8 => ?_, ?_, ?_, fun f h1 h2 => ?_⟩
  · unfold f_X12_init f_init_at
    have e1' : f_init_575 4000 0 mZero = f_init_631 4000 0 τ1 := e1
    have e2' : f_init_631 4000 0 τ1 = f_init_653 4000 0 τ2 := e2
    have e3' : f_init_653 4000 0 τ2 = f_init_675 4000 0 τ3 := e3
    have e4' : f_init_675 4000 0 τ3 = (f_draft (sf (sf τ4 13 1) 50 1000)).bind (fun v1 => some v1) := e4
    rw [e1', e2', e3', e4', e5, qqx]
  · have hf' := hf
    unfold f6L at hf
    rw [all f i (by omega) (by omega) (by omega) (by omega), a4, if_neg (by omega), if_neg (by omega), a3, if_neg (by omega), a2, if_neg (by omega)]
    exact a1 f i hf' (by omega) hi
  · rw [all 37 i (by decide) (by decide) (by decide) (by decide), a4, if_neg (by omega), if_neg (by omega), a3, if_neg (by omega), a2, if_pos (by omega)]
  · rw [all 55 i (by decide) (by decide) (by decide) (by decide), a4, if_neg (by omega), if_neg (by omega), a3, if_pos (by omega)]
  · rw [all 60 i (by decide) (by decide) (by decide) (by decide), a4, if_pos (by omega)]
  · rw [all 61 i (by decide) (by decide) (by decide) (by decide), a4, if_neg (by omega), if_pos (by omega)]
  · rw [all f i h5 h6 h7 h8, a4, if_neg (by omega), if_neg (by omega), a3, if_neg (by omega), a2, if_neg (by omega), b1 f i (fun z => h0 z.1)]; rfl
  · rw [sb.2 13 (by simp), sf_o (by decide), sf_s]
  · rw [sb.2 50 (by simp), sf_s]
  · rw [sb.2 f (by simp), sf_o h2, sf_o h1, z2]
