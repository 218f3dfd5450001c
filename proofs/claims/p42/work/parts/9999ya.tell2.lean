section TEL2
variable {na : Nat} {n : Nat → Int32} {mm : Nat × Nat × Nat} {hl dr : Bool} {T : qqT} {G : qqG} {V V0 : lwS} {σ σ' τ τ' σ0 : mS} {e p xa : Nat} {f : Nat → Int32}
theorem tI.sp (h : tI σ0 T G na xa mm hl dr f V) (he : e < Tn T) (hk : V.2.1 < 60000) : ∃ V', oC (f_shownParent (nI e)) V = some (qqO (Tsp T e), V') ∧ tI σ0 T G na xa mm hl dr f V' ∧ tF xa V V' ∧ V'.2.1 = V.2.1 + 1 := by
  obtain ⟨e1, l⟩ := a_shownParent hk h.1 he
  obtain ⟨h1, f1⟩ := h.ca l (scE.of (scR_sf _ 0))
  exact ⟨_, e1, h1, f1, rfl⟩
theorem tI.is (h : tI σ0 T G na xa mm hl dr f V) (he : e < Tn T) (hk : V.2.1 < 60000) : ∃ V', oZ (f_isIn (nI e)) V = some (b2 (TD T e), V') ∧ tI σ0 T G na xa mm hl dr f V' ∧ tF xa V V' ∧ V'.2.1 = V.2.1 + 1 := by
  obtain ⟨e1, l⟩ := a_isIn hk h.1 he
  obtain ⟨h1, f1⟩ := h.ca l (scE.of (scR_sf _ 0))
  exact ⟨_, e1, h1, f1, rfl⟩
theorem tI.an {A : Nat → Nat → Int32} (hA : ∀ τ e p, J1 T G τ → coE σ0 τ → (∀ x, x ∈ Tord T → sol T G τ 1 x) → e < Tn T → TD T e = true → p < 15 → TV τ 1 e p = A e p) (h : tI σ0 T G na xa mm hl dr f V) (he : e < Tn T) (hd : TD T e = true) (hp : p < 15) (hk : V.2.1 < 60000) : ∃ V', oC (f_valueAnew (nI e) (nI p)) V = some (A e p, V') ∧ tI σ0 T G na xa mm hl dr f V' ∧ tF xa V V' ∧ V'.2.1 = V.2.1 + 1 := by
  obtain ⟨τ, e1, l, s, so⟩ := a_anew hk h.1 he hd hp
  obtain ⟨h1, f1⟩ := h.ca l s
  rw [hA τ e p l.j1 (h.2.1.sc s) so he hd hp] at e1
  exact ⟨_, e1, h1, f1, rfl⟩
theorem tI.sx (h : tI σ0 T G na xa mm hl dr f V) {i : Nat} (hi : i < 64) (v : Int32) : ∃ V', stA V xa (nI i) v = some V' ∧ tI σ0 T G na xa mm hl dr (upd f i v) V' ∧ tF xa V V' ∧ V'.2.1 = V.2.1 := by
  obtain ⟨s, t, f1⟩ := h.st hi v
  exact ⟨_, s, t, f1, rfl⟩
theorem te_7 (σ0 : mS) (T : qqT) (G : qqG) (na : Nat) {A : Nat → Nat → Int32} (hA : ∀ τ e p, J1 T G τ → coE σ0 τ → (∀ x, x ∈ Tord T → sol T G τ 1 x) → e < Tn T → TD T e = true → p < 15 → TV τ 1 e p = A e p) (hG : Gs G ≤ 8) (hT : Tn T ≤ 12) : ∀ (d i m : Nat) (f : Nat → Int32), i + d = Tn T → d < m → ∃ f', ∀ mm hl dr xa V, tI σ0 T G na xa mm hl dr f V → V.2.1 + 6 * d + 2 * Gs G < 60000 → ∃ V', f_L_tell_7 m na xa (nI i) V = some (xa, V') ∧ tI σ0 T G na xa mm hl dr f' V' ∧ tF xa V V' ∧ V'.2.1 ≤ V.2.1 + 6 * d + 2 * Gs G := by
  intro d
  induction d with
  | zero =>
    intro i m f hi hm
    obtain ⟨m, rfl⟩ : ∃ q, m = q + 1 := ⟨m - 1, by omega⟩
    obtain ⟨f', hf⟩ := te_94 σ0 T G na hG (Gs G) 0 9 f (by omega) (by omega)
    refine ⟨f', fun mm hl dr xa V h hc => ?_⟩
    obtain ⟨V', e1, h1, f1, c1⟩ := hf mm hl dr xa V h (by omega)
    refine ⟨V', ?_, h1, f1, by omega⟩
    rw [f_L_tell_7, h.l0, qqx, if_pos (show nI (Tn T) ≤ nI i from nI_le (by omega) (by omega))]
    exact e1
  | succ d ih =>
    intro i m f hi hm
    obtain ⟨m, rfl⟩ : ∃ q, m = q + 1 := ⟨m - 1, by omega⟩
    have hi' : i < Tn T := by omega
    cases hd : TD T i with
    | false =>
      obtain ⟨f', hf⟩ := ih (i + 1) m (upd (upd (upd f i ((2:Int32) * qqO (Tsp T i) + 0)) (12 + i) 0) (24 + i) 0) (by omega) (by omega)
      refine ⟨f', fun mm hl dr xa V h hc => ?_⟩
      obtain ⟨V1, e1, h1, f1, c1⟩ := h.sp hi' (by omega)
      obtain ⟨V2, e2, h2, f2, c2⟩ := h1.is hi' (by omega)
      obtain ⟨V3, e3, h3, f3, c3⟩ := h2.sx (i := i) (by omega) ((2:Int32) * qqO (Tsp T i) + 0)
      obtain ⟨V4, e4, h4, f4, c4⟩ := h3.is hi' (by omega)
      obtain ⟨V5, e5, h5, f5, c5⟩ := h4.sx (i := 12 + i) (by omega) 0
      obtain ⟨V6, e6, h6, f6, c6⟩ := h5.is hi' (by omega)
      obtain ⟨V7, e7, h7, f7, c7⟩ := h6.sx (i := 24 + i) (by omega) 0
      obtain ⟨V8, e8, h8, f8, c8⟩ := hf mm hl dr xa V7 h7 (by omega)
      refine ⟨V8, ?_, h8, ((((((f1.tr f2).tr f3).tr f4).tr f5).tr f6).tr f7).tr f8, by omega⟩
      rw [hd] at e2 e4 e6
      rw [f_L_tell_7, h.l0, qqx, if_neg (show ¬ nI (Tn T) ≤ nI i from nI_ge (by omega) (by omega)), e1, qqx, e2, qqx, if_pos (show b2 false = 0 from rfl)]
      unfold f_L_tell_36
      rw [e3, qqx, e4, qqx, if_pos (show b2 false = 0 from rfl)]
      unfold f_L_tell_61
      rw [show (12:Int32) = nI 12 from rfl, nI_add, e5, qqx, e6, qqx, if_pos (show b2 false = 0 from rfl)]
      unfold f_L_tell_85
      rw [show (24:Int32) = nI 24 from rfl, nI_add, e7, qqx, nI_1]
      exact e8
    | true =>
      obtain ⟨f', hf⟩ := ih (i + 1) m (upd (upd (upd f i ((2:Int32) * qqO (Tsp T i) + 1)) (12 + i) (A i 1)) (24 + i) (A i 2)) (by omega) (by omega)
      refine ⟨f', fun mm hl dr xa V h hc => ?_⟩
      obtain ⟨V1, e1, h1, f1, c1⟩ := h.sp hi' (by omega)
      obtain ⟨V2, e2, h2, f2, c2⟩ := h1.is hi' (by omega)
      obtain ⟨V3, e3, h3, f3, c3⟩ := h2.sx (i := i) (by omega) ((2:Int32) * qqO (Tsp T i) + 1)
      obtain ⟨V4, e4, h4, f4, c4⟩ := h3.is hi' (by omega)
      obtain ⟨W4, g4, k4, j4, d4⟩ := h4.an hA hi' hd (p := 1) (by decide) (by omega)
      obtain ⟨V5, e5, h5, f5, c5⟩ := k4.sx (i := 12 + i) (by omega) (A i 1)
      obtain ⟨V6, e6, h6, f6, c6⟩ := h5.is hi' (by omega)
      obtain ⟨W6, g6, k6, j6, d6⟩ := h6.an hA hi' hd (p := 2) (by decide) (by omega)
      obtain ⟨V7, e7, h7, f7, c7⟩ := k6.sx (i := 24 + i) (by omega) (A i 2)
      obtain ⟨V8, e8, h8, f8, c8⟩ := hf mm hl dr xa V7 h7 (by omega)
      refine ⟨V8, ?_, h8, ((((((((f1.tr f2).tr f3).tr f4).tr j4).tr f5).tr f6).tr j6).tr f7).tr f8, by omega⟩
      rw [hd] at e2 e4 e6
      have g4 : oC (f_valueAnew (nI i) (1:Int32)) V4 = some (A i 1, W4) := g4
      have g6 : oC (f_valueAnew (nI i) (2:Int32)) V6 = some (A i 2, W6) := g6
      rw [f_L_tell_7, h.l0, qqx, if_neg (show ¬ nI (Tn T) ≤ nI i from nI_ge (by omega) (by omega)), e1, qqx, e2, qqx, if_neg (show ¬ b2 true = 0 by decide)]
      unfold f_L_tell_36
      rw [e3, qqx, e4, qqx, if_neg (show ¬ b2 true = 0 by decide), g4, qqx]
      unfold f_L_tell_61
      rw [show (12:Int32) = nI 12 from rfl, nI_add, e5, qqx, e6, qqx, if_neg (show ¬ b2 true = 0 by decide), g6, qqx]
      unfold f_L_tell_85
      rw [show (24:Int32) = nI 24 from rfl, nI_add, e7, qqx, nI_1]
      exact e8
/-- what is told: a function of what a refusal leaves -/
theorem tell_ex (σ0 : mS) (T : qqT) (G : qqG) (na : Nat) (hG : Gs G ≤ 8) (hT : Tn T ≤ 12) : ∃ f', ∀ mm hl dr xa V, LQ mm hl dr T G V → coE σ0 V.1 → (∃ n, V.2.2 na = some (9, n) ∧ n 0 = nI (Tn T) ∧ n 1 = nI (Gs G)) → V.2.2 xa = none → V.2.1 + 100 < 60000 → ∃ V', f_L_tell na xa V = some (xa, V') ∧ LQ mm hl dr T G V' ∧ V'.2.2 xa = some (64, f') ∧ tF xa V V' ∧ V'.2.1 ≤ V.2.1 + 100 := by
  obtain ⟨A, hA⟩ := av_ex T G σ0
  obtain ⟨f', hf⟩ := te_7 σ0 T G na hA hG hT (Tn T) 0 13 (fun _ => 0) (by omega) (by omega)
  refine ⟨f', fun mm hl dr xa V l c hn hx hc => ?_⟩
  obtain ⟨n, hn, n0, n1⟩ := hn
  have ne : na ≠ xa := fun z => by rw [z, hx] at hn; cases hn
  have h0 : tI σ0 T G na xa mm hl dr (fun _ => 0) (nwA V xa 64) := ⟨l, c, ⟨n, (if_neg ne).trans hn, n0, n1⟩, if_pos rfl, ne⟩
  obtain ⟨V', e1, h1, f1, c1⟩ := hf mm hl dr xa (nwA V xa 64) h0 (by show V.2.1 + 6 * Tn T + 2 * Gs G < 60000; omega)
  have c1 : V'.2.1 ≤ V.2.1 + 6 * Tn T + 2 * Gs G := c1
  exact ⟨V', e1, h1.1, h1.2.2.2.1, ⟨f1.1, fun x hx => (f1.2 x hx).trans (if_neg hx)⟩, by omega⟩
theorem same_2 {x0 x1 : Nat} {f : Nat → Int32} (h0 : V.2.2 x0 = some (64, f)) (h1 : V.2.2 x1 = some (64, f)) : ∀ (d i m : Nat), i + d = 64 → d < m → f_L_same_2 m x0 x1 (nI i) V = some (1, V) := by
  intro d
  induction d with
  | zero =>
    intro i m hi hm
    obtain ⟨m, rfl⟩ : ∃ q, m = q + 1 := ⟨m - 1, by omega⟩
    rw [f_L_same_2, if_pos (show (64:Int32) ≤ nI i from nI_le (a := 64) (by omega) (by omega))]
    exact if_pos (Or.inr rfl)
  | succ d ih =>
    intro i m hi hm
    obtain ⟨m, rfl⟩ : ∃ q, m = q + 1 := ⟨m - 1, by omega⟩
    rw [f_L_same_2, if_neg (show ¬ (64:Int32) ≤ nI i from nI_ge (b := 64) (by omega) (by decide)), ld_in h0 (by omega) (by decide), qqx, ld_in h1 (by omega) (by decide), qqx, if_pos rfl, nI_1]
    exact ih (i + 1) m (by omega) (by omega)
end TEL2
