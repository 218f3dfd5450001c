section TEL
variable {na : Nat} {n : Nat → Int32} {mm : Nat × Nat × Nat} {hl dr : Bool} {T : qqT} {G : qqG} {V V0 : lwS} {σ σ' τ τ' σ0 : mS} {e p : Nat}
def coE (σ σ' : mS) : Prop := (∀ f, f ∈ cgL → σ'.1 f = σ.1 f) ∧ ∀ f, f ∈ [49, 50, 51, 52, 53] → σ'.2 f = σ.2 f
theorem coE.rf (σ : mS) : coE σ σ := ⟨fun _ _ => rfl, fun _ _ => rfl⟩
theorem coE.sc (h : coE σ0 σ) (s : scE σ τ) : coE σ0 τ := ⟨fun f hf => (s.1 f (by revert f; decide) (by revert f; decide) (by revert f; decide) (by revert f; decide) (by revert f; decide)).trans (h.1 f hf), fun f hf => (s.2.2.2.2 f (by revert f; decide)).trans (h.2 f hf)⟩
theorem coE.c2 (h : coE σ0 σ) (k : coE σ0 τ) : cG2 σ τ := ⟨fun f hf => (k.1 f hf).trans (h.1 f hf).symm, (k.2 50 (by decide)).trans (h.2 50 (by decide)).symm⟩
/-- found anew: one answer for all states that differ in nothing but what a refusal may leave -/
theorem av_ex (T : qqT) (G : qqG) (σ0 : mS) : ∃ A : Nat → Nat → Int32, ∀ τ e p, J1 T G τ → coE σ0 τ → (∀ x, x ∈ Tord T → sol T G τ 1 x) → e < Tn T → TD T e = true → p < 15 → TV τ 1 e p = A e p := by
  by_cases h : ∃ τ0, J1 T G τ0 ∧ coE σ0 τ0 ∧ ∀ x, x ∈ Tord T → sol T G τ0 1 x
  · obtain ⟨τ0, j, c, s⟩ := h
    exact ⟨fun e p => TV τ0 1 e p, fun τ e p j2 c2 s2 he hd hp => anew_same j (c.c2 c2) s s2 he hd hp⟩
  · exact ⟨fun _ _ => 0, fun τ e p j2 c2 s2 => absurd ⟨τ, j2, c2, s2⟩ h⟩
def tI (σ0 : mS) (T : qqT) (G : qqG) (na xa : Nat) (mm : Nat × Nat × Nat) (hl dr : Bool) (f : Nat → Int32) (V : lwS) : Prop := LQ mm hl dr T G V ∧ coE σ0 V.1 ∧ (∃ n, V.2.2 na = some (9, n) ∧ n 0 = nI (Tn T) ∧ n 1 = nI (Gs G)) ∧ V.2.2 xa = some (64, f) ∧ na ≠ xa
def tF (xa : Nat) (V V' : lwS) : Prop := scE V.1 V'.1 ∧ ∀ x, x ≠ xa → V'.2.2 x = V.2.2 x
theorem tF.tr {xa : Nat} {A B C : lwS} (h : tF xa A B) (k : tF xa B C) : tF xa A C := ⟨h.1.tr k.1, fun x hx => (k.2 x hx).trans (h.2 x hx)⟩
theorem tF.rf (xa : Nat) (V : lwS) : tF xa V V := ⟨scE.rf _, fun _ _ => rfl⟩
theorem tI.ca {xa : Nat} {f : Nat → Int32} (h : tI σ0 T G na xa mm hl dr f V) (l : LQ mm hl dr T G (τ, V.2.1 + 1, V.2.2)) (s : scE V.1 τ) : tI σ0 T G na xa mm hl dr f (τ, V.2.1 + 1, V.2.2) ∧ tF xa V (τ, V.2.1 + 1, V.2.2) := ⟨⟨l, h.2.1.sc s, h.2.2.1, h.2.2.2⟩, s, fun _ _ => rfl⟩
def stX (V : lwS) (xa : Nat) (f : Nat → Int32) : lwS := (V.1, V.2.1, fun x => if x = xa then some (64, f) else V.2.2 x)
theorem tI.st {xa : Nat} {f : Nat → Int32} (h : tI σ0 T G na xa mm hl dr f V) {i : Nat} (hi : i < 64) (v : Int32) : stA V xa (nI i) v = some (stX V xa (upd f i v)) ∧ tI σ0 T G na xa mm hl dr (upd f i v) (stX V xa (upd f i v)) ∧ tF xa V (stX V xa (upd f i v)) := by
  obtain ⟨h1, h2, ⟨n, h3, h4⟩, h5, h6⟩ := h
  exact ⟨st_in h5 hi (by decide) v, ⟨h1, h2, ⟨n, (if_neg h6).trans h3, h4⟩, if_pos rfl, h6⟩, scE.rf _, fun x hx => if_neg hx⟩
theorem tI.l0 {xa : Nat} {f : Nat → Int32} (h : tI σ0 T G na xa mm hl dr f V) : ldA V na (0:Int32) = some (nI (Tn T)) := by
  obtain ⟨h1, h2, ⟨n, h3, h4, -⟩, h5, h6⟩ := h
  exact (stV_ld (i := 0) h3 (by decide)).trans (congrArg some h4)
theorem tI.l1 {xa : Nat} {f : Nat → Int32} (h : tI σ0 T G na xa mm hl dr f V) : ldA V na (1:Int32) = some (nI (Gs G)) := by
  obtain ⟨h1, h2, ⟨n, h3, -, h4⟩, h5, h6⟩ := h
  exact (stV_ld (i := 1) h3 (by decide)).trans (congrArg some h4)
theorem te_94 (σ0 : mS) (T : qqT) (G : qqG) (na : Nat) (hG : Gs G ≤ 8) : ∀ (d i m : Nat) (f : Nat → Int32), i + d = Gs G → d < m → ∃ f', ∀ mm hl dr xa V, tI σ0 T G na xa mm hl dr f V → V.2.1 + 2 * d < 60000 → ∃ V', f_L_tell_94 m na xa (nI i) V = some (xa, V') ∧ tI σ0 T G na xa mm hl dr f' V' ∧ tF xa V V' ∧ V'.2.1 ≤ V.2.1 + 2 * d := by
  intro d
  induction d with
  | zero =>
    intro i m f hi hm
    obtain ⟨m, rfl⟩ : ∃ q, m = q + 1 := ⟨m - 1, by omega⟩
    refine ⟨upd (upd (upd (upd f 60 (σ0.2 49 &&& qqM (TD T) (Tn T))) 61 (σ0.2 51)) 62 (σ0.2 52)) 63 (σ0.2 53), fun mm hl dr xa V h hc => ?_⟩
    have e49 := h.2.1.2 49 (by decide)
    have e51 := h.2.1.2 51 (by decide)
    have e52 := h.2.1.2 52 (by decide)
    have e53 := h.2.1.2 53 (by decide)
    have em := g_marked h.1
    rw [e49] at em
    obtain ⟨s1, t1, f1⟩ := h.st (i := 60) (by decide) (σ0.2 49 &&& qqM (TD T) (Tn T))
    obtain ⟨s2, t2, f2⟩ := t1.st (i := 61) (by decide) (σ0.2 51)
    obtain ⟨s3, t3, f3⟩ := t2.st (i := 62) (by decide) (σ0.2 52)
    obtain ⟨s4, t4, f4⟩ := t3.st (i := 63) (by decide) (σ0.2 53)
    refine ⟨_, ?_, t4, ((f1.tr f2).tr f3).tr f4, Nat.le_refl _⟩
    have s1 : stA V xa (60:Int32) _ = _ := s1
    have s2 : stA (stX V xa _) xa (61:Int32) _ = _ := s2
    have s3 : stA (stX (stX V xa _) xa _) xa (62:Int32) _ = _ := s3
    have s4 : stA (stX (stX (stX V xa _) xa _) xa _) xa (63:Int32) _ = _ := s4
    rw [f_L_tell_94, h.l1, qqx, if_pos (show nI (Gs G) ≤ nI i from nI_le (by omega) (by omega)), em, qqx, s1, qqx, qqx]
    have g1 : (stX V xa (upd f 60 (σ0.2 49 &&& qqM (TD T) (Tn T)))).1.2 51 = σ0.2 51 := e51
    rw [g1, s2, qqx, qqx]
    have g2 : (stX (stX V xa (upd f 60 (σ0.2 49 &&& qqM (TD T) (Tn T)))) xa (upd (upd f 60 (σ0.2 49 &&& qqM (TD T) (Tn T))) 61 (σ0.2 51))).1.2 52 = σ0.2 52 := e52
    rw [g2, s3, qqx, qqx]
    have g3 : (stX (stX (stX V xa (upd f 60 (σ0.2 49 &&& qqM (TD T) (Tn T)))) xa (upd (upd f 60 (σ0.2 49 &&& qqM (TD T) (Tn T))) 61 (σ0.2 51))) xa (upd (upd (upd f 60 (σ0.2 49 &&& qqM (TD T) (Tn T))) 61 (σ0.2 51)) 62 (σ0.2 52))).1.2 53 = σ0.2 53 := e53
    rw [g3, s4, qqx]
  | succ d ih =>
    intro i m f hi hm
    obtain ⟨m, rfl⟩ : ∃ q, m = q + 1 := ⟨m - 1, by omega⟩
    obtain ⟨f', hf⟩ := ih (i + 1) m (upd (upd f (36 + i) (qMs T σ0 none i)) (44 + i) (σ0.1 20 i)) (by omega) (by omega)
    refine ⟨f', fun mm hl dr xa V h hc => ?_⟩
    have hi' : i < Gs G := by omega
    obtain ⟨τ, e1, l1, s1⟩ := a_allThat (by omega) h.1 hi'
    obtain ⟨h1, f1⟩ := h.ca l1 s1
    have ev : qMs T (sf V.1 81 0) none i = qMs T σ0 none i := congrFun (qMs_cg (T := T) (h := none) (σ := σ0) (σ' := sf V.1 81 0) (fun f hf => (show (sf V.1 81 0).1 f = V.1.1 f from rfl).trans (h.2.1.1 f (by revert f; decide)))) i
    rw [ev] at e1
    obtain ⟨s2, h2, f2⟩ := h1.st (i := 36 + i) (by omega) (qMs T σ0 none i)
    obtain ⟨e3, l3⟩ := a_weight (V := stX (τ, V.2.1 + 1, V.2.2) xa (upd f (36 + i) (qMs T σ0 none i))) (by show V.2.1 + 1 < 60000; omega) h2.1 hi'
    have e20 : (stX (τ, V.2.1 + 1, V.2.2) xa (upd f (36 + i) (qMs T σ0 none i))).1.1 20 i = σ0.1 20 i := by rw [h2.2.1.1 20 (by decide)]
    rw [e20] at e3
    obtain ⟨h3, f3⟩ := h2.ca l3 (scE.of (scR_sf _ 0))
    obtain ⟨s4, h4, f4⟩ := h3.st (i := 44 + i) (by omega) (σ0.1 20 i)
    obtain ⟨V', e5, h5, f5, c5⟩ := hf mm hl dr xa _ h4 (by show V.2.1 + 1 + 1 + 2 * d < 60000; omega)
    have c5 : V'.2.1 ≤ V.2.1 + 1 + 1 + 2 * d := c5
    refine ⟨V', ?_, h5, (((f1.tr f2).tr f3).tr f4).tr f5, by omega⟩
    rw [f_L_tell_94, h.l1, qqx, if_neg (show ¬ nI (Gs G) ≤ nI i from nI_ge (by omega) (by omega)), e1, qqx, show (36:Int32) = nI 36 from rfl, nI_add, s2, qqx, e3, qqx, show (44:Int32) = nI 44 from rfl, nI_add, s4, qqx, nI_1]
    exact e5
end TEL
