section ED2
variable {mm : Nat × Nat × Nat} {hl dr : Bool} {T : qqT} {G : qqG} {V : lwS} {e p k r : Nat}
theorem e_setAttribute (hk : V.2.1 < 60000) (h : LQ mm hl dr T G V) (he : e < Tn T) (hp : p < 2) {x : Int32} (hx : x = -1 ∨ (0 ≤ x ∧ x < nI 10)) : ∃ v σ' T', oC (f_setAttribute (nI e) (nI p) x) V = some (v, (σ', V.2.1 + 1, V.2.2)) ∧ Tn T' = Tn T ∧ LQ mm hl dr T' G (σ', V.2.1 + 1, V.2.2) := by
  have J := h.j1
  have h30 := J.1.1.n30
  obtain ⟨v, σ', h1, T', G', ⟨rfl, e0, x0, -, pp⟩, l⟩ := t_ok (t_setAttribute hk h (nI e) (nI p) x) (by
    unfold f_setAttribute
    rw [r_isElement J.1.2.1 J.1.1, qqx, if_dt (nI_inn he (by omega)), r_in0 (nI p) (n := 2) (by decide) (by decide), qqx, if_dt (nI_inn hp (by decide)), r_inm x (n := 10) (by decide) (by decide), qqx, if_neg (by
      rcases hx with hx | hx
      · rw [decide_eq_true hx, Bool.true_or]; decide
      · rw [decide_eq_true hx, Bool.or_true]; decide)]
    exact n_setAttribute)
  refine ⟨v, σ', T', h1, ?_, l⟩
  rcases pp with ⟨rfl, -⟩ | ⟨rfl, -⟩
  · rfl
  · rfl
theorem e_select (hk : V.2.1 < 60000) (h : LQ mm hl dr T G V) (lt : Gs G < 30) : ∃ σ', oC f_select V = some (nI (Gs G), (σ', V.2.1 + 1, V.2.2)) ∧ LQ mm hl false T (gSe G) (σ', V.2.1 + 1, V.2.2) := by
  have J := h.j1
  obtain ⟨τ, e1, z⟩ : ∃ τ, f_select V.1 = some (nI (Gs G), τ) ∧ τ.2 81 = 0 := by
    obtain ⟨⟨S, L, A, ex, K, v, nw, w⟩, q⟩ := id h
    have j := w.2.2.2
    have df := j.2.2.2.2.2.2.1
    have km := j.2.2.2.2.2.1.1
    have s26 := j.2.2.2.2.2.1.2
    obtain ⟨σ', rs, ss⟩ := r_select lt df.1.2.1 (fun a ha => by
      have := (km.1 a ha).2.2.2.n
      exact ⟨this.2.2, this.2.1⟩) s26
    refine ⟨σ', ?_, (ss.1.2 81 (by decide)).trans (sf_s _ _ _)⟩
    unfold f_select
    rw [s26, if_neg (show ¬ nI (Gs G) = 30 from fun z => absurd ((nI_eqE (b := 30) (by omega) (by decide)).mp z) (by omega))]
    exact rs
  obtain ⟨h1, T', G', ⟨rfl, rfl, -⟩, l⟩ := oC_ok (t_select hk h) e1 z
  exact ⟨τ, h1, l⟩
/-- what a caught call leaves: its answer's code and value, and the state behind it -/
theorem w_R {g : mS → Option (Int32 × mS)} {mm' : Nat × Nat × Nat} {hl' dr' : Bool} {P : qqT → qqG → mS → Prop} (t : stP g mm hl dr mm' hl' dr' T G P V) (f : Int32 × Int32 → Int32) : ∃ a σ', g V.1 = some (a, σ') ∧ oM f (oR g V) = some (f (σ'.2 81, a), (σ', V.2.1 + 1, V.2.2)) ∧ stR mm hl dr mm' hl' dr' T G P V σ' := by
  obtain ⟨a, σ', e1, e2, s⟩ := t
  refine ⟨a, σ', e1, ?_, s⟩
  unfold oM
  rw [e2]
  rfl
theorem w_U {g : mS → Option mS} {mm' : Nat × Nat × Nat} {hl' dr' : Bool} {P : qqT → qqG → mS → Prop} (t : stU g mm hl dr mm' hl' dr' T G P V) (f : Int32 × Int32 → Int32) : ∃ σ', g V.1 = some σ' ∧ oM f (oU g V) = some (f (σ'.2 81, 0), (σ', V.2.1 + 1, V.2.2)) ∧ stR mm hl dr mm' hl' dr' T G P V σ' := by
  obtain ⟨σ', e1, e2, s⟩ := t
  refine ⟨σ', e1, ?_, s⟩
  unfold oM
  rw [e2]
  rfl
end ED2
/-- the law's own numbers, at the place na -/
def nOK (na : Nat) (V : lwS) (T : qqT) (G : qqG) (mm : Nat × Nat × Nat) (hl : Bool) : Prop := ∃ n : Nat → Int32, V.2.2 na = some (9, n) ∧ (n 0 = nI (Tn T) ∧ Tn T ≤ 12) ∧ (n 1 = nI (Gs G) ∧ Gs G ≤ 8) ∧ (n 2 = nI (Gk G) ∧ Gk G ≤ 6) ∧ (n 3 = nI (Gr G) ∧ Gr G ≤ 12) ∧ (n 4 = nI mm.1 ∧ n 5 = nI mm.2.1 ∧ n 6 = nI mm.2.2) ∧ (n 7 = 0 ∨ n 7 = 1) ∧ (n 7 = 0 → hl = false)
theorem ld_in {V : lwS} {a N : Nat} {f : Nat → Int32} (h : V.2.2 a = some (N, f)) {i : Nat} (hi : i < N) (hN : N < 2 ^ 31) : ldA V a (nI i) = some (f i) := by
  have hz : (nI i).toNatClampNeg = i := by
    show (nI i).toInt.toNat = i
    rw [nI_toInt (by omega)]
    exact Int.toNat_natCast i
  unfold ldA
  rw [h]
  show (if nI i < 0 ∨ N ≤ (nI i).toNatClampNeg then none else some (f (nI i).toNatClampNeg)) = _
  rw [hz, if_neg (by
    rintro (z | z)
    · exact nI_pos (by omega) z
    · omega)]
theorem st_in {V : lwS} {a N : Nat} {f : Nat → Int32} (h : V.2.2 a = some (N, f)) {i : Nat} (hi : i < N) (hN : N < 2 ^ 31) (v : Int32) : stA V a (nI i) v = some (V.1, V.2.1, fun x => if x = a then some (N, upd f i v) else V.2.2 x) := by
  have hz : (nI i).toNatClampNeg = i := by
    show (nI i).toInt.toNat = i
    rw [nI_toInt (by omega)]
    exact Int.toNat_natCast i
  unfold stA
  rw [h]
  show (if nI i < 0 ∨ N ≤ (nI i).toNatClampNeg then none else some (V.1, V.2.1, fun x => if x = a then some (N, upd f (nI i).toNatClampNeg v) else V.2.2 x)) = _
  rw [hz, if_neg (by
    rintro (z | z)
    · exact nI_pos (by omega) z
    · omega)]
