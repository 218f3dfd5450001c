section QO
variable {mm : Nat × Nat × Nat}
variable {T T' : qqT} {G G' : qqG} {σ σ' σ0 σ1 σ2 : mS} {hl dr : Bool} {e k n x p s y : Nat}
theorem Tho_anc (hw : Tw T) {H H' : Nat → Bool} : ∀ e, e < Tn T → (∀ y, TB T y e = true → H y = H' y) → Tho T H e = Tho T H' e := by
  obtain ⟨ν, -, hν⟩ := Tsp_rk hw
  intro e
  refine qqInd (st := fun e => if e < Tn T then Tsp T e else none) (μ := ν) (P := fun e => e < Tn T → (∀ y, TB T y e = true → H y = H' y) → Tho T H e = Tho T H' e) ?_ e
  intro e ih he hh
  rw [Tho_eq hw H he, Tho_eq hw H' he]
  cases hs : Tsp T e with
  | none => rfl
  | some y =>
    have hy := (Tsp_cases hw hs).2.1
    obtain ⟨t1, t2⟩ := TB_sp hw he hs
    have := ih y (by rw [if_pos he]; exact hs) (hν e y he hs) hy (fun z hz => hh z (t2 z hz))
    show (if H y = true then some y else Tho T H y) = (if H' y = true then some y else Tho T H' y)
    rw [this, hh y t1]
theorem Tho_TB (hw : Tw T) {H : Nat → Bool} {x : Nat} : ∀ e, e < Tn T → Tho T H e = some x → TB T x e = true := by
  obtain ⟨ν, -, hν⟩ := Tsp_rk hw
  intro e
  refine qqInd (st := fun e => if e < Tn T then Tsp T e else none) (μ := ν) (P := fun e => e < Tn T → Tho T H e = some x → TB T x e = true) ?_ e
  intro e ih he hx
  rw [Tho_eq hw H he] at hx
  cases hs : Tsp T e with
  | none => rw [hs] at hx; cases hx
  | some y =>
    rw [hs] at hx
    have hy := (Tsp_cases hw hs).2.1
    obtain ⟨t1, t2⟩ := TB_sp hw he hs
    have hx : (if H y = true then some y else Tho T H y) = some x := hx
    by_cases c : H y = true
    · rw [if_pos c] at hx; cases hx; exact t1
    · rw [if_neg c] at hx
      exact t2 x (ih y (by rw [if_pos he]; exact hs) (hν e y he hs) hy hx)
theorem hsz_anc (hw : Tw T) {ar' ar : Nat} (he : e < Tn T) (h : ∀ y, TB T y e = true → σ'.1 43 (12 * (30 * ar' + y) + 6) = σ.1 43 (12 * (30 * ar + y) + 6) ∧ (0 < σ.1 43 (12 * (30 * ar + y) + 6) → σ'.1 46 (30 * ar' + y) = σ.1 46 (30 * ar + y))) : hsz T σ' ar' e = hsz T σ ar e := by
  unfold hsz
  rw [Tho_anc hw (H := Hv σ' ar') (H' := Hv σ ar) e he (fun y hy => by unfold Hv; rw [(h y hy).1])]
  cases ht : Tho T (Hv σ ar) e with
  | none => rfl
  | some x =>
    have hh := (Tho_lt hw e he ht).2
    show some (σ'.1 46 (30 * ar' + x)) = some (σ.1 46 (30 * ar + x))
    rw [(h x (Tho_TB hw e he ht)).2 (of_decide_eq_true hh)]
theorem hsz_an0 (hw : Tw T) (he : e < Tn T) (h : ∀ y, TB T y e = true → rEq σ σ' y ∧ σ'.1 46 y = σ.1 46 y) : hsz T σ' 0 e = hsz T σ 0 e := by
  refine hsz_anc hw he (fun y hy => ?_)
  rw [ix0, Nat.mul_zero, Nat.zero_add]
  exact ⟨(h y hy).1.1 6 (by decide), fun _ => (h y hy).2⟩
theorem Lwk_none {o : Option Int32} {p : Nat} (h40 : Gr G ≤ 40) (he : e < 30) (h : ∀ a, a < 70 → Ldc σ p a = false) (lim : Int32) : ∀ k, k ≤ Gr G → Lwk T G σ o e p lim k = none := by
  intro k
  induction k with
  | zero =>
    intro _
    show (if (Ldc σ p (40 + e) && decide (2 < lim)) = true then some (40 + e) else none) = none
    rw [h (40 + e) (by omega), Bool.false_and, if_neg (by decide)]
  | succ k ih =>
    intro hk
    show (if Lwc T G σ o e p lim k (Lwk T G σ o e p lim k) = true then some k else Lwk T G σ o e p lim k) = none
    have : Lwc T G σ o e p lim k (Lwk T G σ o e p lim k) = false := by unfold Lwc; rw [h k (by omega), Bool.false_and]
    rw [this, if_neg (by decide)]
    exact ih (by omega)
theorem Lfnd_none {o : Option Int32} {p : Nat} (h40 : Gr G ≤ 40) (he : e < 30) (h : ∀ a, a < 70 → Ldc σ p a = false) : Lfnd T G σ o e p = none := by
  unfold Lfnd Lwin
  rw [Lwk_none h40 he h 3 (Gr G) (Nat.le_refl _)]
  rfl
theorem qVl_none {I : qI} {p : Nat} (h : I.1 p = none) (hp : 2 ≤ p) : qVl σ I p = vI0 p := by
  unfold qVl
  rw [h]
  show vEv _ _ _ _ _ p (9, 0) = _
  unfold vEv
  rw [if_neg (show ¬ ((9 : Int32) = 8 ∨ ((9 : Int32) = 9 ∧ p < 2)) from fun z => z.elim (fun w => absurd w (by decide)) (fun w => absurd w.2 (by omega))), if_pos (by decide)]
theorem row_none (h40 : Gr G ≤ 40) (he : e < 30) {p : Nat} (hp : 2 ≤ p) (h : ∀ a, a < 70 → Ldc σ p a = false) {ar : Nat} {tr : Bool} {τ : mS} : qVl τ (rI T G σ ar e tr) p = vI0 p := qVl_none (by
  show Lfnd T G σ _ e p = none
  exact Lfnd_none h40 he h) hp
theorem fEq.rf (σ : mS) : fEq G σ σ e := ⟨⟨fun _ _ => rfl, fun _ _ => rfl⟩, fun _ _ _ _ _ _ => rfl, rfl⟩
theorem hit_lEq (h : hitS T G σ) : lEq T T G (hS T G σ) σ e := by
  refine ⟨fun r hr => ?_, fun _ _ _ => rfl, rfl⟩
  unfold apB
  rw [hS_74, h r hr]
  have : Lst T G (hS T G σ) r = Lst T G σ r := by unfold Lst; rw [hS_o]
  rw [this]
theorem hS_fEq : fEq G (hS T G σ) σ e := by
  refine ⟨⟨fun a _ => by rw [hS_o], fun f hf => by rw [hS_o (fun z => by rw [z] at hf; revert hf; decide)]⟩, fun a _ p _ f hf => by rw [hS_o (fun z => by rw [z] at hf; revert hf; decide)], rfl⟩
theorem rI_ar (ar e : Nat) (tr : Bool) : rI T G (hS T G σ) ar e tr = (fun p => Lfnd T G (hS T G σ) (if tr then none else hsz T σ ar e) e p, (Tsp T e).map (fun y => ((fun p => σ.1 43 (12 * (30 * ar + y) + p)), (fun v => (σ.1 44 (3 * (30 * ar + y) + v), σ.1 45 (3 * (30 * ar + y) + v))))), σ.1 43 (360 * ar + 1), if tr then none else hsz T σ ar e) := by
  unfold rI
  rw [hsz_hS, hS_o (f := 43), hS_o (f := 44), hS_o (f := 45)]
theorem PEq.rf (P : Option ((Nat → Int32) × (Nat → qP))) : PEq P P := by
  cases P with
  | none => exact Or.inl ⟨rfl, rfl⟩
  | some f => exact Or.inr ⟨f, f, rfl, rfl, fun _ _ => rfl, fun _ _ => rfl⟩
theorem rI_hit (h40 : Gr G ≤ 40) (h : hitS T G σ) (ar : Nat) (tr : Bool) : (∀ v, qVr σ (rI T G σ ar e tr) v = qVr σ (rI T G (hS T G σ) ar e tr) v) ∧ ∀ p, p < 12 → qVl σ (rI T G σ ar e tr) p = qVl σ (rI T G (hS T G σ) ar e tr) p := by
  rw [rI_ar]
  refine qV_loc (fun p hp => ?_) (PEq.rf _) (fun _ => rfl) rfl (fun _ _ _ _ _ _ => rfl) rfl
  exact (Lfnd_cgT h40 hS_fEq (hit_lEq h) hp).1
theorem qSize_hit (h40 : Gr G ≤ 40) (h : hitS T G σ) (ar e : Nat) : qSize T G σ ar e = qSize T G (hS T G σ) ar e := by
  unfold qSize
  rw [hS_o (f := 43)]
  by_cases c : σ.1 43 (12 * (30 * ar + e) + 2) = -1000000
  · rw [if_pos c, if_pos c]
    refine sumF_cg (fun x _ => ?_) 0
    rw [tm_hS]
    obtain ⟨-, h2⟩ := rI_hit (e := x) h40 h ar true
    unfold tmV
    rw [h2 2 (by decide), h2 3 (by decide)]
  · rw [if_neg c, if_neg c]
theorem hS_same (hf : ∀ f, f ∈ [0, 1, 2, 3, 4, 5, 14, 15, 16, 17, 18, 19, 21] → σ'.1 f = σ.1 f) (h30 : σ'.1 30 = σ.1 30) : lEq T T G (hS T G σ) (hS T G σ') e := lEq_bits h30 (fun r _ => by rw [qMs_cg hf])
theorem TB_00 (hw : Tw T) : ∀ e, e < Tn T → TD T e = true → e ≠ 0 → TB T 0 e = true := by
  obtain ⟨ν, -, hν⟩ := Tsp_rk hw
  intro e
  refine qqInd (st := fun e => if e < Tn T then Tsp T e else none) (μ := ν) (P := fun e => e < Tn T → TD T e = true → e ≠ 0 → TB T 0 e = true) ?_ e
  intro e ih he hd h0
  cases hs : Tsp T e with
  | none => exact absurd (TD_top hw he hd hs) h0
  | some y =>
    obtain ⟨t1, t2⟩ := TB_sp hw he hs
    by_cases c : y = 0
    · rw [← c]; exact t1
    · have hy := (Tsp_cases hw hs).2.1
      exact t2 0 (ih y (by rw [if_pos he]; exact hs) (hν e y he hs) hy ((Tsp_D hw hs).symm.trans hd) c)
theorem mv_anc (hw : Tw T) {mv : Nat → Bool} {D : List Nat} {e : Nat} (he : e < Tn T) (hD : ∀ y, TB T y e = true → y ∈ D) (hp : ∀ y, Tsp T e = some y → mv y = false) (hc : ∀ x, x ∈ D → ∀ y, Tsp T x = some y → mv y = true → mv x = true) : ∀ y, TB T y e = true → mv y = false := by
  have key : ∀ x, x < Tn T → (TB T x e = true → mv x = false → ∀ y, TB T y x = true → mv y = false) := by
    obtain ⟨ν, -, hν⟩ := Tsp_rk hw
    intro x
    refine qqInd (st := fun x => if x < Tn T then Tsp T x else none) (μ := ν) (P := fun x => x < Tn T → (TB T x e = true → mv x = false → ∀ y, TB T y x = true → mv y = false)) ?_ x
    intro x ih hx hxe hm y hy
    rw [TB_eq hw hx] at hy
    cases hs : Tsp T x with
    | none => rw [hs] at hy; cases hy
    | some z =>
      rw [hs] at hy
      have hy : ((z == y) || TB T y z) = true := hy
      have mz : mv z = false := by
        cases hz : mv z with
        | false => rfl
        | true => rw [hc x (hD x hxe) z hs hz] at hm; cases hm
      have hzn := (Tsp_cases hw hs).2.1
      rcases (Bool.or_eq_true _ _).mp hy with w | w
      · have : z = y := by simpa using w
        rw [← this]; exact mz
      · exact ih z (by rw [if_pos hx]; exact hs) (hν x z hx hs) hzn (TB_tr hw ((TB_sp hw hx hs).1) e he hxe) mz y w
  intro y hy
  rw [TB_eq hw he] at hy
  cases hs : Tsp T e with
  | none => rw [hs] at hy; cases hy
  | some z =>
    rw [hs] at hy
    have hy : ((z == y) || TB T y z) = true := hy
    have hzn := (Tsp_cases hw hs).2.1
    rcases (Bool.or_eq_true _ _).mp hy with w | w
    · have : z = y := by simpa using w
      rw [← this]; exact hp z hs
    · exact key z hzn (TB_sp hw he hs).1 (hp z hs) y w
end QO
