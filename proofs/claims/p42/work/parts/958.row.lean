section ROW
variable {T : qqT} {G : qqG} {L : qqL} {A : kA} {ex : Nat → Nat → Prop} {K K' : kS} {S S' : cS} {σ σ' : mS} {v v' nw k : Nat}
theorem r_declared (σ : mS) {a : Nat} (ha : a < 70) : f_declared (nI (16 * a)) σ = some (nI (sN (fun p => (Ldc σ p a).toNat) 15)) := by
  have key : ∀ d p m, p + d = 15 → d < m → f_declared_4 m (nI (16 * a)) (nI (sN (fun p => (Ldc σ p a).toNat) p)) (nI p) σ = some (nI (sN (fun p => (Ldc σ p a).toNat) 15)) := by
    intro d
    induction d with
    | zero =>
      intro p m hp hm
      obtain ⟨m, rfl⟩ : ∃ m', m = m' + 1 := ⟨m - 1, by omega⟩
      have : p = 15 := by omega
      subst this
      rw [f_declared_4, if_pos (show (15 : Int32) ≤ nI 15 by decide)]
    | succ d ih =>
      intro p m hp hm
      obtain ⟨m, rfl⟩ : ∃ m', m = m' + 1 := ⟨m - 1, by omega⟩
      unfold f_declared_4 f_declared_27
      rw [if_neg (show ¬ (15 : Int32) ≤ nI p from nI_ge (b := 15) (by omega) (by decide)), nI_add, rd_37 (by omega), qqx, nI_1]
      have i1 := ih (p + 1) m (by omega) (by omega)
      by_cases c : σ.1 37 (16 * a + p) < 0
      · have hl : Ldc σ p a = false := decide_eq_false (Int32.not_le.mpr c)
        have e : sN (fun p => (Ldc σ p a).toNat) (p + 1) = sN (fun p => (Ldc σ p a).toNat) p + 0 := by
          show sN (fun p => (Ldc σ p a).toNat) p + (Ldc σ p a).toNat = _
          rw [hl]; rfl
        rw [if_pos c, show (0 : Int32) = nI 0 from rfl, nI_add, ← e]
        exact i1
      · have hl : Ldc σ p a = true := decide_eq_true (Int32.not_lt.mp c)
        have e : sN (fun p => (Ldc σ p a).toNat) (p + 1) = sN (fun p => (Ldc σ p a).toNat) p + 1 := by
          show sN (fun p => (Ldc σ p a).toNat) p + (Ldc σ p a).toNat = _
          rw [hl]; rfl
        rw [if_neg c, show (1 : Int32) = nI 1 from rfl, nI_add, ← e]
        exact i1
  exact key 15 0 4000 rfl (by decide)
theorem c_countDeclared (j : J0 T G L ex K σ v) (hA : KA A ex K S) {a : Nat} (ha : VR T G a) : f_X6_countDeclared (bka A a) S = some (nI (sN (fun p => (Ldc σ p a).toNat) 15)) := by
  have d := j.2.1.2.2.1 a ha
  unfold f_X6_countDeclared
  rw [bI hA ha j.2.1.1 j.1.1.1 j.2.1.2.1, qqx, c_bitsOf (P := fun p => Ldc σ p a) (fun i hi => ?_), qqx]
  by_cases c : i < 15
  · rw [decide_eq_true c, Bool.true_and, (d.2 i c).1]
  · rw [decide_eq_false c, Bool.false_and, d.1 i (by omega) hi]
theorem mark_row (hw : Tw T) (hA : KA A ex K S) (j : J0 T G L ex K σ v) {x : Int32} {a : Nat} (h : blk T G x a) : ∃ S' K' σ', f_X11_markDeclaration (A 49 0) x S = some S' ∧ f_markRow (nI (16 * a)) σ = some (nI (sN (fun p => (Ldc σ' p a).toNat) 15), σ') ∧ f_X6_countDeclared (bka A a) S' = some (nI (sN (fun p => (Ldc σ' p a).toNat) 15)) ∧ rc S' (some (bka A a)) 6 = some (bka A a) ∧ KA A ex K' S' ∧ J0 T G L ex K' σ' v ∧ kB MI F3 K K' ∧ sB [] [49] σ σ' := by
  have h30 := hw.n30
  have h40 := j.2.1.1.r40
  have q := j.1.1
  have hv := h.vr
  have a70 := hv.lt hw j.2.1.1
  have fin : ∀ (S' : cS) (K' : kS) (σ' : mS), f_X11_markDeclaration (A 49 0) x S = some S' → f_markRow (nI (16 * a)) σ = f_markRow_27 (nI (16 * a)) σ' → KA A ex K' S' → J0 T G L ex K' σ' v → kB MI F3 K K' → sB [] [49] σ σ' → ∃ S' K' σ', f_X11_markDeclaration (A 49 0) x S = some S' ∧ f_markRow (nI (16 * a)) σ = some (nI (sN (fun p => (Ldc σ' p a).toNat) 15), σ') ∧ f_X6_countDeclared (bka A a) S' = some (nI (sN (fun p => (Ldc σ' p a).toNat) 15)) ∧ rc S' (some (bka A a)) 6 = some (bka A a) ∧ KA A ex K' S' ∧ J0 T G L ex K' σ' v ∧ kB MI F3 K K' ∧ sB [] [49] σ σ' := by
    intro S' K' σ' e1 e2 h1 j1 b1 s1
    refine ⟨S', K', σ', e1, ?_, c_countDeclared j1 h1 hv, bRc h1 hv j1.2.1.1 j1.1.1.1 j1.2.1.2.1, h1, j1, b1, s1⟩
    rw [e2]
    unfold f_markRow_27
    rw [r_declared σ' a70, qqx]
  rcases h with ⟨hr, rfl⟩ | ⟨e, he, rfl, rfl⟩
  · obtain ⟨S', K', σ', e1, e2, h1, j1, b1, s1⟩ := all_both hw hA j
    refine fin S' K' σ' ?_ ?_ h1 j1 b1 s1
    · unfold f_X11_markDeclaration f_X11_markDeclaration_23
      rw [if_neg (show ¬ (100 : Int32) ≤ nI a from nI_ge (b := 100) (by omega) (by decide)), q.2.1.r11 hA, qqx, e1, qqx]
    · unfold f_markRow
      rw [if_neg (show ¬ (640 : Int32) ≤ nI (16 * a) from nI_ge (b := 640) (by omega) (by decide)), e2, qqx]
  · obtain ⟨S', K', e1, h1, c1⟩ := c_mark hw hA q ((1 : Int32) <<< (nI e &&& 31))
    obtain ⟨σ', e2, r2⟩ := r_mark hw j.1.2.2.2 ((1 : Int32) <<< (nI e &&& 31))
    refine fin S' K' σ' ?_ ?_ h1 (j.mark hw c1 r2) c1.kB r2.sB
    · unfold f_X11_markDeclaration f_X11_markDeclaration_23
      rw [if_pos (show (100 : Int32) ≤ nI (100 + e) from (nI_leE (a := 100) (by decide) (by omega)).mpr (by omega)), q.2.1.r11 hA, qqx, show (100 : Int32) = nI 100 from rfl, pk_sub (by omega), show 100 + e - 100 = e by omega, e1, qqx]
    · unfold f_markRow
      rw [if_pos (show (640 : Int32) ≤ nI (16 * (40 + e)) from (nI_leE (a := 640) (by decide) (by omega)).mpr (by omega)), show dv (nI (16 * (40 + e))) 16 = some (nI (40 + e)) from dv16 (p := 0) (by omega) (by decide), qqx, show (40 : Int32) = nI 40 from rfl, pk_sub (by omega), show 40 + e - 40 = e by omega, e2, qqx]
end ROW
