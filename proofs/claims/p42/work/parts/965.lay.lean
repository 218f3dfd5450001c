section LAY
variable {T : qqT} {G : qqG} {L : qqL} {A : kA} {ex : Nat → Nat → Prop} {K K' : kS} {S S' : cS} {σ σ' : mS} {v v' nw k : Nat}
def rowK (K K' : kS) (a p u : Nat) (im : Bool) : Prop :=
  K'.1 (bkr a).1 (bkr a).2 6 = K.1 (bkr a).1 (bkr a).2 6 ||| ((1 : Int32) <<< (nI p &&& 31)) ∧
  K'.1 (bkr a).1 (bkr a).2 7 = imW (K.1 (bkr a).1 (bkr a).2 7) p im ∧
  K'.1 ((bkr a).1 + 1) (bkr a).2 p = nI u ∧
  ∀ t q, 1 ≤ t → t ≤ 4 → q ≠ p → K'.1 ((bkr a).1 + t) (bkr a).2 q = K.1 ((bkr a).1 + t) (bkr a).2 q
theorem bt_imW (old : Int32) {p q : Nat} (im : Bool) (hp : p < 32) (hq : q < 32) : bt (imW old p im) q = if q = p then im else bt old q := by
  unfold imW
  cases im with
  | true =>
    rw [if_pos rfl, b_or, b_one hp hq]
    by_cases z : q = p
    · rw [if_pos z, decide_eq_true z, Bool.or_true]
    · rw [if_neg z, decide_eq_false z, Bool.or_false]
  | false =>
    rw [if_neg (by decide), b_and, bt_not hq, b_one hp hq]
    by_cases z : q = p
    · rw [if_pos z, decide_eq_true z]; simp
    · rw [if_neg z, decide_eq_false z]; simp
theorem J0.lay (j : J0 T G L ex K σ v) {a p u : Nat} (ha : VR T G a) (hp : p < 15) (hu : u < 12) {val a1 a2 a3 : Int32} {im : Bool} (b : kB (rwI a) F3 K K') (r : rowK K K' a p u im)
    (kd : (u < 6 → K'.1 ((bkr a).1 + 2) (bkr a).2 p = val) ∧ (6 ≤ u → u < 11 → K'.1 ((bkr a).1 + 2) (bkr a).2 p = 0) ∧ (u = 11 → K'.1 ((bkr a).1 + 3) (bkr a).2 p = a1 ∧ K'.1 ((bkr a).1 + 4) (bkr a).2 p = a2 ∧ (∃ v, v < 3 ∧ a1 = nI (12 + v)) ∧ (a2 = -1 ∨ ∃ w, w < 7 ∧ a2 = nI w ∧ (w < 6 → K'.1 ((bkr a).1 + 2) (bkr a).2 p = a3) ∧ (w = 6 → K'.1 ((bkr a).1 + 2) (bkr a).2 p = 0))))
    (ok : (u < 6 → sm val) ∧ (u = 4 → p = 1 ∨ p = 2 ∨ 12 ≤ p) ∧ (u = 11 → (∃ v, v < 3 ∧ a1 = nI (12 + v)) ∧ (a2 = -1 ∨ ∃ w, w < 7 ∧ a2 = nI w ∧ (w < 6 → sm a3)))) :
    J0 T G L ex K' (layS σ (16 * a + p) (nI u) val (b2 im) a1 a2 a3) v := by
  obtain ⟨r6, r7, r1, ro⟩ := r
  obtain ⟨z37, z38, z39, z40, z41, z42⟩ := layS_at σ (16 * a + p) (nI u) val (b2 im) a1 a2 a3
  have lo := layS_o σ (16 * a + p) (nI u) val (b2 im) a1 a2 a3
  generalize hσ : layS σ (16 * a + p) (nI u) val (b2 im) a1 a2 a3 = σ' at z37 z38 z39 z40 z41 z42 lo
  have sb : sB [37, 38, 39, 40, 41, 42] [] σ σ' := hσ ▸ layS_sB σ (16 * a + p) (nI u) val (b2 im) a1 a2 a3
  have rw1 : rwS a σ σ' := fun f hf b q hq hb => lo f hf _ (by omega)
  have ld : ∀ q, q < 15 → Ldc σ' q a = (if q = p then true else Ldc σ q a) := by
    intro q hq
    unfold Ldc
    by_cases z : q = p
    · rw [if_pos z, z, z37]; exact decide_eq_true (nI_pos' (by omega))
    · rw [if_neg z, lo 37 (by decide) _ (by omega)]
  have kd0 := j.2.1.2.2.1 a ha
  refine j.row ha b sb rw1 ⟨fun q h1 h2 => ?_, fun q hq => ⟨?_, fun hl => ?_⟩⟩ (fun q hq hl => ?_)
  · rw [r6, b_or, kd0.1 q h1 h2, b_one (by omega) h2, decide_eq_false (by omega)]; rfl
  · rw [r6, b_or, (kd0.2 q hq).1, b_one (by omega) (by omega), ld q hq]
    by_cases z : q = p
    · rw [if_pos z, decide_eq_true z, Bool.or_true]
    · rw [if_neg z, decide_eq_false z, Bool.or_false]
  · by_cases z : q = p
    · subst z
      refine ⟨?_, by rw [r1, z37], u, hu, z37, fun h => by rw [z38]; exact kd.1 h, kd.2.1, fun h => ?_⟩
      · rw [r7, bt_imW _ _ (by omega) (by omega), if_pos rfl]
        unfold Lim
        rw [z39]
        cases im <;> decide
      · rw [z40, z41, z42]; exact kd.2.2 h
    · have hl' : Ldc σ q a = true := by rw [ld q hq, if_neg z] at hl; exact hl
      have k3 := (kd0.2 q hq).2 hl'
      unfold Lim at k3 ⊢
      have e : ∀ f, f ∈ [37, 38, 39, 40, 41, 42] → σ'.1 f (16 * a + q) = σ.1 f (16 * a + q) := fun f hf => lo f hf _ (by omega)
      rw [r7, bt_imW _ _ (by omega) (by omega), if_neg z, e 37 (by decide), e 38 (by decide), e 39 (by decide), e 40 (by decide), e 41 (by decide), e 42 (by decide), ro 1 q (by decide) (by decide) z, ro 2 q (by decide) (by decide) z, ro 3 q (by decide) (by decide) z, ro 4 q (by decide) (by decide) z]
      exact k3
  · by_cases z : q = p
    · subst z
      exact ⟨u, hu, z37, fun h => by rw [z38]; exact ok.1 h, ok.2.1, fun h => by rw [z40, z41, z42]; exact ok.2.2 h⟩
    · have hl' : Ldc σ q a = true := by rw [ld q hq, if_neg z] at hl; exact hl
      have := j.2.1.2.2.2.1 a ha q hq hl'
      have e : ∀ f, f ∈ [37, 38, 39, 40, 41, 42] → σ'.1 f (16 * a + q) = σ.1 f (16 * a + q) := fun f hf => lo f hf _ (by omega)
      unfold rOK at this ⊢
      rw [e 37 (by decide), e 38 (by decide), e 40 (by decide), e 41 (by decide), e 42 (by decide)]
      exact this
theorem entK_row (K : kS) (a p u : Nat) (val : Int32) (im : Bool) : rowK K (entK K a p (nI u) val im) a p u im ∧ (entK K a p (nI u) val im).1 ((bkr a).1 + 2) (bkr a).2 p = val ∧ kB (rwI a) F3 K (entK K a p (nI u) val im) := by
  have hk := bkr_k a
  unfold entK
  refine ⟨⟨?_, ?_, ?_, fun t q h1 h2 hq => ?_⟩, kwI_s _ _ _ _ _, ((((kB.rf K).I ⟨rfl, Nat.le_refl _, by omega, fun _ => Or.inl rfl⟩).I ⟨rfl, Nat.le_refl _, by omega, fun _ => Or.inr rfl⟩).I ⟨rfl, by omega, by omega, fun z => by omega⟩).I ⟨rfl, by omega, by omega, fun z => by omega⟩⟩
  · rw [kwI_row (by omega), kwI_row (by omega), kwI_row (by omega), kwI_s]
  · rw [kwI_row (by omega), kwI_row (by omega), kwI_s]
  · rw [kwI_row (by omega), kwI_s]
  · rw [kwI_row (by omega), kwI_row (by omega), kwI_row (by omega), kwI_row (by omega)]
def envK (K : kS) (a p : Nat) (var sec : Int32) : kS := kwI (kwI K ((bkr a).1 + 3) (bkr a).2 p var) ((bkr a).1 + 4) (bkr a).2 p sec
theorem c_enterVariable (hA : KA A ex K' S) (j : J0 T G L ex K σ v) (e2 : K'.2 = K.2) {a p : Nat} (ha : VR T G a) (hp : p < 15) (var sec : Int32) : ∃ S', f_X6_enterVariable (bka A a) (nI p) var sec S = some S' ∧ KA A ex (envK K' a p var sec) S' := by
  have bk := ha.bk j.2.1.1 j.1.1.1 j.2.1.2.1
  have hk := bkr_k a
  obtain ⟨x1, y1, z1⟩ := blkR j ha 3 (by decide) (by decide)
  obtain ⟨x2, y2, z2⟩ := blkR j ha 4 (by decide) (by decide)
  obtain ⟨S1, e1, h1⟩ := hA.SI (k := (bkr a).1 + 3) (i := (bkr a).2) (N := 15) (j := p) x1 z1 (by omega) hp var
  obtain ⟨S2, e3, h2⟩ := h1.SI (k := (bkr a).1 + 4) (i := (bkr a).2) (N := 15) (j := p) x2 z2 (by omega) hp sec
  have g8 : gR S (some (bka A a)) 6 10 = some (some (A ((bkr a).1 + 3) (bkr a).2)) := by
    have : gR S (some (bka A a)) 6 10 = _ := hA.R (bkr a).1 6 bk.1 bk.2
    rw [this, e2, y1]; rfl
  have g9 : gR S1 (some (bka A a)) 6 11 = some (some (A ((bkr a).1 + 4) (bkr a).2)) := by
    have : gR S1 (some (bka A a)) 6 11 = _ := h1.R (bkr a).1 6 bk.1 bk.2
    rw [this]
    show some ((K'.2 (bkr a).1 (bkr a).2 11).map (kp A)) = _
    rw [e2, y2]; rfl
  refine ⟨S2, ?_, h2⟩
  unfold f_X6_enterVariable f_X6_enterVariable_23
  rw [show (15 : Int32) = nI 15 from rfl, c_isBelow, qqx, if_dt (nI_inn hp (by decide)), g8, qqx, e1, qqx, g9, qqx, e3, qqx]
theorem envK_row {K K' : kS} {a p u : Nat} {im : Bool} (var sec : Int32) (r : rowK K K' a p u im) (b : kB (rwI a) F3 K K') : rowK K (envK K' a p var sec) a p u im ∧ (envK K' a p var sec).1 ((bkr a).1 + 3) (bkr a).2 p = var ∧ (envK K' a p var sec).1 ((bkr a).1 + 4) (bkr a).2 p = sec ∧ (envK K' a p var sec).1 ((bkr a).1 + 2) (bkr a).2 p = K'.1 ((bkr a).1 + 2) (bkr a).2 p ∧ kB (rwI a) F3 K (envK K' a p var sec) := by
  have hk := bkr_k a
  obtain ⟨r6, r7, r1, ro⟩ := r
  unfold envK
  refine ⟨⟨?_, ?_, ?_, fun t q h1 h2 hq => ?_⟩, ?_, kwI_s _ _ _ _ _, ?_, (b.I ⟨rfl, by omega, by omega, fun z => by omega⟩).I ⟨rfl, by omega, by omega, fun z => by omega⟩⟩
  · rw [kwI_row (by omega), kwI_row (by omega), r6]
  · rw [kwI_row (by omega), kwI_row (by omega), r7]
  · rw [kwI_row (by omega), kwI_row (by omega), r1]
  · rw [kwI_row (by omega), kwI_row (by omega), ro t q h1 h2 hq]
  · rw [kwI_row (by omega), kwI_s]
  · rw [kwI_row (by omega), kwI_row (by omega)]
end LAY
