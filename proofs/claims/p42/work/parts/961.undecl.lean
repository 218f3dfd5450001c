section UND
variable {T : qqT} {G : qqG} {L : qqL} {A : kA} {ex : Nat → Nat → Prop} {K K' : kS} {S S' : cS} {σ σ' : mS} {v v' nw k : Nat}
theorem un_step (hw : Tw T) (hA : KA A ex K S) (j : J0 T G L ex K σ v) {a p : Nat} (ha : VR T G a) (hp : p < 15) : ∃ S' K', gI S (some (bka A a)) 6 6 = some (K.1 (bkr a).1 (bkr a).2 6) ∧ pI S (some (bka A a)) 6 6 (K.1 (bkr a).1 (bkr a).2 6 &&& (((1:Int32) <<< (nI p &&& 31)) ^^^ ((-1):Int32))) = some S' ∧ KA A ex K' S' ∧ J0 T G L ex K' (up σ 37 (16 * a + p) (-1)) v ∧ kB (rwI a) F3 K K' := by
  have bk := ha.bk j.2.1.1 j.1.1.1 j.2.1.2.1
  have hk := bkr_k a
  obtain ⟨S1, e1, h1⟩ := hA.PI (k := (bkr a).1) (i := (bkr a).2) (t := 6) (j := 6) bk.1 bk.2 (by omega) (K.1 (bkr a).1 (bkr a).2 6 &&& (((1:Int32) <<< (nI p &&& 31)) ^^^ ((-1):Int32)))
  have b : kB (rwI a) F3 K (kwI K (bkr a).1 (bkr a).2 6 (K.1 (bkr a).1 (bkr a).2 6 &&& (((1:Int32) <<< (nI p &&& 31)) ^^^ ((-1):Int32)))) := (kB.rf K).I ⟨rfl, Nat.le_refl _, by omega, fun _ => Or.inl rfl⟩
  have s : sB [37, 38, 39, 40, 41, 42] [] σ (up σ 37 (16 * a + p) (-1)) := (sB.rf _).up (by simp)
  have u37 : ∀ i, (up σ 37 (16 * a + p) (-1)).1 37 i = if i = 16 * a + p then -1 else σ.1 37 i := fun i => up_s _ _ _ _ _
  have uo : ∀ f, f ≠ 37 → (up σ 37 (16 * a + p) (-1)).1 f = σ.1 f := fun f hf => up_o hf
  have r : rwS a σ (up σ 37 (16 * a + p) (-1)) := by
    intro f hf b q hq hb
    by_cases z : f = 37
    · rw [z, u37, if_neg (by omega)]
    · rw [uo f z]
  have ld : ∀ q, q < 15 → Ldc (up σ 37 (16 * a + p) (-1)) q a = (if q = p then false else Ldc σ q a) := by
    intro q hq
    unfold Ldc
    rw [u37]
    by_cases z : q = p
    · rw [if_pos (by omega), if_pos z]; decide
    · rw [if_neg (by omega), if_neg z]
  have kd0 := j.2.1.2.2.1 a ha
  refine ⟨S1, _, bI hA ha j.2.1.1 j.1.1.1 j.2.1.2.1 6, e1, h1, j.row ha b s r ⟨fun q h1 h2 => ?_, fun q hq => ?_⟩ (fun q hq hl => ?_), b⟩
  · rw [kwI_s, b_and, kd0.1 q h1 h2, Bool.false_and]
  · obtain ⟨k1, k2⟩ := kd0.2 q hq
    refine ⟨?_, fun hl => ?_⟩
    · rw [kwI_s, b_and, k1, bt_not (by omega), b_one (by omega) (by omega), ld q hq]
      by_cases z : q = p
      · rw [if_pos z, decide_eq_true z]; simp
      · rw [if_neg z, decide_eq_false z]; simp
    · have hq0 : ¬ q = p := fun z => by rw [ld q hq, if_pos z] at hl; cases hl
      have hl' : Ldc σ q a = true := by rw [ld q hq, if_neg hq0] at hl; exact hl
      have k3 := k2 hl'
      unfold Lim at k3 ⊢
      rw [uo 38 (by decide), uo 39 (by decide), uo 40 (by decide), uo 41 (by decide), uo 42 (by decide), u37, if_neg (by omega), kwI_row (by omega), kwI_row (by omega), kwI_row (by omega), kwI_row (by omega), kwI_row (by omega)]
      exact k3
  · have hq0 : ¬ q = p := fun z => by rw [ld q hq, if_pos z] at hl; cases hl
    have hl' : Ldc σ q a = true := by rw [ld q hq, if_neg hq0] at hl; exact hl
    have := j.2.1.2.2.2.1 a ha q hq hl'
    unfold rOK at this ⊢
    rw [uo 38 (by decide), uo 40 (by decide), uo 41 (by decide), uo 42 (by decide), u37, if_neg (by omega)]
    exact this
def P_rw (T : qqT) (G : qqG) (σ : mS) (p : Int32) (T' : qqT) (G' : qqG) (σ' : mS) : Prop := T' = T ∧ G' = G ∧ ∃ a σ1 val, VR T G a ∧ sB [37, 38, 39, 40, 41, 42] [] (sf σ 81 0) σ1 ∧ (∀ f, ∀ i, σ1.1 f i ≠ σ.1 f i → ∃ q : Nat, q < 15 ∧ i = 16 * a + q ∧ (nI q = p ∨ (p = 15 ∧ (q = 3 ∨ q = 4)))) ∧ f_markRow (nI (16 * a)) σ1 = some (val, σ')
theorem JW.rowEnd {P : qqT → qqG → mS → Prop} (w : JW k T G L A ex K v nw S σ) {x : Int32} {a : Nat} (h : blk T G x a) {S1 : cS} {K1 : kS} {σ1 : mS} (hA1 : KA A ex K1 S1) (in1 : kIn A ex K1) (j1 : J0 T G L ex K1 σ1 v) (h81 : σ1.2 81 = 0) (h54 : σ1.2 54 = σ.2 54) : ∃ val S' σ', f_X11_markDeclaration (A 49 0) x S1 = some S' ∧ rc S' (some (bka A a)) 6 = some (bka A a) ∧ f_X6_countDeclared (bka A a) S' = some val ∧ f_markRow (nI (16 * a)) σ1 = some (val, σ') ∧ ((∀ val σ', f_markRow (nI (16 * a)) σ1 = some (val, σ') → P T G σ') → ∀ L, sJR L lvN (JP (pf T G σ P) (k + 1)) (some (.inr val, S')) (some (val, σ'))) := by
  obtain ⟨S', K', σ', e1, e2, e3, e4, h1, j2, b1, s1⟩ := mark_row w.1.1 hA1 j1 h
  exact ⟨_, S', σ', e1, e4, e3, e2, fun hp L => sJR.r rfl ((s1.2 81 (by decide)).trans h81) (w.to h1 (in1.kp b1 (fun i j => by unfold MI; omega)) j2 (by omega) ((s1.2 54 (by decide)).trans h54) (Or.inr ⟨(s1.2 81 (by decide)).trans h81, hp _ _ e2⟩))⟩
theorem rwI_65 (a : Nat) : ∀ i j, ¬ rwI a 65 i j := fun i j z => by
  have := bkr_k a
  unfold rwI at z
  omega
end UND
