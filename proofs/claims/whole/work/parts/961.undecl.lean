/-! MATHS, 76: a declaration is taken back -/
section UND
variable {T : qqT} {G : qqG} {L : qqL} {A : kA} {ex : Nat → Nat → Prop} {K K' : kS} {S S' : cS} {σ σ' : mS} {v v' nw k : Nat}
theorem un_step (hw : Tw T) (hA : KA A ex K S) (j : J0 T G L ex K σ v) {a p : Nat} (ha : VR T G a) (hp : p < 15) : ∃ S' K', gI S (some (bka A a)) 6 6 = some (K.1 (bkr a).1 (bkr a).2 6) ∧ pI S (some (bka A a)) 6 6 (K.1 (bkr a).1 (bkr a).2 6 &&& (((1:Int32) <<< (nI p &&& 31)) ^^^ ((-1):Int32))) = some S' ∧ KA A ex K' S' ∧ J0 T G L ex K' (up σ 37 (16 * a + p) (-1)) v ∧ kB (rwI a) F3 K K' := by
  have bk := ha.bk j.2.1.1 j.1.1.1 j.2.1.2.1
  have hk := bkr_k a
  obtain ⟨S1, e1, h1⟩ := hA.PI (k := (bkr a).1) (i := (bkr a).2) (t := 6) (j := 6) bk.1 bk.2 (by omega) (K.1 (bkr a).1 (bkr a).2 6 &&& (((1:Int32) <<< (nI p &&& 31)) ^^^ ((-1):Int32)))
  have b : kB (rwI a) F3 K (kwI K (bkr a).1 (bkr a).2 6 (K.1 (bkr a).1 (bkr a).2 6 &&& (((1:Int32) <<< (nI p &&& 31)) ^^^ ((-1):Int32)))) := (kB.rf K).I ⟨rfl, Nat.le_refl _, by omega, fun _ => Or.inl rfl⟩
  have s : sB [37, 38, 39, 40, 41, 42] [] σ (up σ 37 (16 * a + p) (-1)) := (sB.rf _).up (by simp)
  have u37 : ∀ i, (up σ 37 (16 * a + p) (-1)).1 37 i = if i = 16 * a + p then -1 else σ.1 37 i := fun i => up_s _ _ _ _ _
  have uo : ∀ f, f ≠ 37 → (up σ 37 (16 * a + p) (-1)).1 f = σ.1 f := fun f hf => up_o hf
  have r : rwS a σ (up σ 37 (16 * a + p) (-1)) := by
    intro f hf b q hq hb
    by_cases z : f = 37
    · rw [z, u37, if_neg (by omega)]
    · rw [uo f z]
  have ld : ∀ q, q < 15 → Ldc (up σ 37 (16 * a + p) (-1)) q a = (if q = p then false else Ldc σ q a) := by
    intro q hq
    unfold Ldc
    rw [u37]
    by_cases z : q = p
    · rw [if_pos (by omega), if_pos z]; decide
    · rw [if_neg (by omega), if_neg z]
  have kd0 := j.2.1.2.2.1 a ha
  refine ⟨S1, _, bI hA ha j.2.1.1 j.1.1.1 j.2.1.2.1 6, e1, h1, j.row ha b s r ⟨fun q h1 h2 => ?_, fun q hq => ?_⟩ (fun q hq hl => ?_), b⟩
  · rw [kwI_s, b_and, kd0.1 q h1 h2, Bool.false_and]
  · obtain ⟨k1, k2⟩ := kd0.2 q hq
    refine ⟨?_, fun hl => ?_⟩
    · rw [kwI_s, b_and, k1, bt_not (by omega), b_one (by omega) (by omega), ld q hq]
      by_cases z : q = p
      · rw [if_pos z, decide_eq_true z]; simp
      · rw [if_neg z, decide_eq_false z]; simp
    · have hq0 : ¬ q = p := fun z => by rw [ld q hq, if_pos z] at hl; cases hl
      have hl' : Ldc σ q a = true := by rw [ld q hq, if_neg hq0] at hl; exact hl
      have k3 := k2 hl'
      unfold Lim at k3 ⊢
      rw [uo 38 (by decide), uo 39 (by decide), uo 40 (by decide), uo 41 (by decide), uo 42 (by decide), u37, if_neg (by omega), kwI_row (by omega), kwI_row (by omega), kwI_row (by omega), kwI_row (by omega), kwI_row (by omega)]
      exact k3
  · have hq0 : ¬ q = p := fun z => by rw [ld q hq, if_pos z] at hl; cases hl
    have hl' : Ldc σ q a = true := by rw [ld q hq, if_neg hq0] at hl; exact hl
    have := j.2.1.2.2.2.1 a ha q hq hl'
    unfold rOK at this ⊢
    rw [uo 38 (by decide), uo 40 (by decide), uo 41 (by decide), uo 42 (by decide), u37, if_neg (by omega)]
    exact this
theorem JW.rowEnd (w : JW k T G L A ex K v nw S σ) {x : Int32} {a : Nat} (h : blk T G x a) {S1 : cS} {K1 : kS} {σ1 : mS} (hA1 : KA A ex K1 S1) (in1 : kIn A ex K1) (j1 : J0 T G L ex K1 σ1 v) (h81 : σ1.2 81 = 0) (h54 : σ1.2 54 = σ.2 54) : ∃ val S' σ', f_X11_markDeclaration (A 49 0) x S1 = some S' ∧ rc S' (some (bka A a)) 6 = some (bka A a) ∧ f_X6_countDeclared (bka A a) S' = some val ∧ f_markRow (nI (16 * a)) σ1 = some (val, σ') ∧ ∀ L, sJR L lvN (J (k + 1)) (some (.inr val, S')) (some (val, σ')) := by
  obtain ⟨S', K', σ', e1, e2, e3, e4, h1, j2, b1, s1⟩ := mark_row w.1.1 hA1 j1 h
  exact ⟨_, S', σ', e1, e4, e3, e2, fun L => sJR.r rfl ((s1.2 81 (by decide)).trans h81) (w.to h1 (in1.kp b1 (fun i j => by unfold MI; omega)) j2 (by omega) ((s1.2 54 (by decide)).trans h54))⟩
theorem rwI_65 (a : Nat) : ∀ i j, ¬ rwI a 65 i j := fun i j z => by
  have := bkr_k a
  unfold rwI at z
  omega
theorem simJ_undeclare : sim_undeclare (J k) (J (k + 1)) := by
  intro S σ a1 a2 h
  obtain ⟨T, G, L, A, ex, K, v, nw, w⟩ := h
  obtain ⟨⟨hw, hA, hin⟩, h49, -, j⟩ := id w
  have h30 := hw.n30
  have h40 := j.2.1.1.r40
  have q := j.1.1
  refine at49 (P := fun x => sJR [2, 0] lvN (J (k + 1)) (f_X11_undeclare x a1 a2 S) (f_undeclare a1 a2 σ)) h49 ?_
  unfold f_X11_undeclare f_undeclare f_X11_undeclare_20
  rw [q.2.1.r11 hA, qqx]
  rcases blk_cases T G h30 h40 a1 with ⟨a, hb⟩ | ⟨n1, n2⟩
  · have ha := hb.vr
    have a70 := ha.lt hw j.2.1.1
    rw [c_blockY hw j hA hb, qqx, r_rowY hw j hb, qqx, if_pos (show (0 : Int32) ≤ nI (16 * a) from nI_pos' (by omega)), r_in0 a2 (n := 16) (by decide) (by decide), qqx]
    show sJR _ _ _ ((f_X11_isBelow a2 (nI 16)).bind _) _
    rw [c_isBelow, qqx]
    rcases ix_cases a2 (n := 16) (by decide) with ⟨p, hp, rfl⟩ | hx
    · rw [if_dt (nI_inn hp (by decide)), if_dt (nI_inn hp (by decide)), c_refA0, qqx]
      have j0 := j.scR (scR_sf σ 0)
      unfold f_undeclare_31 f_undeclare_55 f_undeclare_73
      rw [r_holds0, qqx, if_pos rfl]
      by_cases c : p = 15
      · subst c
        obtain ⟨S1, K1, g1, e1, h1, j1, b1⟩ := un_step hw hA j0 ha (p := 3) (by decide)
        obtain ⟨S2, K2, g2, e2, h2, j2, b2'⟩ := un_step hw h1 j1 ha (p := 4) (by decide)
        obtain ⟨val, S3, σ3, m1, m2, m3, m4, m5⟩ := w.rowEnd hb h2 ((hin.kp b1 (rwI_65 a)).kp b2' (rwI_65 a)) j2 rfl rfl
        rw [if_pos (show nI 15 = 15 from rfl), show (3 : Int32) = nI 3 from rfl, show (4 : Int32) = nI 4 from rfl, nI_add, nI_add, wr_37 (by omega), qqx, wr_37 (by omega), qqx, if_pos (show nI 15 = 15 from rfl), m4, qqx]
        have f1 : f_X11_firstOf (nI 15) = some (nI 3) := by unfold f_X11_firstOf; rw [if_pos (show nI 15 = 15 from rfl)]; rfl
        have l1 : f_X11_lastOf (nI 15) = some (nI 4) := by unfold f_X11_lastOf; rw [if_pos (show nI 15 = 15 from rfl)]; rfl
        rw [f1]
        show sJR _ _ _ (f_X11_undeclare_29 (A 49 0) (3997 + 1 + 1 + 1) a1 (nI 15) (some (bka A a)) (nI 3) S) _
        rw [f_X11_undeclare_29, l1, qqx, if_neg (by decide), g1, qqx, e1, qqx, nI_1, f_X11_undeclare_29, l1, qqx, if_neg (by decide), g2, qqx, e2, qqx, nI_1, f_X11_undeclare_29, l1, qqx, if_pos (by decide), j2.1.1.2.1.r11 h2, qqx, m1, qqx, m2, qqx, m3, qqx]
        exact m5 _
      · obtain ⟨S1, K1, g1, e1, h1, j1, b1⟩ := un_step hw hA j0 ha (p := p) (by omega)
        obtain ⟨val, S3, σ3, m1, m2, m3, m4, m5⟩ := w.rowEnd hb h1 (hin.kp b1 (rwI_65 a)) j1 rfl rfl
        have ne : ¬ nI p = 15 := fun z => c ((nI_eqE (b := 15) (by omega) (by decide)).mp z)
        rw [if_neg ne, nI_add, wr_37 (by omega), qqx, if_neg ne, m4, qqx]
        have f1 : f_X11_firstOf (nI p) = some (nI p) := by unfold f_X11_firstOf; rw [if_neg ne]; rfl
        have l1 : f_X11_lastOf (nI p) = some (nI p) := by unfold f_X11_lastOf; rw [if_neg ne]; rfl
        rw [f1]
        show sJR _ _ _ (f_X11_undeclare_29 (A 49 0) (3998 + 1 + 1) a1 (nI p) (some (bka A a)) (nI p) S) _
        rw [f_X11_undeclare_29, l1, qqx, if_neg (show ¬ nI p < nI p from Int32.lt_irrefl), g1, qqx, e1, qqx, nI_1, f_X11_undeclare_29, l1, qqx, if_pos (nI_lt (by omega) (by omega)), j1.1.1.2.1.r11 h1, qqx, m1, qqx, m2, qqx, m3, qqx]
        exact m5 _
    · rw [if_df hx, if_df hx, c_refA1, qqx]
      unfold f_undeclare_31
      rw [r_holds2, qqx]
      exact sJR.l rfl (w.no 2)
  · rw [c_blockN hw j hA n1 n2, qqx, r_rowN hw j n1 n2, qqx, if_neg (by decide)]
    unfold f_undeclare_31
    rw [r_holds1, qqx]
    exact sJR.l rfl (w.no 1)
end UND
