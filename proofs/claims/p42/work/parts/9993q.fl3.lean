section QQ
variable {mm : Nat × Nat × Nat}
variable {T T' : qqT} {G G' : qqG} {σ σ' σ0 σ1 σ2 : mS} {hl dr : Bool} {e k n x p s y : Nat} {D R : List Nat} {ch un dn : Int32}
theorem okP_I9 (hw : Tw T) (hc : RC T G σ) (hd : RDv T G σ) (he : e < Tn T) (r : ∀ y, y < Tn T → (∀ v, v < 3 → okP (rPr σ 0 y v)) ∧ ∀ p, p < 12 → bV (σ.1 43 (12 * y + p))) : (∀ v, v < 3 → okP (qVr σ (rI T G σ 0 e false) v)) ∧ ∀ p, p < 12 → bV (qVl σ (rI T G σ 0 e false) p) := by
  have hq : qiOK σ (rI T G σ 0 e false) := rI_ok hw hc hd false he (fun y hy v hv => (r y (Tsp_n9 hw hy)).1 v hv)
  refine ⟨fun v hv => qVar_ok hq.v hq.2 hv, fun p hp => qVl_b hq (fun f hf q hq2 => ?_) hp⟩
  rw [rI_P] at hf
  cases hs : Tsp T e with
  | none => rw [hs] at hf; cases hf
  | some y =>
    rw [hs] at hf
    cases hf
    show bV (σ.1 43 (12 * (30 * 0 + y) + q))
    rw [ix0]
    exact (r y (Tsp_n9 hw hs)).2 q hq2
theorem qDf_no {σ σ1 : mS} {e : Nat} (h : qAny (qDf σ σ1 e) 15 = false) : rEq σ σ1 e := by
  have key : ∀ p, p < 15 → qDf σ σ1 e p = false := fun p hp => by
    cases hq : qDf σ σ1 e p with
    | false => rfl
    | true => rw [qAny_is.mpr ⟨p, hp, hq⟩] at h; cases h
  refine ⟨fun p hp => ?_, fun v hv => ?_⟩
  · have := key p (by omega)
    unfold qDf at this
    rw [if_pos hp] at this
    exact Classical.byContradiction fun z => of_decide_eq_false this z
  · have := key (12 + v) (by omega)
    unfold qDf at this
    rw [if_neg (by omega), show 12 + v - 12 = v by omega] at this
    have := of_decide_eq_false this
    exact ⟨Classical.byContradiction fun z => this (Or.inl z), Classical.byContradiction fun z => this (Or.inr z)⟩
theorem FlI_step (hw : Tw T) (J : FlI T G hl σ0 D ch un dn σ) (ho : Tord T = D ++ e :: R) (q3 : ∀ e, e < Tn T → TD T e = true → bt (σ0.2 48) e = true → bt (σ0.2 49) e = false → cons T G σ0 e) (hE : ∀ a, a < 70 → Ldc σ0 10 a = false) (hH : hl = false → ∀ a, a < 70 → Ldc σ0 6 a = false) : ∃ σ' c pm hd, (∀ n, f_flush_117 (n + 1) dn ch un (nI D.length) σ = f_flush_117 n (dn ||| qq1 hd e) (ch ||| qq1 c e) (un ||| qq1 pm e) (nI (D.length + 1)) σ') ∧ FlI T G hl σ0 (D ++ [e]) (ch ||| qq1 c e) (un ||| qq1 pm e) (dn ||| qq1 hd e) σ' := by
  have h30 := hw.n30
  have heo : e ∈ Tord T := by rw [ho]; exact List.mem_append_right _ List.mem_cons_self
  obtain ⟨he, hD⟩ := Tord_is hw heo
  have he30 : e < 30 := by omega
  have heD := D_no hw ho
  obtain ⟨⟨⟨j1, j2, j3, j4⟩, j5, j6, j7⟩, ⟨j8, j9⟩, j10, ⟨j11, j12⟩, j13, j14, j15, j16, j17, j18⟩ := id J
  have hw0 := hw
  have hr40 := j1.2.1.r40
  obtain ⟨c0, u0, d0⟩ := j11 e (by omega) heD
  generalize hpmv : pmv T (ch ||| un) e = pm
  generalize hhad : bt (σ.2 48) e = had
  have e117 : ∀ n, f_flush_117 (n + 1) dn ch un (nI D.length) σ = f_flush_173 (f_flush_117 n) dn ch (nI D.length) (nI e) un (qq1 pm e) σ := fun n => by rw [r_f117 hw j1 j5 ho, hpmv]
  have hrb : bt ((σ.2 49 ||| (σ.2 48 ^^^ (-1))) ||| (un ||| qq1 pm e)) e = (pm || (bt (σ.2 49) e || !had)) := by
    rw [b_or, b_or, b_or, bt_not (by omega), u0, bt_qq1 (by omega) (by omega), hhad, decide_eq_true rfl]
    cases bt (σ.2 49) e <;> cases had <;> cases pm <;> rfl
  have ancD : ∀ y, TB T y e = true → y ∈ D := fun y hy => TB_pre hw ho hy
  have e37 : σ.1 37 = σ0.1 37 := j8.1 37 (by decide)
  have hE' : ∀ a, a < 70 → Ldc σ 10 a = false := fun a ha => by rw [Ldc_cg e37]; exact hE a ha
  have hH' : hl = false → ∀ a, a < 70 → Ldc σ 6 a = false := fun z a ha => by rw [Ldc_cg e37]; exact hH z a ha
  obtain ⟨hok, hbv⟩ := okP_I9 hw j1.2.1 j6 he j10
  by_cases rb : (pm || (bt (σ.2 49) e || !had)) = true
  · obtain ⟨σ1, f1, o1⟩ := r_restyle hw j1 j6 j4 j3 he hD (fun y hy => j10 y (Tsp_n9 hw hy))
    rw [hhad] at f1 o1
    obtain ⟨o1, o2, o3, o4, o5, o6, o7, o8, o9⟩ := o1
    generalize hσ' : sf (sf σ1 48 (σ1.2 48 ||| ((1 : Int32) <<< (nI e &&& 31)))) 52 ((sf σ1 48 (σ1.2 48 ||| ((1 : Int32) <<< (nI e &&& 31)))).2 52 + (1 : Int32)) = σ'
    have s1 : σ'.1 = σ1.1 := by rw [← hσ']; rfl
    have s48 : σ'.2 48 = σ.2 48 ||| ((1 : Int32) <<< (nI e &&& 31)) := by
      rw [← hσ', sf_o (by decide), sf_s, o1.1 48 (by decide)]
    have s52 : σ'.2 52 = σ.2 52 + 1 := by rw [← hσ', sf_s, sf_o (by decide), o1.1 52 (by decide)]
    have so : ∀ f, f ∉ [48, 52, 79] → σ'.2 f = σ.2 f := fun f hf => by
      rw [← hσ', sf_o (fun z => hf (by rw [z]; decide)), sf_o (fun z => hf (by rw [z]; decide)), o1.1 f (fun z => hf (by rw [z]; decide))]
    have hsB : sB fl1L [48, 52, 79] σ σ' := ⟨fun f hf => by rw [s1]; exact o1.2.1 f hf, so⟩
    have hn' : RNw σ' := by
      have := o2
      unfold RNw at this ⊢
      rw [s1, so 54 (by decide), ← o1.1 54 (by decide)]
      exact this
    have hyo : ∀ y, y < 30 → y ≠ e → rY y σ σ' := fun y hy hc => (o1.y hc hy).tr (rY.of (fun f _ => by rw [s1]))
    have h48b : ∀ y, y < 32 → bt (σ'.2 48) y = (bt (σ.2 48) y || decide (y = e)) := fun y hy => by rw [s48, b_or, b_one (by omega) hy]
    obtain ⟨kf1, kf2⟩ := keep_fl (T := T) (G := G) (e := e) hsB (by decide)
    have anc : ∀ y, TB T y e = true → rEq σ σ' y ∧ σ'.1 46 y = σ.1 46 y := fun y hy => (hyo y (by have := (TB_ne hw he hy).1; omega) (TB_ne hw he hy).2).req
    have r0 : Tsp T e ≠ none → σ'.1 43 1 = σ.1 43 1 := fun z => by
      have e0 : e ≠ 0 := fun w => z (by rw [w]; exact Tsp_0 hw)
      exact (hyo 0 (by omega) (fun w => e0 w.symm)).1 1 (by decide)
    obtain ⟨v1, v2⟩ := rI_hit (e := e) hr40 j7 0 false
    obtain ⟨w1, w2⟩ := rI_keep (tr := false) hr40 kf1 kf2 rfl (fun _ => hsz_an0 hw he anc) (fun y hs => (anc y (TB_sp hw he hs).1).1) r0
    have hit' : hitS T G σ' := j7.cg9 (fun f hf => hsB.1 f (by revert f; decide))
    have row : ∀ p, p < 12 → σ'.1 43 (12 * e + p) = qVl σ (rI T G σ 0 e false) p := fun p hp => by rw [s1]; exact o3 p hp
    have vrow : ∀ v, v < 3 → (σ'.1 44 (3 * e + v), σ'.1 45 (3 * e + v)) = qVr σ (rI T G σ 0 e false) v := fun v hv => by rw [s1]; exact o4 v hv
    refine ⟨σ', rsC σ σ1 had e, pm, true, fun n => ?_, FlI_next hw J ho hsB hyo h48b hn' ⟨fun v hv => ?_, fun p hp => ?_⟩ ⟨⟨fun p hp => ?_, fun v hv => ?_⟩, fun hp => ?_⟩ (fun z1 z2 => ?_) hpmv (by rw [s52, if_pos rfl]) (fun p hp => ?_) (fun z => ?_)⟩
    · rw [e117]
      unfold f_flush_173
      rw [r_bit _ (by omega), qqx, hrb, rb, if_neg (by decide), f1, qqx, b2_i0]
      unfold f_flush_217 f_flush_309
      rw [hσ', nI_1]
      cases rsC σ σ1 had e with
      | true => rw [if_pos rfl]; rfl
      | false => rw [if_neg (by decide)]; rfl
    · have := hok v hv
      unfold rPr
      rw [ix0, vrow v hv]; exact this
    · rw [row p hp]; exact hbv p hp
    · rw [row p hp, v2 p hp, w2 p hp]
    · rw [vrow v hv, v1 v, w1 v]
    · have qc : qSize T G σ' 0 e = qSize T G σ1 0 e := qSize_cg (fun f _ => by rw [s1]) (by rw [so 50 (by decide), o1.1 50 (by decide)]) 0 e
      rw [← qSize_hit hr40 hit' 0 e, qc, s1, o6]
      rw [s1] at hp
      rw [if_pos hp]
    · unfold rsC at z1
      rw [Bool.or_eq_false_iff, Bool.or_eq_false_iff] at z1
      have a := qDf_no z1.2
      have b := of_decide_eq_false z1.1.2
      refine ⟨⟨fun p hp => by rw [s1]; exact a.1 p hp, fun v hv => by rw [s1]; exact a.2 v hv⟩, ?_⟩
      rw [s1]
      exact Classical.byContradiction fun z => b z
    · have t := o7 p hp
      rw [s1]
      unfold trR at t
      by_cases c : qDf σ σ1 e p = true
      · rw [if_pos c] at t
        have r10 : σ1.1 43 (12 * e + 10) = 0 := by
          rw [o3 10 (by decide), row_none hr40 he30 (by decide) hE']; rfl
        have nb : qBg σ σ1 had e p = false := by
          unfold qBg
          rw [r10, decide_eq_false (show ¬ (0 : Int32) < 0 by decide), Bool.and_false, Bool.and_false, Bool.and_false]
        rw [t.1, nb, if_neg (by decide)]
      · rw [if_neg c] at t
        rw [t.1]; exact j17 e he p hp
    · rw [row 6 (by decide), row_none hr40 he30 (by decide) (hH' z)]; decide
  · have rbf : (pm || (bt (σ.2 49) e || !had)) = false := Bool.not_eq_true _ |>.mp rb
    obtain ⟨rfl, hm, rfl⟩ : pm = false ∧ bt (σ.2 49) e = false ∧ had = true := by
      revert rbf
      cases pm <;> cases had <;> simp
    have h480 : bt (σ0.2 48) e = true := by
      have := j12 e (by omega)
      rw [hhad, decide_eq_false heD, Bool.or_false] at this
      exact this.symm
    have h490 : bt (σ0.2 49) e = false := by rw [← j8.2 49 (by decide)]; exact hm
    have c0e := q3 e he hD h480 h490
    have unm : ∀ y, TB T y e = true → bt (ch ||| un) y = false := mv_anc hw (mv := bt (ch ||| un)) he ancD (fun y hs => by
      unfold pmv at hpmv
      rw [hs] at hpmv
      exact hpmv) (fun x hx y hs hb => j15 x hx y hs hb)
    have anc0 : ∀ y, TB T y e = true → rEq σ0 σ y ∧ σ.1 46 y = σ0.1 46 y := fun y hy => j14 y (ancD y hy) (unm y hy)
    have own0 : rEq σ0 σ e := (j9 e he30 heD).req.1
    have r00 : Tsp T e ≠ none → σ.1 43 1 = σ0.1 43 1 := fun z => by
      have e0 : e ≠ 0 := fun w => z (by rw [w]; exact Tsp_0 hw)
      exact (anc0 0 (TB_00 hw e he hD e0)).1.1 1 (by decide)
    obtain ⟨kf1, kf2⟩ := keep_fl (T := T) (G := G) (e := e) j8 (by decide)
    have ce : cons T G σ e := cons_keep hr40 ⟨kf1, kf2, rfl, hsz_an0 hw he anc0⟩ own0 (fun y hs => (anc0 y (TB_sp hw he hs).1).1) r00 c0e
    by_cases c6 : σ.1 43 (12 * e + 6) ≤ 0
    · have c7 : ¬ 0 < σ.1 43 (12 * e + 6) := Int32.not_lt.mpr c6
      refine ⟨σ, false, false, false, fun n => ?_, FlI_next hw J ho (sB.rf σ) (fun y _ _ => rY.rf σ) (fun y hy => ?_) j3 (j10 e he) ⟨ce, fun z => absurd z c7⟩ (fun _ _ => ⟨rEq.rf σ e, rfl⟩) hpmv (by rw [if_neg (by decide), Int32.add_zero]) (fun p hp => j17 e he p hp) (fun z => j18 z e he)⟩
      · rw [e117]
        unfold f_flush_173 f_flush_309
        rw [r_bit _ (by omega), qqx, hrb, rbf, if_pos (show b2 false = 0 from rfl), show (12 : Int32) = nI 12 from rfl, show (6 : Int32) = nI 6 from rfl, pk_mul, nI_add, rd_43 (by omega), qqx, if_pos c6, nI_1]
        rw [show ch ||| qq1 false e = ch from or_0 ch, show dn ||| qq1 false e = dn from or_0 dn]
      · by_cases d : y = e
        · rw [d, hhad]; rfl
        · rw [decide_eq_false d, Bool.or_false]
    · have c7 : 0 < σ.1 43 (12 * e + 6) := Int32.not_le.mp c6
      obtain ⟨σ2, e2, a2⟩ := r_sized (ar := 0) hw j1 j6 (by decide) he hD (j10 e he).1
      have e2' : f_sized (nI e) 0 σ = some (qSize T G σ 0 e, σ2) := by
        have := e2
        rw [ix0, if_pos c7] at this
        exact this
      have s2 : ∀ f, f ≠ 79 → σ2.2 f = σ.2 f := a2.2.2.2
      have hy2 : ∀ y, y < 30 → y ≠ e → rY y σ (up σ2 46 e (qSize T G σ 0 e)) := fun y hy hc => (a2.y hy).tr ⟨fun p _ => by rw [up_o (by decide)], fun v _ => by rw [up_o (by decide), up_o (by decide)]; exact ⟨rfl, rfl⟩, up_sn hc, fun p _ => by rw [up_o (by decide), up_o (by decide), up_o (by decide), up_o (by decide), up_o (by decide)]; exact ⟨rfl, rfl, rfl, rfl, rfl⟩, by rw [up_o (by decide)]⟩
      have hsB2 : sB fl1L [48, 52, 79] σ (up σ2 46 e (qSize T G σ 0 e)) := ⟨fun f hf => by
        rw [up_o (fun z => hf (by rw [z]; decide))]
        exact a2.1 f (fun z => hf ((show ∀ f ∈ [43, 44, 45, 78], f ∈ fl1L by decide) f z)), fun f hf => s2 f (fun z => hf (by rw [z]; decide))⟩
      have y2 := a2.y he30
      have y43 : ∀ p, p < 12 → (up σ2 46 e (qSize T G σ 0 e)).1 43 (12 * e + p) = σ.1 43 (12 * e + p) := fun p hp => by rw [up_o (by decide)]; exact y2.1 p hp
      have y45 : ∀ v, v < 3 → (up σ2 46 e (qSize T G σ 0 e)).1 44 (3 * e + v) = σ.1 44 (3 * e + v) ∧ (up σ2 46 e (qSize T G σ 0 e)).1 45 (3 * e + v) = σ.1 45 (3 * e + v) := fun v hv => by rw [up_o (by decide), up_o (by decide)]; exact y2.2.1 v hv
      have own : rEq σ (up σ2 46 e (qSize T G σ 0 e)) e := ⟨y43, y45⟩
      obtain ⟨kg1, kg2⟩ := keep_fl (T := T) (G := G) (e := e) hsB2 (by decide)
      have anc : ∀ y, TB T y e = true → rEq σ (up σ2 46 e (qSize T G σ 0 e)) y ∧ (up σ2 46 e (qSize T G σ 0 e)).1 46 y = σ.1 46 y := fun y hy => (hy2 y (by have := (TB_ne hw he hy).1; omega) (TB_ne hw he hy).2).req
      have r0 : (up σ2 46 e (qSize T G σ 0 e)).1 43 1 = σ.1 43 1 := by
        by_cases z : e = 0
        · have := y43 1 (by decide)
          rw [z] at this ⊢
          exact this
        · exact (hy2 0 (by omega) (fun w => z w.symm)).1 1 (by decide)
      refine ⟨up σ2 46 e (qSize T G σ 0 e), decide (qSize T G σ 0 e ≠ σ.1 46 e), false, false, fun n => ?_, FlI_next hw J ho hsB2 hy2 (fun y hy => ?_) ?_ ⟨fun v hv => ?_, fun p hp => ?_⟩ ⟨cons_keep hr40 ⟨kg1, kg2, rfl, hsz_an0 hw he anc⟩ own (fun y hs => (anc y (TB_sp hw he hs).1).1) (fun _ => r0) ce, fun hp => ?_⟩ (fun z1 _ => ⟨own, ?_⟩) hpmv ?_ (fun p hp => ?_) (fun z => ?_)⟩
      · rw [e117]
        unfold f_flush_173
        rw [r_bit _ (by omega), qqx, hrb, rbf, if_pos (show b2 false = 0 from rfl), show (12 : Int32) = nI 12 from rfl, show (6 : Int32) = nI 6 from rfl, pk_mul, nI_add, rd_43 (by omega), qqx, if_neg c6, e2', qqx, rd_46 (by omega), qqx, y2.2.2.1]
        unfold f_flush_298 f_flush_309
        rw [show dn ||| qq1 false e = dn from or_0 dn]
        by_cases d : qSize T G σ 0 e = σ.1 46 e
        · rw [if_pos d, wr_46 (by omega), qqx, nI_1, decide_eq_false (fun z => z d)]; rfl
        · rw [if_neg d, wr_46 (by omega), qqx, nI_1, decide_eq_true d]; rfl
      · rw [show (up σ2 46 e (qSize T G σ 0 e)).2 48 = σ.2 48 from s2 48 (by decide)]
        by_cases d : y = e
        · rw [d, hhad]; rfl
        · rw [decide_eq_false d, Bool.or_false]
      · obtain ⟨nw, n1, n2, n3, n4⟩ := j3
        refine ⟨nw, n1, by rw [← n2]; exact s2 54 (by decide), ?_, ?_⟩
        · rw [up_o (by decide), a2.1 59 (by decide)]; exact n3
        · rw [up_o (by decide), up_o (by decide), a2.1 55 (by decide), a2.1 56 (by decide)]; exact n4
      · have := (j10 e he).1 v hv
        unfold rPr at this ⊢
        rw [ix0] at this ⊢
        rw [(y45 v hv).1, (y45 v hv).2]; exact this
      · rw [y43 p hp]; exact (j10 e he).2 p hp
      · have cs : szOK T G (up σ 46 e (qSize T G σ 0 e)) e := fun _ => by
          rw [up_ss]
          have : qSize T G (hS T G (up σ 46 e (qSize T G σ 0 e))) 0 e = qSize T G (up σ 46 e (qSize T G σ 0 e)) 0 e := (qSize_hit hr40 (j7.cg9 (fun f hf => up_o (fun z => by rw [z] at hf; revert hf; decide))) 0 e).symm
          rw [this, qSize_46]
        refine size_keep (σ := up σ 46 e (qSize T G σ 0 e)) hw hw he he hr40 (fun _ => Iff.rfl) (fun x _ => ?_) ⟨fun p hp => ?_, fun v hv => ?_⟩ ?_ ?_ cs hp
        · refine keep_fl (L := [79]) ⟨fun f hf => ?_, fun f hf => s2 f (by simpa using hf)⟩ (by decide)
          have f46 : f ≠ 46 := fun z => hf (by rw [z]; decide)
          rw [up_o f46, up_o f46]
          exact a2.1 f (fun z => hf ((show ∀ f ∈ [43, 44, 45, 78], f ∈ fl1L by decide) f z))
        · rw [y43 p hp, up_o (by decide)]
        · rw [(y45 v hv).1, (y45 v hv).2, up_o (by decide), up_o (by decide)]; exact ⟨rfl, rfl⟩
        · rw [up_ss, up_ss]
        · rw [r0, up_o (by decide)]
      · rw [up_ss]
        exact Classical.byContradiction fun z => (of_decide_eq_false z1) z
      · rw [if_neg (by decide), Int32.add_zero]; exact s2 52 (by decide)
      · rw [up_o (by decide), a2.1 55 (by decide)]; exact j17 e he p hp
      · rw [y43 6 (by decide)]; exact j18 z e he
end QQ
