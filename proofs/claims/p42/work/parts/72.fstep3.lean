section FS3
variable {T : qqT} {G : qqG} {L : qqL} {A : kA} {ex : Nat → Nat → Prop} {K K0 : kS} {S : cS} {σ σ0 : mS} {D : List Nat} {ch un dn : Int32} {o9 h9 : Bool}
def pmv (T : qqT) (m : Int32) (e : Nat) : Bool := match Tsp T e with
  | none => false
  | some y => bt m y
theorem Tsp_30 (hw : Tw T) {e y : Nat} (h : Tsp T e = some y) : y < 30 := by
  have := Tsp_n9 hw h
  have := hw.n30
  omega
theorem c_f28 (hw : Tw T) (x : KX T G A ex K σ) (h : KA A ex K S) {e : Nat} (he : e < Tn T) {n : Nat} : f_X11_flush_28 (A 49 0) (n + 1) (some (A 0 e)) S = f_X11_flush_61 (f_X11_flush_28 (A 49 0) n) (A 49 0) (some (A 0 e)) (b2 (pmv T (K.1 49 0 15) e)) S := by
  have t := x.1.2.1
  have p9 := x.1.2.2.1
  have g := x.1.2.2.2.1.sp t h he
  rw [f_X11_flush_28, if_neg (fun z => by cases z), g, qqx]
  unfold pmv f_X11_flush_60
  cases hs : Tsp T e with
  | none => rw [if_pos (show el A none = none from rfl)]; rfl
  | some y =>
    have hy := Tsp_n9 hw hs
    rw [if_neg (fun z => by cases z), p9.I49 h, qqx, qqx, el_some, t.gn h hy, qqx, c_isMember _ (by have := Tsp_30 hw hs; omega), qqx, b2_i0]
    show (if bt (K.1 49 0 15) y = true then f_X11_flush_61 (f_X11_flush_28 (A 49 0) n) (A 49 0) (some (A 0 e)) 1 S else f_X11_flush_61 (f_X11_flush_28 (A 49 0) n) (A 49 0) (some (A 0 e)) 0 S) = f_X11_flush_61 (f_X11_flush_28 (A 49 0) n) (A 49 0) (some (A 0 e)) (b2 (bt (K.1 49 0 15) y)) S
    cases bt (K.1 49 0 15) y <;> rfl
theorem c_f61 (hw : Tw T) (x : KX T G A ex K σ) (h : KA A ex K S) {e : Nat} (he : e < Tn T) {had : Bool} (hk : K.1 6 e 1 = b2 had) (pm : Bool) : ∃ S1, KA A ex (kwI K 6 e 4 0) S1 ∧ ∀ k28 : Option Nat → cS → Option cS, f_X11_flush_61 k28 (A 49 0) (some (A 0 e)) (b2 pm) S = if (pm || (bt (K.1 49 0 10) e || !had)) = true then f_X11_flush_98 k28 (A 49 0) (some (A 0 e)) (b2 pm) S1 else f_X11_flush_106 k28 (A 49 0) (some (A 0 e)) (b2 pm) S1 := by
  have h30 := hw.n30
  have t := x.1.2.1
  have p9 := x.1.2.2.1
  have x6 : ex 6 e := t.E he (by decide)
  obtain ⟨S1, e1, h1⟩ := h.PI (k := 6) (i := e) (t := 9) (j := 4) x6 rfl (by decide) (0 : Int32)
  have b1 : kB qOI qOR K (kwI K 6 e 4 0) := (kB.rf K).I (show qOI 6 e 4 by unfold qOI; omega)
  have t1 := t.va b1
  have p1 := p9.va b1
  refine ⟨S1, h1, fun k28 => ?_⟩
  unfold f_X11_flush_61
  rw [t.g19 h he, qqx, e1, qqx, b2_i0]
  cases pm with
  | true => rw [if_pos rfl, if_pos (by rfl)]
  | false =>
    rw [if_neg (by decide), p1.I49 h1, qqx, kwI_k (by decide), t1.gn h1 he, qqx, c_isMember _ (by omega), qqx, b2_i0]
    cases bt (K.1 49 0 10) e with
    | true => rw [if_pos rfl, if_pos (by rfl)]
    | false =>
      rw [if_neg (by decide), t1.g19 h1 he, qqx, h1.I 6 9 x6 rfl, qqx, kwI_j (by decide), hk, b2_i0]
      cases had with
      | true => rw [if_pos rfl, if_neg (by decide)]
      | false => rw [if_neg (by decide), if_pos (by rfl)]
theorem b2_sh (b : Bool) (e : Nat) : (if b = true then (1 : Int32) <<< (nI e &&& 31) else 0) = qq1 b e := rfl
theorem bt_qq1 {b : Bool} {e i : Nat} (he : e < 32) (hi : i < 32) : bt (qq1 b e) i = (b && decide (i = e)) := by
  unfold qq1
  cases b with
  | false => rw [if_neg (by decide), b_0, Bool.false_and]
  | true => rw [if_pos rfl, b_one he hi, Bool.true_and]
theorem r_f117 (hw : Tw T) (rs : RS T G σ) (hrow : rowS 75 76 σ (Tord T)) {e : Nat} {R : List Nat} (ho : Tord T = D ++ e :: R) {n : Nat} : f_flush_117 (n + 1) dn ch un (nI D.length) σ = f_flush_173 (f_flush_117 n) dn ch (nI D.length) (nI e) un (qq1 (pmv T (ch ||| un) e) e) σ := by
  have h30 := hw.n30
  have heo : e ∈ Tord T := by rw [ho]; exact List.mem_append_right _ List.mem_cons_self
  obtain ⟨he, hD⟩ := Tord_is hw heo
  have hlen := Tord_len hw
  have hl : (Tord T).length = D.length + (R.length + 1) := by rw [ho, List.length_append]; rfl
  have hget : (Tord T)[D.length]? = some e := by rw [ho, List.getElem?_append_right (Nat.le_refl _)]; simp
  rw [f_flush_117, hrow.1, if_neg (nI_ge (by omega) (by omega)), rd_75 (by omega), qqx, hrow.2 _ _ hget, rs.sp hw he, qqx]
  unfold pmv f_flush_172
  cases hs : Tsp T e with
  | none => rw [if_pos (show qqO none < 0 from (show (-1 : Int32) < 0 by decide))]; rfl
  | some y =>
    have hy := Tsp_30 hw hs
    rw [if_neg (show ¬ qqO (some y) < 0 from nI_pos (by omega)), qqx, qqO_some, r_bit _ (by omega), qqx, b2_i0]
    show (if bt (ch ||| un) y = true then _ else _) = f_flush_173 (f_flush_117 n) dn ch (nI D.length) (nI e) un (qq1 (bt (ch ||| un) y) e) σ
    cases bt (ch ||| un) y with
    | true => rw [if_pos rfl]; rfl
    | false => rw [if_neg (by decide)]; rfl
theorem okP_I (hw : Tw T) (hc : RC T G σ) (hd : RDv T G σ) {e : Nat} (he : e < Tn T) (r : ∀ y, y < Tn T → eRl K σ y) : qiOK σ (rI T G σ 0 e false) ∧ (∀ v, v < 3 → okP (qVr σ (rI T G σ 0 e false) v)) ∧ ∀ p, p < 12 → bV (qVl σ (rI T G σ 0 e false) p) := by
  have hq : qiOK σ (rI T G σ 0 e false) := rI_ok hw hc hd false he (fun y hy v hv => by
    have := ((vEqv_w.mp (r y (Tsp_n9 hw hy)).1).1.2 v hv).1
    unfold rPr
    rw [ix0]
    exact this)
  refine ⟨hq, fun v hv => qVar_ok hq.v hq.2 hv, fun p hp => qVl_b hq (fun f hf q hq2 => ?_) hp⟩
  rw [rI_P] at hf
  cases hs : Tsp T e with
  | none => rw [hs] at hf; cases hf
  | some y =>
    rw [hs] at hf
    cases hf
    show bV (σ.1 43 (12 * (30 * 0 + y) + q))
    rw [ix0]
    exact (r y (Tsp_n9 hw hs)).2.2.2.2.1 q hq2
theorem moved_eq {T : qqT} {G : qqG} {L : qqL} {K K2 : kS} {σ σ1 : mS} {e : Nat} {had : Bool} (r : eRl K σ e) (hhad : bt (σ.2 48) e = had) (o : rsO T G L σ σ1 had e) (hok : ∀ v, v < 3 → okP (qVr σ (rI T G σ 0 e false) v)) (h4 : ∀ q, q < 32 → bt (K2.1 6 e 4) q = (decide (q < 15) && (had && decide (K.1 7 e q ≠ qTl σ (rI T G σ 0 e false) q)))) : ((!had || decide (K2.1 6 e 4 ≠ 0)) || (decide (0 < σ1.1 43 (12 * e + 6)) && decide (qSize T G σ1 0 e ≠ K.1 6 e 2))) = rsC σ σ1 had e := by
  unfold rsC
  cases had with
  | false => rfl
  | true =>
    rw [show (!true) = false from rfl, Bool.false_or, Bool.false_or]
    have hw := vEqv_w.mp r.1
    have df : ∀ q, q < 15 → decide (K.1 7 e q ≠ qTl σ (rI T G σ 0 e false) q) = qDf σ σ1 e q := fun q hq => qDf_tl (had := true) (Or.inr trivial) hw.1 hq o.2.2.1 o.2.2.2.1 hok
    have ch : decide (K2.1 6 e 4 ≠ 0) = qAny (qDf σ σ1 e) 15 := by
      cases hq : qAny (qDf σ σ1 e) 15 with
      | true =>
        obtain ⟨i, hi, hd⟩ := qAny_is.mp hq
        refine decide_eq_true (fun z => ?_)
        have := h4 i (by omega)
        rw [z, b_0, decide_eq_true hi, df i hi, hd] at this
        cases this
      | false =>
        refine decide_eq_false (fun z => z ?_)
        apply b_ext
        intro i hi
        rw [h4 i hi, b_0]
        by_cases c : i < 15
        · rw [df i c]
          cases hd : qDf σ σ1 e i with
          | true => rw [qAny_is.mpr ⟨i, c, hd⟩] at hq; cases hq
          | false => simp
        · rw [decide_eq_false c]; rfl
    rw [ch]
    cases hq : qAny (qDf σ σ1 e) 15 with
    | true => rw [Bool.true_or, Bool.or_true]
    | false =>
      rw [Bool.false_or, Bool.or_false]
      have same : σ1.1 43 (12 * e + 6) = σ.1 43 (12 * e + 6) := by
        have : qDf σ σ1 e 6 = false := Bool.eq_false_iff.mpr (fun z => by rw [qAny_is.mpr ⟨6, by decide, z⟩] at hq; cases hq)
        unfold qDf at this
        rw [if_pos (by decide)] at this
        exact Decidable.not_not.mp (fun z => by rw [decide_eq_true z] at this; cases this)
      rw [o.2.2.2.2.2.1]
      by_cases c : 0 < σ1.1 43 (12 * e + 6)
      · rw [decide_eq_true c, Bool.true_and, if_pos c, hw.2 (by rw [← same]; exact c)]
      · rw [decide_eq_false c, Bool.false_and, if_neg c]
        refine (decide_eq_false (fun z => z ?_)).symm
        exact ((r.2.2.2.1 hhad).2 (by rw [← same]; exact c)).symm
set_option maxRecDepth 20000 in
set_option maxHeartbeats 1000000 in
theorem F_step (hw : Tw T) (h : KA A ex K S) (J : FJ T G L A ex o9 h9 σ0 K0 D ch un dn K σ) {e : Nat} {R : List Nat} (ho : Tord T = D ++ e :: R) : ∃ σ' S' K' ch' un' dn', (∀ n, f_flush_117 (n + 1) dn ch un (nI D.length) σ = f_flush_117 n dn' ch' un' (nI (D.length + 1)) σ') ∧ (∀ n, f_X11_flush_28 (A 49 0) (n + 1) (some (A 0 e)) S = f_X11_flush_28 (A 49 0) n (el A R.head?) S') ∧ KA A ex K' S' ∧ FJ T G L A ex o9 h9 σ0 K0 (D ++ [e]) ch' un' dn' K' σ' := by
  have h30 := hw.n30
  have heo : e ∈ Tord T := by rw [ho]; exact List.mem_append_right _ List.mem_cons_self
  obtain ⟨he, hD⟩ := Tord_is hw heo
  have he30 : e < 30 := by omega
  have hnd := Tord_nodup hw
  rw [ho] at hnd
  have heD : e ∉ D := fun z => (List.nodup_append.mp hnd).2.2 e z e List.mem_cons_self rfl
  obtain ⟨⟨j1, j2, j3, j4⟩, ⟨j5, j6, j7, j8, j9⟩, ⟨j10, j11, j12⟩, j13, j14, j15, ⟨j16, j17, j18⟩, ⟨j19, j20⟩, j21, ⟨j22, j23⟩, ⟨j24, j25⟩, ⟨j26, j27⟩⟩ := id J
  have t := j1.1.2.1
  have p9 := j1.1.2.2.1
  have l := j1.1.2.2.2.1
  have hd := j1.2.2.2
  have re := j13 e he
  obtain ⟨hqi, hok, hbv⟩ := okP_I hw j1.1.1 hd he j13
  have cs : chS K e R := l.at hw ho
  obtain ⟨c0, u0, d0⟩ := j17 e (by omega) heD
  have hm0 : bt (K.1 49 0 15) e = false := by rw [j16 e (by omega), b_or, c0, u0]; rfl
  have hpm : pmv T (K.1 49 0 15) e = pmv T (ch ||| un) e := by
    unfold pmv
    cases hs : Tsp T e with
    | none => rfl
    | some y => exact j16 y (by have := Tsp_30 hw hs; omega)
  generalize hpmv : pmv T (ch ||| un) e = pm at hpm
  generalize hhad : bt (σ.2 48) e = had
  have hk1 : K.1 6 e 1 = b2 had := by rw [re.2.2.2.2.2, hhad]
  obtain ⟨S1, h1, e61⟩ := c_f61 hw j1 h he hk1 pm
  have e28 : ∀ n, f_X11_flush_28 (A 49 0) (n + 1) (some (A 0 e)) S = f_X11_flush_61 (f_X11_flush_28 (A 49 0) n) (A 49 0) (some (A 0 e)) (b2 pm) S := fun n => by rw [c_f28 hw j1 h he, hpm]
  have e117 : ∀ n, f_flush_117 (n + 1) dn ch un (nI D.length) σ = f_flush_173 (f_flush_117 n) dn ch (nI D.length) (nI e) un (qq1 pm e) σ := fun n => by rw [r_f117 hw j5 j9 ho, hpmv]
  have hrb : bt ((σ.2 49 ||| (σ.2 48 ^^^ (-1))) ||| (un ||| qq1 pm e)) e = (pm || (bt (K.1 49 0 10) e || !had)) := by
    rw [b_or, b_or, b_or, bt_not (by omega), u0, bt_qq1 (by omega) (by omega), hhad, j15 e he hD, decide_eq_true rfl]
    cases bt (σ.2 49) e <;> cases had <;> cases pm <;> rfl
  generalize hK1 : kwI K 6 e 4 0 = K1 at h1
  have b1 : kB FXI FXR K K1 := by rw [← hK1]; exact (kB.rf K).I (show FXI 6 e 4 from Or.inl ⟨by decide, by decide⟩)
  have r1 : ∀ k i j, (k ≠ 6 ∨ i ≠ e ∨ j ≠ 4) → K1.1 k i j = K.1 k i j := fun k i j hk => by
    rw [← hK1, kwI_1, if_neg (by omega)]
  have q1 : K1.1 6 e 4 = 0 := by rw [← hK1, kwI_s]
  have x1 : KX T G A ex K1 σ := j1.va b1.fxq
  have r1e : ∀ y, y < Tn T → eRl K1 σ y := fun y hy => (j13 y hy).cg (rY.rf σ) rfl (fun k j h1 h2 h3 => r1 k y j (by by_cases c : k = 6; exact Or.inr (Or.inr (h3 c)); exact Or.inl c))
  have anc1 : kAnc T K1 σ false e := fun y hy => (r1e y (TB_ne hw he hy).1).1
  by_cases rb : (pm || (bt (K.1 49 0 10) e || !had)) = true
  · -- it is restyled
    obtain ⟨σ1, f1, o1⟩ := r_restyle hw j5 hd j8 j7 he hD (fun y hy => by
      have := j13 y (Tsp_n9 hw hy)
      refine ⟨fun v hv => ?_, this.2.2.2.2.1⟩
      unfold rPr
      rw [ix0]
      exact ((vEqv_w.mp this.1).1.2 v hv).1)
    rw [hhad] at f1 o1
    obtain ⟨S2, K2, e2, h2, o2⟩ := c_restyle (G := G) hw h1 x1 (j3.keep b1 (fun i j => by unfold FXI; omega)) (j4.keep b1 (fun i j h1 h2 => by unfold FXI; omega)) j6 j7 (by rw [r1 49 0 6 (by omega)]; exact j10) he hD (had := had) (by rw [r1 6 e 1 (by omega)]; exact hk1) q1 (r1e e he).1 (r1e e he).2.1 (r1e e he).2.2.1 (fun z => ((r1e e he).2.2.2.1 (by rw [hhad]; exact z)).1) anc1 (hbv 10 (by decide)) (o9 := o9) (h9 := h9) (by rw [r1 58 0 11 (by omega)]; exact j11) (by rw [r1 58 0 12 (by omega)]; exact j12)
    obtain ⟨w1, w2, w3, w4, w5, w6, w7, w8, w9, w10, w11⟩ := o2
    have b2x : kB FXI FXR K1 K2 := w1.wd (fun _ _ _ z => RIc_fx z) (fun _ _ _ z => RRc_fx z)
    have kk7 : ∀ q, K1.1 7 e q = K.1 7 e q := fun q => r1 7 e q (by omega)
    have kk14 : K1.1 49 0 14 = dn := by rw [r1 49 0 14 (by omega)]; exact j18
    generalize hσ' : sf (sf σ1 48 (σ1.2 48 ||| ((1 : Int32) <<< (nI e &&& 31)))) 52 ((sf σ1 48 (σ1.2 48 ||| ((1 : Int32) <<< (nI e &&& 31)))).2 52 + (1 : Int32)) = σ'
    have s1 : σ'.1 = σ1.1 := by rw [← hσ']; rfl
    have s48 : σ'.2 48 = σ.2 48 ||| ((1 : Int32) <<< (nI e &&& 31)) := by
      rw [← hσ', sf_o (by decide), sf_s, o1.1.1 48 (by decide)]
    have s52 : σ'.2 52 = σ.2 52 + 1 := by rw [← hσ', sf_s, sf_o (by decide), o1.1.1 52 (by decide)]
    have so : ∀ f, f ∉ [48, 52, 79] → σ'.2 f = σ.2 f := fun f hf => by
      rw [← hσ', sf_o (fun z => hf (by rw [z]; decide)), sf_o (fun z => hf (by rw [z]; decide)), o1.1.1 f (fun z => hf (by rw [z]; decide))]
    have hsB : sB [43, 44, 45, 46, 47, 55, 56, 57, 58, 59, 69, 78, 82, 83, 84] [48, 52, 79] σ σ' := ⟨fun f hf => by rw [s1]; exact o1.1.2.1 f hf, so⟩
    have hn' : RNw σ' := by
      have := o1.2.1
      unfold RNw at this ⊢
      rw [s1, so 54 (by decide), ← o1.1.1 54 (by decide)]
      exact this
    have hyo : ∀ y, y < 30 → y ≠ e → rY y σ σ' := fun y hy hc => (o1.1.y hc hy).tr (rY.of (fun f _ => by rw [s1]))
    have h48b : ∀ y, y < 32 → bt (σ'.2 48) y = (bt (σ.2 48) y || decide (y = e)) := fun y hy => by rw [s48, b_or, b_one (by omega) hy]
    have qc : qSize T G σ' 0 e = qSize T G σ1 0 e := qSize_cg (fun f _ => by rw [s1]) (by rw [so 50 (by decide), o1.1.1 50 (by decide)]) 0 e
    have K2y : ∀ y, y ≠ e → ∀ k j, 6 ≤ k → k ≤ 10 → K2.1 k y j = K.1 k y j := fun y hy k j h1 h2 => by
      rw [w1.1 k y j (by unfold RIc AIe FI; omega), r1 k y j (by omega)]
    have x2 : KX T G A ex K2 σ' := (x1.va b2x.fxq).cg (fun f hf => hsB.1 f (by revert f; decide)) (fun f hf => so f (by revert f; decide))
    have r2y : ∀ y, y < Tn T → y ≠ e → eRl K2 σ' y := fun y hy hc => (j13 y hy).cg (hyo y (by omega) hc) (by rw [h48b y (by omega), decide_eq_false hc, Bool.or_false]) (fun k j h1 h2 _ => K2y y hc k j h1 h2)
    have anc2 : kAnc T K2 σ' false e := fun y hy => (r2y y (TB_ne hw he hy).1 (TB_ne hw he hy).2).1
    have tl : ∀ q, q < 12 → qTl σ (rI T G σ 0 e false) q = σ'.1 43 (12 * e + q) := fun q hq => by unfold qTl; rw [if_pos hq, s1, o1.2.2.1 q hq]
    have ve2 : vEqw K2 σ' e := by
      refine ⟨fun p hp => by rw [w2 p (by omega), tl p hp], fun v hv => ?_⟩
      rw [s1, o1.2.2.2.1 v hv]
      refine ⟨hok v hv, ?_⟩
      rw [w2 (12 + v) (by omega)]
      unfold qTl
      rw [if_neg (by omega), show 12 + v - 12 = v by omega]
    have cs2 : chS K2 e R := chS_fx (chS_fx cs b1) b2x
    obtain ⟨S3, K3, e3, h3, b3, z3, m3⟩ := c_f106 (σ := σ') (G := G) hw x2 h2 he hD ve2 anc2 cs2 (pm || (!had || decide (K2.1 6 e 4 ≠ 0)))
    have hmove := moved_eq (K2 := K2) (G := G) (T := T) (L := L) (σ1 := σ1) re hhad o1 hok (fun q hq => by rw [w6 q hq, kk7])
    have b3x : kB FXI FXR K2 K3 := b3.wd (fun k i j z => z.elim RZI_fx (fun z => by unfold FXI; omega)) (fun _ _ _ z => ZR_fx z)
    have r3 : ∀ k j, 6 ≤ k → k ≤ 10 → (k = 6 → j ≠ 2) → K3.1 k e j = K2.1 k e j := fun k j h1 h2 h3 => b3.1 k e j (by unfold RZI ZI FI; omega)
    have b15 : K2.1 49 0 15 = K.1 49 0 15 := by rw [w1.1 49 0 15 (by unfold RIc AIe FI; omega), r1 49 0 15 (by omega)]
    have m3' : K3.1 49 0 15 = K.1 49 0 15 ||| qq1 (pm || rsC σ σ1 had e) e := by
      rw [m3, b15, qc, w5, r1 6 e 2 (by omega), s1, Bool.or_assoc, hmove]
      unfold qq1
      cases (pm || rsC σ σ1 had e) with
      | true => rw [if_pos rfl, if_pos rfl]
      | false => rw [if_neg (by decide), if_neg (by decide), or_0]
    have efr : eRl K3 σ' e := by
      refine eRl_new (K' := K3) he30 hhad re j7 (o1.v.cg s1 (by rw [so 50 (by decide), o1.1.1 50 (by decide)])) hok (fun p hp => by rw [← tl p hp]; unfold qTl; rw [if_pos hp]; exact hbv p hp) (fun z => j21 e he heD (by rw [hhad]; exact z) hD) (fun p hp => ?_) (fun p hp => ?_) ?_ ?_ (fun p hp => ?_) (fun z => ?_) ?_ (fun z p hp => j14 e he (by rw [hhad]; exact z) p hp)
      · rw [r3 7 p (by decide) (by decide) (by omega)]; exact w2 p hp
      · rw [r3 6 3 (by decide) (by decide) (by decide)]; exact w3 p hp
      · rw [r3 6 1 (by decide) (by decide) (by decide)]; exact w4
      · rw [r3 6 8 (by decide) (by decide) (by decide), w7, kk7, r1 6 e 8 (by omega)]
      · have := w8 p hp
        rw [kk7, r1 8 e p (by omega), r1 9 e p (by omega), r1 10 e p (by omega)] at this
        by_cases c : (had && decide (K.1 7 e p ≠ qTl σ (rI T G σ 0 e false) p)) = true
        · rw [if_pos c] at this ⊢
          exact this.cg (r3 8 p (by decide) (by decide) (by omega)) (r3 9 p (by decide) (by decide) (by omega)) (r3 10 p (by decide) (by decide) (by omega))
        · rw [if_neg c] at this ⊢
          rw [r3 8 p (by decide) (by decide) (by omega), r3 9 p (by decide) (by decide) (by omega), r3 10 p (by decide) (by decide) (by omega)]
          exact this
      · rw [z3, if_pos z]
      · rw [h48b e (by omega), decide_eq_true rfl, Bool.or_true]
    have d14 : K3.1 49 0 14 = dn ||| ((1 : Int32) <<< (nI e &&& 31)) := by rw [b3.1 49 0 14 (by unfold RZI ZI FI; omega), w11, kk14]
    refine ⟨σ', S3, K3, ch ||| qq1 (rsC σ σ1 had e) e, un ||| qq1 pm e, dn ||| ((1 : Int32) <<< (nI e &&& 31)), fun n => ?_, fun n => ?_, h3, FJ_next hw J ho hsB hyo h48b ((b1.tr b2x).tr b3x) (fun y hy k j h1 h2 => by rw [b3.1 k y j (by unfold RZI ZI FI; omega)]; exact K2y y hy k j h1 h2) hn' efr (fun y hy => ?_) (fun y hy hc => ?_) d14 (fun k hk => ?_) ?_ ?_⟩
    · rw [e117]
      unfold f_flush_173
      rw [r_bit _ (by omega), qqx, hrb, rb, if_neg (by decide), f1, qqx, b2_i0]
      unfold f_flush_217 f_flush_309
      rw [hσ', nI_1]
      cases rsC σ σ1 had e with
      | true => rw [if_pos rfl]; rfl
      | false => rw [if_neg (by decide)]; rfl
    · rw [e28, e61, rb, if_pos rfl]
      unfold f_X11_flush_98
      rw [x1.1.2.2.1.r11 h1, qqx, e2, qqx, or_b2, Bool.or_comm]
      exact e3 _
    · rw [m3', b_or, b_or, b_or, b_or, j16 y hy, b_or, bt_qq1 (by omega) hy, bt_qq1 (by omega) hy, bt_qq1 (by omega) hy]
      cases bt ch y <;> cases bt un y <;> cases rsC σ σ1 had e <;> cases pm <;> cases decide (y = e) <;> rfl
    · rw [b_or, b_or, b_or, bt_qq1 (by omega) hy, bt_qq1 (by omega) hy, b_one (by omega) hy, decide_eq_false hc]
      simp only [Bool.and_false, Bool.or_false]
      exact ⟨trivial, trivial, trivial⟩
    · rw [s1, o1.2.2.2.2.2.2.2.2 k hk]
      unfold lxU
      by_cases c : (L.2 k).1 = e
      · have hp := (j8.2.2 k hk).2.1.2
        have hpr : (L.2 k).2.1 < 15 := hp
        rw [if_pos c, decide_eq_true c, Bool.true_and, r3 6 4 (by decide) (by decide) (by decide), w6 _ (by omega), decide_eq_true hpr, Bool.true_and, kk7, qDf_tl (had := had) (Or.inr trivial) (vEqv_w.mp re.1).1 hpr o1.2.2.1 o1.2.2.2.1 hok, j22 k hk, c, if_neg heD]
        rfl
      · rw [if_neg c, decide_eq_false c, Bool.false_and, if_neg (by decide)]
    · rw [b3.1 49 0 12 (by unfold RZI ZI FI; omega), w9, r1 49 0 12 (by omega), j24, s52]
    · rw [b3.1 49 0 13 (by unfold RZI ZI FI; omega), w10, r1 49 0 13 (by omega), kk14]
      have hsame : lkP T σ o9 h9 dn e = shT T σ0 o9 h9 (dn ||| ((1 : Int32) <<< (nI e &&& 31))) e := by
        unfold shT
        rw [b_or, b_one (by omega) (by omega), decide_eq_true rfl, Bool.or_true, Bool.true_and, ← shT_cg (σ := σ0) (σ' := σ) (fun f hf => j26.1.1 f (by revert f; decide))]
        unfold lkP
        cases hp : Tpv T e with
        | none => rfl
        | some f =>
          have hfe : f ≠ e := fun z => by
            have := (Tpv_some hw hp).2.2.2.2
            rw [z] at this
            omega
          have hf30 : f < 32 := by have := Tpv_lt hw he hp; omega
          show (bt dn f && _) = (bt (dn ||| ((1 : Int32) <<< (nI e &&& 31))) f && _)
          rw [b_or, b_one (by omega) hf30, decide_eq_false hfe, Bool.or_false]
      rw [hsame]
  · -- it is not
    have rbf : (pm || (bt (K.1 49 0 10) e || !had)) = false := Bool.not_eq_true _ |>.mp rb
    obtain ⟨rfl, hh⟩ : pm = false ∧ had = true := by
      revert rbf
      cases pm <;> cases had <;> simp
    subst hh
    have ve1 : vEqw K1 σ e := (vEqv_w.mp (r1e e he).1).1
    have cs1 : chS K1 e R := chS_fx cs b1
    obtain ⟨S3, K3, e3, h3, b3, z3, m3⟩ := c_f106 (σ := σ) (G := G) hw x1 h1 he hD ve1 anc1 cs1 false
    have b3x : kB FXI FXR K1 K3 := b3.wd (fun k i j z => z.elim RZI_fx (fun z => by unfold FXI; omega)) (fun _ _ _ z => ZR_fx z)
    have r3 : ∀ k j, 6 ≤ k → k ≤ 10 → (k = 6 → j ≠ 2 ∧ j ≠ 4) → K3.1 k e j = K.1 k e j := fun k j h1 h2 h3 => by rw [b3.1 k e j (by unfold RZI ZI FI; omega), r1 k e j (by omega)]
    have K3y : ∀ y, y ≠ e → ∀ k j, 6 ≤ k → k ≤ 10 → K3.1 k y j = K.1 k y j := fun y hy k j h1 h2 => by rw [b3.1 k y j (by unfold RZI ZI FI; omega), r1 k y j (by omega)]
    have q34 : K3.1 6 e 4 = 0 := by rw [b3.1 6 e 4 (by unfold RZI ZI FI; omega), q1]
    have s14 : K3.1 49 0 14 = dn := by rw [b3.1 49 0 14 (by unfold RZI ZI FI; omega), r1 49 0 14 (by omega)]; exact j18
    rw [r1 6 e 2 (by omega), r1 49 0 15 (by omega), Bool.false_or] at m3
    rw [r1 6 e 2 (by omega)] at z3
    have hsh0 : shT T σ0 o9 h9 dn e = false := by unfold shT; rw [d0]; rfl
    have key : ∃ σ' c, (∀ k117 : Int32 → Int32 → Int32 → Int32 → mS → Option mS, f_flush_173 k117 dn ch (nI D.length) (nI e) un (qq1 false e) σ = k117 dn (ch ||| qq1 c e) (un ||| qq1 false e) (nI (D.length + 1)) σ') ∧ sB [43, 44, 45, 46, 47, 55, 56, 57, 58, 59, 69, 78, 82, 83, 84] [48, 52, 79] σ σ' ∧ σ'.2 48 = σ.2 48 ∧ σ'.2 52 = σ.2 52 ∧ (∀ y, y < 30 → y ≠ e → rY y σ σ') ∧ RNw σ' ∧ eRl K3 σ' e ∧ σ'.1 69 = σ.1 69 ∧ c = (decide (0 < σ.1 43 (12 * e + 6)) && decide (qSize T G σ 0 e ≠ K.1 6 e 2)) := by
      by_cases c6 : σ.1 43 (12 * e + 6) ≤ 0
      · have c7 : ¬ 0 < σ.1 43 (12 * e + 6) := Int32.not_lt.mpr c6
        rw [if_neg c7] at z3
        refine ⟨σ, false, fun k117 => ?_, sB.rf σ, rfl, rfl, fun y _ _ => rY.rf σ, j7, re.cg (rY.rf σ) rfl (fun k j h1 h2 h3 => ?_), rfl, by rw [decide_eq_false c7]; rfl⟩
        · unfold f_flush_173 f_flush_309
          rw [r_bit _ (by omega), qqx, hrb, rbf, if_pos (show b2 false = 0 from rfl), show (12 : Int32) = nI 12 from rfl, show (6 : Int32) = nI 6 from rfl, pk_mul, nI_add, rd_43 (by omega), qqx, if_pos c6, nI_1]
          rw [show ch ||| qq1 false e = ch from or_0 ch]
        · by_cases d : j = 2 ∧ k = 6
          · rw [d.1, d.2, z3]
          · exact r3 k j h1 h2 (fun z => ⟨fun w => d ⟨w, z⟩, h3 z⟩)
      · have c7 : 0 < σ.1 43 (12 * e + 6) := Int32.not_le.mp c6
        rw [if_pos c7] at z3
        obtain ⟨σ2, e2, a2⟩ := r_sized (ar := 0) hw j5 hd (by decide) he hD (fun v hv => by unfold rPr; rw [ix0]; exact (ve1.2 v hv).1)
        have e2' : f_sized (nI e) 0 σ = some (qSize T G σ 0 e, σ2) := by
          have := e2
          rw [ix0, if_pos c7] at this
          exact this
        have s2 : ∀ f, f ≠ 79 → σ2.2 f = σ.2 f := a2.2.2.2
        have hy2 : ∀ y, y < 30 → y ≠ e → rY y σ (up σ2 46 e (qSize T G σ 0 e)) := fun y hy hc => (a2.y hy).tr ⟨fun p _ => by rw [up_o (by decide)], fun v _ => by rw [up_o (by decide), up_o (by decide)]; exact ⟨rfl, rfl⟩, up_sn hc, fun p _ => by rw [up_o (by decide), up_o (by decide), up_o (by decide), up_o (by decide), up_o (by decide)]; exact ⟨rfl, rfl, rfl, rfl, rfl⟩, by rw [up_o (by decide)]⟩
        have hsB2 : sB [43, 44, 45, 46, 47, 55, 56, 57, 58, 59, 69, 78, 82, 83, 84] [48, 52, 79] σ (up σ2 46 e (qSize T G σ 0 e)) := ⟨fun f hf => by
          rw [up_o (fun z => hf (by rw [z]; decide))]
          exact a2.1 f (fun z => hf ((show ∀ f ∈ [43, 44, 45, 78], f ∈ [43, 44, 45, 46, 47, 55, 56, 57, 58, 59, 69, 78, 82, 83, 84] by decide) f z)), fun f hf => s2 f (fun z => hf (by rw [z]; decide))⟩
        have y2 := a2.y he30
        refine ⟨up σ2 46 e (qSize T G σ 0 e), decide (qSize T G σ 0 e ≠ K.1 6 e 2), fun k117 => ?_, hsB2, s2 48 (by decide), s2 52 (by decide), hy2, ?_, ?_, ?_, by rw [decide_eq_true c7, Bool.true_and]⟩
        · unfold f_flush_173
          rw [r_bit _ (by omega), qqx, hrb, rbf, if_pos (show b2 false = 0 from rfl), show (12 : Int32) = nI 12 from rfl, show (6 : Int32) = nI 6 from rfl, pk_mul, nI_add, rd_43 (by omega), qqx, if_neg c6, e2', qqx, rd_46 (by omega), qqx, y2.2.2.1, ← (vEqv_w.mp re.1).2 c7]
          unfold f_flush_298 f_flush_309
          by_cases d : qSize T G σ 0 e = K.1 6 e 2
          · rw [if_pos d, wr_46 (by omega), qqx, nI_1, decide_eq_false (fun z => z d)]; rfl
          · rw [if_neg d, wr_46 (by omega), qqx, nI_1, decide_eq_true d]; rfl
        · obtain ⟨nw, n1, n2, n3, n4⟩ := j7
          refine ⟨nw, n1, by rw [← n2]; exact s2 54 (by decide), ?_, ?_⟩
          · rw [up_o (by decide), a2.1 59 (by decide)]; exact n3
          · rw [up_o (by decide), up_o (by decide), a2.1 55 (by decide), a2.1 56 (by decide)]; exact n4
        · -- only the size is another one
          have r2 := re.cg (K' := K3) (σ' := up (up σ2 46 e (qSize T G σ 0 e)) 46 e (σ.1 46 e)) (y := e) (σ := σ)
          obtain ⟨q1', q2', q3', q4', q5'⟩ := y2
          obtain ⟨p1, p2, p3, p4, p5, p6⟩ := re
          have p1 := vEqv_w.mp p1
          have o46 : ∀ f, f ≠ 46 → (up σ2 46 e (qSize T G σ 0 e)).1 f = σ2.1 f := fun f hf => up_o hf
          refine ⟨vEqv_w.mpr ⟨⟨fun p hp => ?_, fun v hv => ?_⟩, fun _ => by rw [z3, up_ss]⟩, fun p hp => ?_, fun p hp => ?_, fun z => ⟨fun k hk => ?_, fun z2 => ?_⟩, fun p hp => ?_, ?_⟩
          · rw [r3 7 p (by decide) (by decide) (by omega), o46 43 (by decide), q1' p hp]; exact p1.1.1 p hp
          · rw [r3 7 _ (by decide) (by decide) (by omega), o46 44 (by decide), o46 45 (by decide), (q2' v hv).1, (q2' v hv).2]; exact p1.1.2 v hv
          · obtain ⟨a1, a2, a3, a4, a5⟩ := q4' p hp
            unfold tEq
            rw [r3 8 p (by decide) (by decide) (by omega), r3 9 p (by decide) (by decide) (by omega), r3 10 p (by decide) (by decide) (by omega), o46 55 (by decide), o46 56 (by decide), o46 57 (by decide), o46 58 (by decide), o46 43 (by decide), a2, a3, a4, a5, q1' p (by omega)]
            exact p2 p hp
          · rw [r3 6 3 (by decide) (by decide) (by omega), o46 47 (by decide), (q4' p hp).1]; exact p3 p hp
          · rw [r3 6 8 (by decide) (by decide) (by omega), o46 59 (by decide), q5']
            refine (p4 hhad).1 k ?_
            unfold qPy at hk ⊢
            rw [o46 43 (by decide), q1' 11 (by decide)] at hk
            exact hk
          · rw [o46 43 (by decide), q1' 6 (by decide)] at z2
            exact absurd c7 z2
          · rw [o46 43 (by decide), q1' p hp]; exact p5 p hp
          · rw [r3 6 1 (by decide) (by decide) (by omega)]
            show _ = b2 (bt (σ2.2 48) e)
            rw [s2 48 (by decide)]; exact p6
        · rw [up_o (by decide), a2.1 69 (by decide)]
    obtain ⟨σ', c, k1, k2, k3, k4, k5, k6, k7, k8, k9⟩ := key
    have hadb : bt (σ.2 48) e = true := hhad
    refine ⟨σ', S3, K3, ch ||| qq1 c e, un ||| qq1 false e, dn, fun n => ?_, fun n => ?_, h3, FJ_next hw J ho k2 k5 (fun y hy => ?_) (b1.tr b3x) K3y k6 k7 (fun y hy => ?_) (fun y hy hc => ?_) s14 (fun k hk => ?_) ?_ ?_⟩
    · rw [e117]; exact k1 _
    · rw [e28, e61, rbf, if_neg (by decide)]; exact e3 _
    · rw [k3]
      by_cases d : y = e
      · rw [d, hadb]; rfl
      · rw [decide_eq_false d, Bool.or_false]
    · have : K3.1 49 0 15 = K.1 49 0 15 ||| qq1 c e := by
        rw [m3, ← k9]
        unfold qq1
        cases c with
        | true => rw [if_pos rfl, if_pos rfl]
        | false => rw [if_neg (by decide), if_neg (by decide), or_0]
      rw [this, b_or, b_or, b_or, b_or, j16 y hy, b_or, bt_qq1 (by omega) hy, bt_qq1 (by omega) hy]
      cases bt ch y <;> cases bt un y <;> cases c <;> cases decide (y = e) <;> rfl
    · rw [b_or, b_or, bt_qq1 (by omega) hy, bt_qq1 (by omega) hy, decide_eq_false hc]
      simp only [Bool.and_false, Bool.or_false]
      exact ⟨trivial, trivial, trivial⟩
    · rw [k8]
      by_cases d : (L.2 k).1 = e
      · rw [if_pos d, q34, b_0, j22 k hk, d, if_neg heD]; rfl
      · rw [if_neg d]
    · rw [b3.1 49 0 12 (by unfold RZI ZI FI; omega), r1 49 0 12 (by omega), j24, k4]
    · rw [b3.1 49 0 13 (by unfold RZI ZI FI; omega), r1 49 0 13 (by omega), hsh0, if_neg (by decide), Int32.add_zero]
end FS3
