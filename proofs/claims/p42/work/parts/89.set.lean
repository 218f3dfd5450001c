section SETS
variable {T : qqT} {G : qqG} {L : qqL} {A : kA} {ex : Nat → Nat → Prop} {K K' : kS} {S S' : cS} {σ σ' : mS} {v v' nw k : Nat}
theorem r_in0 (x : Int32) {n : Nat} (hn : n < 2 ^ 31) {y : Int32} (hy : y = nI n - 1) : f_in x 0 y = some (b2 (decide (0 ≤ x ∧ x < nI n))) := by
  rw [r_in, hy, in_lt x hn]
theorem c_refA0 (S : cS) : f_X11_refuseArgument 0 S = some (.inr (), S) := by
  unfold f_X11_refuseArgument; rw [if_pos rfl]
theorem c_refA1 (S : cS) : f_X11_refuseArgument 1 S = some (.inl 0, S) := by
  unfold f_X11_refuseArgument; rw [if_neg (by decide)]
theorem c_refS0 (S : cS) : f_X11_refuseState 0 S = some (.inr (), S) := by
  unfold f_X11_refuseState; rw [if_pos rfl]
theorem c_refS1 (S : cS) : f_X11_refuseState 1 S = some (.inl 1, S) := by
  unfold f_X11_refuseState; rw [if_neg (by decide)]
theorem sq_weight {T : qqT} {G : qqG} {L : qqL} {A : kA} {ex : Nat → Nat → Prop} {K : kS} {v nw k : Nat} {S : cS} {σ : mS} (w : JW k T G L A ex K v nw S σ) (a1 : Int32) : sJR [2] lvN (JP (pf T G σ (P_sc T G σ)) (k + 1)) (f_X11_weight 1 a1 S) (f_weight a1 σ) := by
  obtain ⟨⟨hw, hA, hin⟩, h49, -, j⟩ := id w
  have q := j.1.1
  have m := j.2.2.2.2.2.1
  have hg := m.1.2.2.2.1
  refine at49 (P := fun x => sJR [2] lvN (JP (pf T G σ (P_sc T G σ)) (k + 1)) (f_X11_weight x a1 S) (f_weight a1 σ)) h49 ?_
  unfold f_X11_weight f_weight f_weight_14 f_weight_30 f_isSel
  rw [q.2.1.r11 hA, qqx, m.2, r_in0 a1 (n := Gs G) (by omega) rfl, qqx, rz_b2, qqx]
  unfold f_X11_selectorAt
  rw [q.2.1.matcher hA, qqx, q.2.1.r5 hA, qqx]
  rcases ix_cases a1 (n := Gs G) (by omega) with ⟨s, hs, rfl⟩ | hx
  · obtain ⟨a, b, c, d⟩ := m.1.1 s hs
    rw [c_selectorAt q.2.1 hA m.1.2.2.1 hg hs c, qqx, if_neg (fun z => by cases z), if_dt (nI_inn hs (by omega)), r_holds0, qqx, qqx, if_pos rfl, rd_20 (by omega), qqx]
    show sJR _ _ _ ((gI S (some (A 17 s)) 7 6).bind _) _
    rw [hA.I 17 7 a.1.1 rfl, (j.2.1.2.1.2.2.2.2 s hs).2, qqx]
    exact sJR.r rfl rfl w.sc
  · rw [show f_X5_selectorAt (A 52 0) a1 S = some none from ?_, qqx, if_pos rfl, if_df hx, r_holds1, qqx, qqx]
    · exact sJR.l rfl (w.no 1)
    · unfold f_X5_selectorAt
      by_cases h0 : a1 < 0
      · rw [if_pos h0]; rfl
      · rw [if_neg h0, q.2.1.I52 hA, m.1.2.2.1, qqx, if_pos (Int32.not_lt.mp (fun z => hx ⟨Int32.not_lt.mp h0, z⟩))]; rfl
theorem f2_b {x3 : Int32} (h : x3 = 0 ∨ x3 = 1) : ∃ b : Bool, x3 = b2 b := h.elim (fun z => ⟨false, z⟩) (fun z => ⟨true, z⟩)
def P_cl (T : qqT) (G : qqG) (σ : mS) (T' : qqT) (G' : qqG) (σ' : mS) : Prop := T' = T ∧ G' = G ∧ ∃ e c nv, e < Tn T ∧ c < 8 ∧ (∀ i, i < 32 → i ≠ c → bt nv i = bt (σ.1 1 e) i) ∧ f_markTest (nI e) ((1 : Int32) <<< (nI c &&& 31)) (up (sf σ 81 0) 1 e nv) = some σ'
def P_pt (T : qqT) (G : qqG) (σ : mS) (T' : qqT) (G' : qqG) (σ' : mS) : Prop := T' = T ∧ G' = G ∧ ∃ e x, e < Tn T ∧ f_mark ((1 : Int32) <<< (nI e &&& 31)) (up (sf σ 81 0) 5 e x) = some σ'
theorem sq_setClass {T : qqT} {G : qqG} {L : qqL} {A : kA} {ex : Nat → Nat → Prop} {K : kS} {v nw k : Nat} {S : cS} {σ : mS} (hk : k < 60000) (w : JW k T G L A ex K v nw S σ) (a1 a2 a3 : Int32) (ha3 : a3 = 0 ∨ a3 = 1) : sJR [2, 0] lvZ (JP (pf T G σ (P_cl T G σ)) (k + 1)) (f_X11_setClass 1 a1 a2 a3 S) (f_setClass a1 a2 a3 σ) := by
  obtain ⟨⟨hw, hA, hin⟩, h49, ⟨hv, -, -⟩, j⟩ := id w
  obtain ⟨is, rfl⟩ := f2_b ha3
  have h30 := hw.n30
  have q := j.1.1
  have rt := j.1.2.2.2
  refine at49 (P := fun x => sJR [2, 0] lvZ (JP (pf T G σ (P_cl T G σ)) (k + 1)) (f_X11_setClass x a1 a2 (b2 is) S) (f_setClass a1 a2 (b2 is) σ)) h49 ?_
  unfold f_X11_setClass f_setClass f_setClass_29 f_X11_setClass_21 f_setClass_84
  rw [q.2.1.r11 hA, qqx, r_isElement rt hw, qqx]
  rcases ix_cases a1 (n := Tn T) (by omega) with ⟨e, he, rfl⟩ | hx
  · rw [c_elementAt hw q hA he, qqx, if_dt (nI_inn he (by omega)), r_in0 a2 (n := 8) (by decide) (by decide), qqx]
    show sJR _ _ _ ((f_X11_isBelow a2 (nI 8)).bind _) _
    rw [c_isBelow, qqx]
    rcases ix_cases a2 (n := 8) (by decide) with ⟨c, hc, rfl⟩ | hx
    · rw [if_dt (nI_inn hc (by decide)), if_dt (nI_inn hc (by decide)), c_refA0, qqx, r_holds0, qqx, if_pos rfl]
      have j0 := j.scR (scR_sf σ 0)
      have g2 : gI S (some (A 0 e)) 3 2 = some (σ.1 1 e) := by rw [hA.I 0 3 (q.1.E he (by decide)) rfl, (j.1.2.2.1 e he).2.1]
      obtain ⟨S', K', σ', e1, e2, h1, j1, b1, s1⟩ := giveClass_both hw hA j0 he hc is (by omega) rfl
      have px : P_cl T G σ T G σ' := by
        refine ⟨rfl, rfl, e, c, _, he, hc, fun i hi hne => ?_, e2⟩
        cases is with
        | true => rw [if_pos rfl, b_or, b_one (by omega) hi, decide_eq_false hne, Bool.or_false]; rfl
        | false => rw [if_neg (by decide), b_and, bt_not hi, b_one (by omega) hi, decide_eq_false hne]; simp; rfl
      rw [rd_1 (by omega), qqx, r_bit _ (by omega), qqx, b2_i0]
      have fin : sJR [2, 0] lvZ (JP (pf T G σ (P_cl T G σ)) (k + 1)) ((gI S (some (A 0 e)) 3 2).bind (fun v3 => (f_X11_isMember v3 (nI c)).bind (fun v4 => (rc S (some (A 49 0)) 11).bind (fun v5 => (f_X11_giveClass v5 (some (A 0 e)) (nI c) (b2 is) S).bind (fun v6 => lrzt v4 v6))))) ((some σ').bind (fun v2 => rzw (b2 (bt (σ.1 1 e) c)) v2)) := by
        rw [g2, qqx, c_isMember _ (by omega), qqx, q.2.1.r11 hA, qqx, e1, qqx, lrzt_b2, qqx, rzw_b2]
        exact sJR.r rfl ((s1.2 81 (by decide)).trans rfl) (w.to h1 (hin.kp b1 (fun i j => by omega)) j1 (by omega) (s1.2 54 (by decide)) (Or.inr ⟨(s1.2 81 (by decide)).trans rfl, px⟩))
      cases is with
      | true =>
        rw [if_pos rfl, qqx, wr_1 (by omega), qqx]
        rw [if_pos rfl] at e2
        have e2' : f_markTest (nI e) (1 <<< (nI c &&& 31)) (up (sf σ 81 0) 1 e ((sf σ 81 0).1 1 e ||| 1 <<< (nI c &&& 31))) = some σ' := e2
        rw [e2']
        exact fin
      | false =>
        rw [if_neg (by decide), qqx, wr_1 (by omega), qqx]
        rw [if_neg (by decide)] at e2
        rw [e2]
        exact fin
    · rw [if_df hx, if_df hx, c_refA1, qqx, r_holds2, qqx]
      exact sJR.l rfl (w.no 2)
  · rw [c_elementN hw q hA hx, qqx, if_df hx, r_holds1, qqx]
    exact sJR.l rfl (w.no 1)
theorem JW.set {P : qqT → qqG → mS → Prop} (w : JW k T G L A ex K v nw S σ) (hA : KA A ex K' S') (j : J0 T G L ex K' σ' (v + 1)) {e jj f : Nat} (b : kB (fun k i j => (k = 0 ∧ i = e ∧ j = jj) ∨ (k = 50 ∧ i = 0 ∧ j = 3) ∨ (k = 49 ∧ i = 0 ∧ j = 10)) F3 K K') (s : sB [f] [49] (sf σ 81 0) σ') (hp : P T G σ') : σ'.2 81 = 0 ∧ ∀ n, S'.2 ≤ n → JP (pf T G σ P) (k + 1) (S'.1, n) σ' :=
  ⟨s.2 81 (by decide), w.to hA (w.1.2.2.kp b (fun i j => by omega)) j (by omega) (s.2 54 (by decide)) (Or.inr ⟨s.2 81 (by decide), hp⟩)⟩
theorem r_inm (x : Int32) {n : Nat} (hn : n < 2 ^ 31) {y : Int32} (hy : y = nI n - 1) : f_in x (-1) y = some (b2 (decide (x = -1) || decide (0 ≤ x ∧ x < nI n))) := by
  rw [r_in, hy]
  have e : decide (-1 ≤ x ∧ x ≤ nI n - 1) = (decide (x = -1) || decide (0 ≤ x ∧ x < nI n)) := by
    rw [← in_lt x hn, ← Bool.decide_or, decide_eq_decide]
    have e : (nI n - 1).toInt = (n : Int) - 1 := by
      rw [Int32.toInt_sub, nI_toInt hn, show (1 : Int32).toInt = 1 by decide, Int.bmod_eq_of_le (by omega) (by omega)]
    rw [Int32.le_iff_toInt_le, Int32.le_iff_toInt_le, Int32.le_iff_toInt_le, e, ← Int32.toInt_inj, show (-1 : Int32).toInt = -1 by decide, show (0 : Int32).toInt = 0 by decide]
    omega
  rw [e]
theorem sq_setPart {T : qqT} {G : qqG} {L : qqL} {A : kA} {ex : Nat → Nat → Prop} {K : kS} {v nw k : Nat} {S : cS} {σ : mS} (hk : k < 60000) (w : JW k T G L A ex K v nw S σ) (a1 a2 : Int32) : sJR [2, 0] lvN (JP (pf T G σ (P_pt T G σ)) (k + 1)) (f_X11_setPart 1 a1 a2 S) (f_setPart a1 a2 σ) := by
  obtain ⟨⟨hw, hA, hin⟩, h49, ⟨hv, -, -⟩, j⟩ := id w
  have h30 := hw.n30
  have q := j.1.1
  have rt := j.1.2.2.2
  refine at49 (P := fun x => sJR [2, 0] lvN (JP (pf T G σ (P_pt T G σ)) (k + 1)) (f_X11_setPart x a1 a2 S) (f_setPart a1 a2 σ)) h49 ?_
  unfold f_X11_setPart f_setPart f_X11_setPart_23
  rw [q.2.1.r11 hA, qqx, r_isElement rt hw, qqx]
  rcases ix_cases a1 (n := Tn T) (by omega) with ⟨e, he, rfl⟩ | hx
  · rw [c_elementAt hw q hA he, qqx, if_dt (nI_inn he (by omega)), r_inm a2 (n := 4) (by decide) (by decide), qqx]
    have core : sJR [2, 0] lvN (JP (pf T G σ (P_pt T G σ)) (k + 1)) (f_X11_setPart_24 (A 49 0) a2 (some (A 0 e)) 0 S) (f_setPart_28 (nI e) a2 0 σ) := by
      have j0 := j.scR (scR_sf σ 0)
      have jf := j0.feat hw he (f := 5) (jj := 6) (Or.inr (Or.inr (Or.inr ⟨rfl, rfl⟩))) a2 (by omega)
      have x50 : ex 50 0 := q.2.1.x (by decide) (by decide) (by decide)
      obtain ⟨S1, e1, h1⟩ := hA.PI (k := 0) (i := e) (t := 3) (j := 6) (q.1.E he (by decide)) rfl (by decide) a2
      obtain ⟨S2, e2, h2⟩ := h1.PI (k := 50) (i := 0) (t := 10) (j := 3) x50 rfl (by decide) (nI (v + 1))
      have q1 : KP ex (kwI K 0 e 6 a2) := q.2.1.keep ((kB.rf K).I (PI := fun _ _ _ => True) (PR := F3) trivial) (fun _ _ _ z => z.elim)
      have q2 := jf.1.1
      obtain ⟨S3, K3, e3, h3, c3⟩ := c_mark hw h2 q2 ((1 : Int32) <<< (nI e &&& 31))
      obtain ⟨σ3, e4, r4⟩ := r_mark hw jf.1.2.2.2 ((1 : Int32) <<< (nI e &&& 31))
      have g6 : gI S (some (A 0 e)) 3 6 = some (σ.1 5 e) := by rw [hA.I 0 3 (q.1.E he (by decide)) rfl, (j.1.2.2.1 e he).2.2.2.2.2]
      have g3 : gI S1 (some (A 50 0)) 10 3 = some (nI v) := by rw [h1.I 50 10 x50 rfl, kwI_k (by decide), j.2.2.2.2.2.1.1.2.2.2.2.1.1]
      unfold f_X11_setPart_24 f_setPart_28
      rw [c_refA0, qqx, r_holds0, qqx, if_pos rfl, rd_5 (by omega), qqx, wr_5 (by omega), qqx, e4, qqx]
      show sJR _ _ _ ((gI S (some (A 0 e)) 3 6).bind (fun v3 => (pI S (some (A 0 e)) 3 6 a2).bind _)) _
      rw [g6, qqx, e1, qqx, q1.trees h1, qqx, g3, qqx, nI_1, e2, qqx, q2.1.gn h2 he, qqx, q2.2.1.r11 h2, qqx, e3, qqx]
      have b3 : kB (fun k i j => (k = 0 ∧ i = e ∧ j = 6) ∨ (k = 50 ∧ i = 0 ∧ j = 3) ∨ (k = 49 ∧ i = 0 ∧ j = 10)) F3 K K3 := (((kB.rf K).I (Or.inl ⟨rfl, rfl, rfl⟩)).I (Or.inr (Or.inl ⟨rfl, rfl, rfl⟩))).tr (c3.kB.wd (fun k i j z => by unfold MI at z; omega) (fun _ _ _ z => z))
      obtain ⟨z1, z2⟩ := w.set (e := e) (jj := 6) (f := 5) h3 (jf.mark hw c3 r4) b3 (((sB.rf (sf σ 81 0)).up (f := 5) (by simp)).tr (r4.sB.wd (by simp) (by simp))) (P := P_pt T G σ) ⟨rfl, rfl, e, a2, he, e4⟩
      exact sJR.r rfl z1 z2
    by_cases hm : a2 = -1
    · rw [decide_eq_true hm, Bool.true_or, if_neg (by decide)]
      show sJR _ _ _ (if a2 = -1 then _ else _) _
      rw [if_pos hm]
      exact core
    · rw [decide_eq_false hm, Bool.false_or]
      show sJR _ _ _ (if a2 = -1 then _ else (f_X11_isBelow a2 (nI 4)).bind _) _
      rw [if_neg hm, c_isBelow, qqx]
      rcases ix_cases a2 (n := 4) (by decide) with ⟨c, hc, hce⟩ | hx
      · have hc' : 0 ≤ a2 ∧ a2 < nI 4 := hce ▸ nI_inn hc (by decide)
        rw [if_dt hc', if_dt hc']
        exact core
      · rw [if_df hx, if_df hx]
        unfold f_X11_setPart_24 f_setPart_28
        rw [c_refA1, qqx, r_holds2, qqx]
        exact sJR.l rfl (w.no 2)
  · rw [c_elementN hw q hA hx, qqx, if_df hx]
    unfold f_setPart_28
    rw [r_holds1, qqx]
    exact sJR.l rfl (w.no 1)
end SETS
