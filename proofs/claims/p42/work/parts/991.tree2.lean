section TR2
variable {T T' : qqT} {G : qqG} {L : qqL} {A A' : kA} {ex ex' : Nat → Nat → Prop} {K K' K1 : kS} {S S' S1 : cS} {σ σ' : mS} {v v' nw9 k : Nat}
def xsP (k _i j : Nat) : Prop := k = 0 ∧ (j = 5 ∨ j = 7)
def xsR (k _i j : Nat) : Prop := k = 0 ∧ 8 ≤ j ∧ j ≤ 13
theorem c_relay (hw' : Tw T') (hA1 : KA A ex K1 S1) (t1 : KT T' ex K1) (p9 : KP ex K) (kr : KR T K) (hn : Tn T' = Tn T) (b : kB xsP xsR K K1) (hv : K.1 50 0 3 = nI v) : ∃ S2 K2, f_X10_layOut (A 50 0) S1 = some S2 ∧ KA A ex K2 S2 ∧ KQ T' ex K2 ∧ kB xtP xtR K K2 ∧ K2.1 50 0 3 = nI (v + 1) ∧ (∀ e, e < Tn T → LSk T' K K2 e) ∧ K2.1 49 0 10 = K.1 49 0 10 ∧ (∀ j, j = 1 ∨ j = 2 ∨ j = 3 ∨ j = 4 ∨ j = 5 ∨ j = 6 → ∀ e, K2.1 0 e j = K1.1 0 e j) ∧ kB LI LR K1 K2 := by
  obtain ⟨S2, K2, e2, h2, b2, l2, v2, s2, o2⟩ := c_layOut hw' hA1 t1
  have bt' : kB xtP xtR K K2 := (b.wd (fun k i j z => by unfold xsP at z; unfold xtP; omega) (fun k i j z => by unfold xsR at z; unfold xtR; omega)).tr (b2.wd (fun k i j z => by unfold LI at z; unfold xtP; omega) (fun k i j z => by unfold LR at z; unfold xtR; omega))
  have kr1 : KR T K1 := kr.keep b (fun i => by unfold xsR; omega)
  have o6 : ∀ i j, K1.1 6 i j = K.1 6 i j := fun i j => b.1 _ _ _ (by unfold xsP; omega)
  have o10 : ∀ i j, K1.1 10 i j = K.1 10 i j := fun i j => b.1 _ _ _ (by unfold xsP; omega)
  refine ⟨S2, K2, e2, h2, ⟨t1.lay b2, p9.keep bt' (fun k i j z => by unfold xtR at z; unfold KPf; omega), l2, KR.lay hw' kr1 hn l2 o2⟩, bt', ?_, fun e he => ?_, ?_, fun j hj e => b2.1 _ _ _ (by unfold LI; omega), b2⟩
  · rw [v2, b.1 _ _ _ (by unfold xsP; omega), hv, nI_1]
  · have := s2 e (by omega)
    unfold LSk at this ⊢
    rw [o6, o6] at this
    refine ⟨fun h => ⟨(this.1 h).1, (this.1 h).2.1, fun p => by rw [← o10]; exact (this.1 h).2.2 p⟩, this.2⟩
  · rw [b2.1 _ _ _ (by unfold LI; omega), b.1 _ _ _ (by unfold xsP; omega)]
def Tsh (T : qqT) (e0 : Nat) : qqT := (T.1, T.2.1, T.2.2.1, T.2.2.2.1, T.2.2.2.2.1, fun e => if e = e0 then true else T.2.2.2.2.2.1 e, T.2.2.2.2.2.2.1, T.2.2.2.2.2.2.2)
theorem Tsh_w (hw : Tw T) {e0 : Nat} : Tw (Tsh T e0) := by
  obtain ⟨h1, h2, h3, h4, h5, h6, h7, h8, h9, h10, h11⟩ := hw
  refine ⟨h1, h2, h3, h4, h5, h6, h7, h8, fun e h he => ?_, h10, h11⟩
  show (if h = e0 then true else Ts T h) = true
  by_cases c : h = e0
  · rw [if_pos c]
  · rw [if_neg c]; exact h9 e h he
theorem Tsh_D (e0 : Nat) : TD (Tsh T e0) = TD T := rfl
theorem st48 (j : J0 T G L ex K σ v) (h : σ'.2 48 = σ.2 48) (hD : ∀ e, e < Tn T → TD T e = true → TD T' e = true) : ∀ e, e < 32 → bt (σ'.2 48) e = (bt (σ.2 48) e && (decide (e < Tn T) && TD T' e)) := by
  intro e he
  rw [h]
  cases hb : bt (σ.2 48) e with
  | false => rfl
  | true =>
    by_cases c : e < Tn T ∧ TD T e = true
    · rw [decide_eq_true c.1, hD e c.1 c.2]; rfl
    · have := j.2.2.2.1.2.2.1 e he c
      rw [hb] at this; cases this
theorem st55 (j : J0 T G L ex K σ v) (h30 : Tn T ≤ 30) (h : σ'.1 55 = σ.1 55) (hD : ∀ e, e < Tn T → TD T e = true → TD T' e = true) : ∀ e p, e < 30 → p < 5 → σ'.1 55 (5 * e + p) = if (decide (e < Tn T) && TD T' e) = true then σ.1 55 (5 * e + p) else -1 := by
  intro e p he hp
  rw [h]
  by_cases c : (decide (e < Tn T) && TD T' e) = true
  · rw [if_pos c]
  · rw [if_neg c]
    by_cases c1 : e < Tn T
    · have hd : TD T e = false := by
        cases hd : TD T e with
        | false => rfl
        | true => exact absurd (by rw [decide_eq_true c1, hD e c1 hd]; rfl) c
      refine j.2.2.2.1.2.1 e c1 (j.2.2.2.1.2.2.1 e (by omega) (fun z => by rw [hd] at z; cases z.2)) p hp
    · exact ((j.2.2.2.2.2.2.2.2.1 e (by omega) he).2.2.2.2.2.2.2.2 p hp).2
def P_sd (T : qqT) (G : qqG) (σ : mS) (T' : qqT) (G' : qqG) (σ' : mS) : Prop := G' = G ∧ ∃ e, e < Tn T ∧ T' = Tsh T e ∧ f_markAll (up (sf σ 81 0) 8 e 1) = some σ'
theorem sq_shadow {T : qqT} {G : qqG} {L : qqL} {A : kA} {ex : Nat → Nat → Prop} {K : kS} {v nw9 k : Nat} {S : cS} {σ : mS} (hk : k < 60000) (w : JW k T G L A ex K v nw9 S σ) (a1 : Int32) : sJU [2, 1] (JP (pf T G σ (P_sd T G σ)) (k + 1)) (f_X11_shadow 1 a1 S) (f_shadow a1 σ) := by
  obtain ⟨⟨hw, hA, hin⟩, h49, ⟨hv, hn, h54⟩, j⟩ := id w
  have h30 := hw.n30
  have q := j.1.1
  have rt := j.1.2.2.2
  refine at49 (P := fun x => sJU [2, 1] (JP (pf T G σ (P_sd T G σ)) (k + 1)) (f_X11_shadow x a1 S) (f_shadow a1 σ)) h49 ?_
  unfold f_X11_shadow f_shadow f_shadow_28 f_shadow_45
  rw [q.2.1.r11 hA, qqx, r_isElement rt hw, qqx]
  rcases ix_cases a1 (n := Tn T) (by omega) with ⟨e, he, rfl⟩ | hx
  · rw [c_elementAt hw q hA he, qqx, if_dt (nI_inn he (by omega)), rd_8 (by omega), qqx, rt.2.2.2.1 e (by omega), b2_i1]
    show sJU _ _ ((gI S (some (A 0 e)) 3 7).bind _) _
    rw [q.1.gs hA he, qqx]
    cases hs : Ts T e with
    | true =>
      rw [if_pos rfl, show b2 true = 1 from rfl, c_refS1, qqx, r_holds2, qqx]
      exact sJU.l rfl (w.no 2)
    | false =>
      rw [if_neg (by decide), show b2 false = 0 from rfl, c_refS0, qqx, r_holds0, qqx, if_pos rfl, wr_8 (by omega), qqx]
      have j0 := j.scR (scR_sf σ 0)
      have hw' : Tw (Tsh T e) := Tsh_w hw
      have x0 : ex 0 e := q.1.E he (by decide)
      obtain ⟨S1, e1, h1⟩ := hA.PZ (k := 0) (i := e) (t := 3) (j := 7) x0 rfl (by decide) (v := 1) (Or.inr rfl)
      have b1 : kB xsP xsR K (kwI K 0 e 7 1) := (kB.rf K).I (show xsP 0 e 7 from ⟨rfl, Or.inr rfl⟩)
      have t1 : KT (Tsh T e) ex (kwI K 0 e 7 1) := by
        refine ⟨fun x hx => ?_, ?_⟩
        · obtain ⟨y1, y2, y3, y4, y5, y6⟩ := q.1.1 x hx
          refine ⟨y1, by rw [kwI_j (by decide)]; exact y2, ?_, by rw [kwI_j (by decide)]; exact y4, by rw [kwI_j (by decide)]; exact y5, y6⟩
          show (kwI K 0 e 7 1).1 0 x 7 = b2 (if x = e then true else Ts T x)
          by_cases c : x = e
          · rw [if_pos c, c, kwI_s]; rfl
          · rw [if_neg c, kwI_row (by omega)]; exact y3
        · obtain ⟨y1, y2, y3, y4⟩ := q.1.2
          exact ⟨y1, y2, by rw [kwI_k (by decide)]; exact y3, y4⟩
      obtain ⟨S2, K2, e2, h2, q2, b2', v2, ls2, m2, f2, -⟩ := c_relay hw' h1 t1 q.2.1 q.2.2.2 rfl b1 j.2.2.2.2.2.1.1.2.2.2.2.1.1
      obtain ⟨S3, K3, e3, h3, c3⟩ := c_markAll hw' h2 q2
      have rt2 : RT (Tsh T e) (up (sf σ 81 0) 8 e 1) := by
        obtain ⟨y1, y2, y3, y4, y5⟩ := rt
        refine ⟨y1, fun x hx => by rw [up_o (by decide)]; exact y2 x hx, fun x hx => by rw [up_o (by decide)]; exact y3 x hx, fun x hx => ?_, ?_⟩
        · show (up (sf σ 81 0) 8 e 1).1 8 x = b2 (if x = e then true else Ts T x)
          rw [up_s]
          by_cases c : x = e
          · rw [if_pos c, if_pos c]; rfl
          · rw [if_neg c, if_neg c]; exact y4 x hx
        · rw [up_o (by decide), up_o (by decide), up_o (by decide), up_o (by decide), up_o (by decide), up_o (by decide)]
          exact y5
      have mk2 : mkD (Tsh T e) (up (sf σ 81 0) 8 e 1) := j.2.2.2.2.1.1
      obtain ⟨σ3, e4, r3⟩ := r_markAll hw' rt2 mk2
      have kb3 : kB MI F3 K2 K3 := c3.kB
      have b13 : kB xtP xtR K K3 := b2'.tr (kb3.wd (fun k i j z => by unfold MI at z; unfold xtP; omega) (fun _ _ _ z => z.elim))
      have sb3 : sB xtL [48, 49] (sf σ 81 0) σ3 := (((sB.rf _).up (show 8 ∈ xtL by decide) : sB xtL [48, 49] (sf σ 81 0) (up (sf σ 81 0) 8 e 1))).tr (r3.sB.wd (by simp) (by simp))
      have d3 : ∀ x, x < Tn T → TD T x = true → TD (Tsh T e) x = true := fun x _ h => h
      have j3 : J0 (Tsh T e) G L ex K3 σ3 (v + 1) := by
        refine J0.tr hw hw' j0 rfl (fun x hx => ?_) b13 (c3.kq q2) (fun x hx => ?_) (by omega) ?_ (fun x hx => ?_) sb3 (r3.rt rt2) (fun x h1 h2 => ⟨?_, ?_⟩) (st48 j0 ((r3.sB.2 48 (by decide)).trans rfl) d3) (st55 j0 h30 (by rw [r3.sB.1 55 (by decide), up_o (by decide)]) d3) ⟨r3.mk mk2, fun x hx hd => ?_⟩
        · show (if x = e then true else Ts T x) = true
          rw [hx, ite_self]
        · have ke := j0.1.2.2.1 x hx
          have o : ∀ j, j = 1 ∨ j = 2 ∨ j = 3 ∨ j = 4 ∨ j = 5 ∨ j = 6 → K3.1 0 x j = K.1 0 x j := fun j hj => by
            rw [kb3.1 _ _ _ (by unfold MI; omega), f2 j hj x, kwI_j (by omega)]
          rw [o 1 (by decide), o 2 (by decide), o 3 (by decide), o 4 (by decide), o 5 (by decide), o 6 (by decide), r3.sB.1 0 (by decide), r3.sB.1 1 (by decide), r3.sB.1 2 (by decide), r3.sB.1 3 (by decide), r3.sB.1 4 (by decide), r3.sB.1 5 (by decide), up_o (by decide), up_o (by decide), up_o (by decide), up_o (by decide), up_o (by decide), up_o (by decide)]
          exact ke
        · rw [kb3.1 _ _ _ (by unfold MI; omega)]; exact v2
        · have := ls2 x hx
          unfold LSk at this ⊢
          have oo : ∀ k j, k = 6 ∨ k = 10 → K3.1 k x j = K2.1 k x j := fun k j h => kb3.1 _ _ _ (by unfold MI; omega)
          rw [oo 6 1 (by decide), oo 6 4 (by decide)]
          exact ⟨fun h => ⟨(this.1 h).1, (this.1 h).2.1, fun p => by rw [oo 10 p (by decide)]; exact (this.1 h).2.2 p⟩, fun h => ⟨(this.2 h).1, (this.2 h).2.1, fun p hp => by rw [oo 10 p (by decide)]; exact (this.2 h).2.2 p hp⟩⟩
        · show (if x = e then true else Ts T x) = false
          rw [if_neg (by omega)]; exact (j0.2.2.2.2.2.2.2.2.1 x h1 h2).1
        · rw [r3.sB.1 4 (by decide), up_o (by decide)]; exact (j0.2.2.2.2.2.2.2.2.1 x h1 h2).2.2.2.2.1
        · obtain ⟨y, rfl, hy⟩ := r3
          obtain ⟨u, rfl, hu⟩ := c3
          rw [kwI_s, sf_s, hu x (by omega), hy x (by omega), m2, j0.2.2.2.2.1.2.1 x hx hd]
          rfl
      show sJU _ _ ((pZ S (some (A 0 e)) 3 7 1).bind _) _
      rw [e1, qqx]
      have p1 : KP ex (kwI K 0 e 7 1) := q.2.1.keep b1 (fun k i j z => by unfold xsR at z; unfold KPf; omega)
      rw [p1.trees h1, qqx, h1.Rc 50 10 (p1.x (by decide) (by decide) (by decide)) rfl, qqx, e2, qqx, q2.2.1.r11 h2, qqx, e3, qqx, e4, qqx]
      have f81 : σ3.2 81 = 0 := (r3.sB.2 81 (by decide)).trans rfl
      have f54 : σ3.2 54 = σ.2 54 := (r3.sB.2 54 (by decide)).trans rfl
      exact sJU.r f81 (fun n hn1 => ⟨Tsh T e, G, L, A, ex, K3, v + 1, nw9, ⟨⟨hw', h3.mono hn1, hin.kp b13 (fun i j => by unfold xtP; omega)⟩, h49, ⟨by omega, hn, f54.trans h54⟩, j3⟩, Or.inr ⟨f81, rfl, e, he, rfl, e4⟩⟩)
  · rw [c_elementN hw q hA hx, qqx, if_df hx, r_holds1, qqx]
    exact sJU.l rfl (w.no 1)
end TR2
