section TR3
variable {T T' : qqT} {G : qqG} {L : qqL} {A A' : kA} {ex ex' : Nat → Nat → Prop} {K K' K1 K2 K3 : kS} {S S' S1 : cS} {σ σ' σ2 σ3 : mS} {v v' nw9 k : Nat}
theorem J0.tm (hw : Tw T) (hw' : Tw T') (j : J0 T G L ex K σ v) (hn : Tn T' = Tn T) (hsh : ∀ e, Ts T e = true → Ts T' e = true) (b2 : kB xtP xtR K K2) (q2 : KQ T' ex K2) (v2 : K2.1 50 0 3 = nI (v + 1)) (ls2 : ∀ e, e < Tn T → LSk T' K K2 e) (m2 : K2.1 49 0 10 = K.1 49 0 10) {P : Nat → Bool} (c3 : CMk T' P K2 K3) (sb2 : sB xtL [] σ σ2) (s55 : σ2.1 55 = σ.1 55) (rt2 : RT T' σ2) (r3 : RMk T' P σ2 σ3) (ke : KE T' K2 σ2) (fr2 : ∀ e, Tn T ≤ e → e < 30 → Ts T' e = false ∧ σ2.1 4 e = -1) (hD : ∀ e, e < Tn T → TD T e = true → TD T' e = true) (hnew : ∀ e, e < Tn T → TD T' e = true → TD T e = false → P e = true) (hv : v + 1 < 2 ^ 31) : J0 T' G L ex K3 σ3 (v + 1) ∧ kB xtP xtR K K3 ∧ sB xtL [49] σ σ3 := by
  have h30 := hw.n30
  have kb3 : kB MI F3 K2 K3 := c3.kB
  have b13 : kB xtP xtR K K3 := b2.tr (kb3.wd (fun k i j z => by unfold MI at z; unfold xtP; omega) (fun _ _ _ z => z.elim))
  have sb3 : sB xtL [49] σ σ3 := (sb2.wd (fun _ h => h) (by simp)).tr (r3.sB.wd (by simp) (by simp))
  have mk2 : mkD T' σ2 := fun e he hb => by
    rw [sb2.2 49 (by simp)] at hb
    obtain ⟨y1, y2⟩ := j.2.2.2.2.1.1 e he hb
    exact ⟨by omega, hD e y1 y2⟩
  have oM : ∀ k i j, ¬ MI k i j → K3.1 k i j = K2.1 k i j := kb3.1
  refine ⟨J0.tr hw hw' j hn hsh b13 (c3.kq q2) (fun e he => ?_) hv (by rw [oM _ _ _ (by unfold MI; omega)]; exact v2) (fun e he => ?_) (sb3.wd (fun _ h => h) (by simp)) (r3.rt rt2) (fun e h1 h2 => ⟨(fr2 e h1 h2).1, by rw [r3.sB.1 4 (by simp)]; exact (fr2 e h1 h2).2⟩) (st48 j ((r3.sB.2 48 (by decide)).trans (sb2.2 48 (by simp))) hD) (st55 j h30 ((r3.sB.1 55 (by simp)).trans s55) hD) ⟨r3.mk mk2, fun e he hd => ?_⟩, b13, sb3⟩
  · rw [oM 0 e 1 (by unfold MI; omega), oM 0 e 2 (by unfold MI; omega), oM 0 e 3 (by unfold MI; omega), oM 0 e 4 (by unfold MI; omega), oM 0 e 5 (by unfold MI; omega), oM 0 e 6 (by unfold MI; omega), r3.sB.1 0 (by simp), r3.sB.1 1 (by simp), r3.sB.1 2 (by simp), r3.sB.1 3 (by simp), r3.sB.1 4 (by simp), r3.sB.1 5 (by simp)]
    exact ke e he
  · have := ls2 e he
    unfold LSk at this ⊢
    rw [oM 6 e 1 (by unfold MI; omega), oM 6 e 4 (by unfold MI; omega)]
    exact ⟨fun h => ⟨(this.1 h).1, (this.1 h).2.1, fun p => by rw [oM 10 e p (by unfold MI; omega)]; exact (this.1 h).2.2 p⟩, fun h => ⟨(this.2 h).1, (this.2 h).2.1, fun p hp => by rw [oM 10 e p (by unfold MI; omega)]; exact (this.2 h).2.2 p hp⟩⟩
  · obtain ⟨y, rfl, hy⟩ := r3
    obtain ⟨u, rfl, hu⟩ := c3
    rw [kwI_s, sf_s, hu e (by omega), hy e (by omega), m2, sb2.2 49 (by simp)]
    cases hd0 : TD T e with
    | true => rw [j.2.2.2.2.1.2.1 e he hd0]
    | false =>
      have : dm T' P e = true := by
        unfold dm
        rw [decide_eq_true (show e < Tn T' by omega), hd, hnew e he hd hd0]; rfl
      rw [this, Bool.or_true, Bool.or_true]
def Tat (T : qqT) (e0 : Nat) (x : Int32) : qqT := (T.1, T.2.1, T.2.2.1, T.2.2.2.1, T.2.2.2.2.1, T.2.2.2.2.2.1, T.2.2.2.2.2.2.1, fun e => if e = e0 then x else T.2.2.2.2.2.2.2 e)
theorem Tat_w (hw : Tw T) {e0 : Nat} {x : Int32} : Tw (Tat T e0 x) := hw
theorem Tat_D (e0 : Nat) (x : Int32) : TD (Tat T e0 x) = TD T := rfl
theorem tcO_of (hw : Tw T) {e : Nat} : tcO T (TH T e) (Tco T e) := by
  cases hh : TH T e with
  | none => exact (Tco_neg hw).mpr hh
  | some q => exact ⟨Tco_some hw hh, (TH_lt hw hh).1⟩
theorem c_feat3 : f_X7_feature 3 0 = some ((1 : Int32) <<< (nI 12 &&& 31)) ∧ f_X7_feature 3 1 = some ((1 : Int32) <<< (nI 13 &&& 31)) ∧ (4096 : Int32) <<< ((0 : Int32) &&& 31) = (1 : Int32) <<< (nI 12 &&& 31) ∧ (4096 : Int32) <<< ((1 : Int32) &&& 31) = (1 : Int32) <<< (nI 13 &&& 31) := ⟨by decide, by decide, by decide, by decide⟩
theorem at1_both (hw : Tw T) (hA : KA A ex K S) (j : J0 T G L ex K σ v) {e : Nat} (he : e < Tn T) (x : Int32) (hv : v + 1 < 2 ^ 31) : ∃ S1 S2 S3 S' K' σ4 σ', pI S (some (A 0 e)) 3 5 x = some S1 ∧ gR S1 (some (A 49 0)) 11 0 = some (some (A 50 0)) ∧ rc S1 (some (A 50 0)) 10 = some (A 50 0) ∧ f_X10_layOut (A 50 0) S1 = some S2 ∧ gR S2 (some (A 0 e)) 3 8 = some (el A (Tp T e)) ∧ gR S2 (some (A 0 e)) 3 15 = some (el A (TH T e)) ∧ rc S2 (some (A 49 0)) 11 = some (A 49 0) ∧ f_X11_markSlotted (A 49 0) (el A (Tp T e)) (el A (TH T e)) S2 = some S3 ∧ rc S3 (some (A 49 0)) 11 = some (A 49 0) ∧ f_X11_markFeature (A 49 0) (some (A 0 e)) ((1 : Int32) <<< (nI 13 &&& 31)) S3 = some S' ∧ rd (up σ 4 e x) 6 (nI e) = some (qqO (Tp T e)) ∧ f_treeOf (nI e) (up σ 4 e x) = some (Tco T e) ∧ f_markHosts (qqO (Tp T e)) (Tco T e) (up σ 4 e x) = some σ4 ∧ f_markTest (nI e) ((1 : Int32) <<< (nI 13 &&& 31)) σ4 = some σ' ∧ KA A ex K' S' ∧ J0 (Tat T e x) G L ex K' σ' (v + 1) ∧ kB xtP xtR K K' ∧ sB xtL [49] σ σ' := by
  have h30 := hw.n30
  have q := j.1.1
  have rt := j.1.2.2.2
  have hw' : Tw (Tat T e x) := Tat_w hw
  have x0 : ex 0 e := q.1.E he (by decide)
  obtain ⟨S1, e1, h1⟩ := hA.PI (k := 0) (i := e) (t := 3) (j := 5) x0 rfl (by decide) x
  have b1 : kB xsP xsR K (kwI K 0 e 5 x) := (kB.rf K).I (show xsP 0 e 5 from ⟨rfl, Or.inl rfl⟩)
  have t1 : KT (Tat T e x) ex (kwI K 0 e 5 x) := by
    refine ⟨fun y hy => ?_, ?_⟩
    · obtain ⟨y1, y2, y3, y4, y5, y6⟩ := q.1.1 y hy
      refine ⟨y1, by rw [kwI_j (by decide)]; exact y2, by rw [kwI_j (by decide)]; exact y3, by rw [kwI_j (by decide)]; exact y4, ?_, y6⟩
      show (kwI K 0 e 5 x).1 0 y 5 = if y = e then x else Ta T y
      by_cases c : y = e
      · rw [if_pos c, c, kwI_s]
      · rw [if_neg c, kwI_row (by omega)]; exact y5
    · obtain ⟨y1, y2, y3, y4⟩ := q.1.2
      exact ⟨y1, y2, by rw [kwI_k (by decide)]; exact y3, y4⟩
  obtain ⟨S2, K2, e2, h2, q2, b2', v2, ls2, m2, f2, bl⟩ := c_relay hw' h1 t1 q.2.1 q.2.2.2 rfl b1 j.2.2.2.2.2.1.1.2.2.2.2.1.1
  obtain ⟨S3, K3, e3, h3, c3⟩ := c_markSlotted hw' h2 q2 (p := Tp T e) (t := TH T e) (fun y hy => (hw.p hy).2.1) (fun y hy => (TH_lt hw hy).1)
  have q3 := c3.kq q2
  have ft3 : KFt G K3 σ := (j.2.1.2.2.2.2.kp b2' (fun k i j z => by unfold xtP at z; unfold dCI; omega)).kp c3.kB (fun k i j z => by unfold MI at z; unfold dCI; omega)
  obtain ⟨S4, K4, e4, h4, c4⟩ := c_markFt hw' h3 q3 ft3 (e := e) (b := 13) he (by decide)
  have rt2 : RT (Tat T e x) (up σ 4 e x) := by
    obtain ⟨y1, y2, y3, y4, y5, y6, y7, y8, y9, y10⟩ := rt
    refine ⟨y1, fun z hz => by rw [up_o (by decide)]; exact y2 z hz, fun z hz => by rw [up_o (by decide)]; exact y3 z hz, fun z hz => by rw [up_o (by decide)]; exact y4 z hz, fun z hz => by rw [up_o (by decide)]; exact y5 z hz, fun z hz => by rw [up_o (by decide)]; exact y6 z hz, fun z k w hz => by rw [up_o (by decide)]; exact y7 z k w hz, fun z k w hz => by rw [up_o (by decide)]; exact y8 z k w hz, fun z hz => by rw [up_o (by decide)]; exact y9 z hz, fun z hz => ?_⟩
    show (up σ 4 e x).1 4 z = if z = e then x else Ta T z
    rw [up_s]
    by_cases c : z = e
    · rw [if_pos c, if_pos c]
    · rw [if_neg c, if_neg c]; exact y10 z hz
  have tc : f_treeOf (nI e) (up σ 4 e x) = some (Tco T e) := r_treeOf hw' rt2 he
  have tcO' : tcO (Tat T e x) (TH T e) (Tco T e) := tcO_of hw
  obtain ⟨σ4, r4, rm4⟩ := r_markHosts hw' rt2 (p := Tp T e) (t := TH T e) (fun y hy => (hw.p hy).2.1) tcO'
  have ru4 : RU σ4 (Gr G) (Gse G) := by
    refine RU.sB j.2.1.1.ru (L1 := [4]) (L2 := [49]) ?_ (by decide) (by decide)
    exact ((sB.rf σ).up (by simp)).tr (rm4.sB.wd (by simp) (by simp))
  obtain ⟨σ5, r5, rm5⟩ := r_markTest hw' (rm4.rt rt2) ru4 he (show 13 < 32 by decide)
  have s23 : ∀ f, f ≠ 4 → σ4.1 f = σ.1 f := fun f hf => by rw [rm4.sB.1 f (by simp), up_o hf]
  rw [s23 23 (by decide), s23 24 (by decide)] at rm5
  have cm := c3.tr c4
  have rm := rm4.tr rm5
  have sb2 : sB xtL [] σ (up σ 4 e x) := (sB.rf σ).up (by decide)
  have ke2 : KE (Tat T e x) K2 (up σ 4 e x) := fun y hy => by
    obtain ⟨k1, k2, k3, k4, k5, k6⟩ := j.1.2.2.1 y hy
    rw [f2 1 (by decide) y, f2 2 (by decide) y, f2 3 (by decide) y, f2 4 (by decide) y, f2 5 (by decide) y, f2 6 (by decide) y, kwI_j (c := 1) (by decide), kwI_j (c := 2) (by decide), kwI_j (c := 3) (by decide), kwI_j (c := 4) (by decide), kwI_j (c := 6) (by decide), up_o (g := 0) (by decide), up_o (g := 1) (by decide), up_o (g := 2) (by decide), up_o (g := 3) (by decide), up_o (g := 5) (by decide), up_s]
    refine ⟨k1, k2, k3, k4, ?_, k6⟩
    by_cases c : y = e
    · rw [if_pos c, c, kwI_s]
    · rw [if_neg c, kwI_row (by omega)]; exact k5
  obtain ⟨j', kb, sb⟩ := J0.tm hw hw' j rfl (fun _ h => h) b2' q2 v2 ls2 m2 cm sb2 (up_o (by decide)) rt2 rm ke2 (fun y h1 h2 => ⟨(j.2.2.2.2.2.2.2.2.1 y h1 h2).1, by rw [up_s, if_neg (by omega)]; exact (j.2.2.2.2.2.2.2.2.1 y h1 h2).2.2.2.2.1⟩) (fun _ _ h => h) (fun y _ h1 h2 => by have h1' : TD T y = true := h1; rw [h1'] at h2; cases h2) hv
  have p1 : KP ex (kwI K 0 e 5 x) := q.2.1.keep b1 (fun k i j z => by unfold xsR at z; unfold KPf; omega)
  exact ⟨S1, S2, S3, S4, K4, σ4, σ5, e1, p1.trees h1, h1.Rc 50 10 (p1.x (by decide) (by decide) (by decide)) rfl, e2, q2.1.g8 h2 he, g15 q2.1 h2 q2.2.2.1 he, q2.2.1.r11 h2, e3, q3.2.1.r11 h3, e4, rt2.p (by omega), tc, r4, r5, h4, j', kb, sb⟩
def P_at (T : qqT) (G : qqG) (σ : mS) (T' : qqT) (G' : qqG) (σ' : mS) : Prop := G' = G ∧ ∃ e x, e < Tn T ∧ ((T' = T ∧ f_markTest (nI e) ((1 : Int32) <<< (nI 12 &&& 31)) (up (sf σ 81 0) 3 e x) = some σ') ∨ (T' = Tat T e x ∧ ∃ σ4, f_markHosts (qqO (Tp T e)) (Tco T e) (up (sf σ 81 0) 4 e x) = some σ4 ∧ f_markTest (nI e) ((1 : Int32) <<< (nI 13 &&& 31)) σ4 = some σ'))
theorem sq_setAttribute {T : qqT} {G : qqG} {L : qqL} {A : kA} {ex : Nat → Nat → Prop} {K : kS} {v nw9 k : Nat} {S : cS} {σ : mS} (hk : k < 60000) (w : JW k T G L A ex K v nw9 S σ) (a1 a2 a3 : Int32) : sJR [2, 0] lvN (JP (pf T G σ (P_at T G σ)) (k + 1)) (f_X11_setAttribute 1 a1 a2 a3 S) (f_setAttribute a1 a2 a3 σ) := by
  obtain ⟨⟨hw, hA, hin⟩, h49, ⟨hv, hn, h54⟩, j⟩ := id w
  have h30 := hw.n30
  have q := j.1.1
  have rt := j.1.2.2.2
  refine at49 (P := fun x => sJR [2, 0] lvN (JP (pf T G σ (P_at T G σ)) (k + 1)) (f_X11_setAttribute x a1 a2 a3 S) (f_setAttribute a1 a2 a3 σ)) h49 ?_
  unfold f_X11_setAttribute f_setAttribute f_setAttribute_38
  have r1 : f_setAttribute_39 a1 a2 a3 1 σ = some (-1, sf σ 81 1) := by unfold f_setAttribute_39; rw [r_holds1, qqx]; rfl
  have r2 : f_setAttribute_39 a1 a2 a3 2 σ = some (-1, sf σ 81 2) := by unfold f_setAttribute_39; rw [r_holds2, qqx]; rfl
  rw [q.2.1.r11 hA, qqx, r_isElement rt hw, qqx, r1, r2]
  rcases ix_cases a1 (n := Tn T) (by omega) with ⟨e, he, rfl⟩ | hx
  · rw [c_elementAt hw q hA he, qqx, if_dt (nI_inn he (by omega)), r_in0 a2 (n := 2) (by decide) (by decide), qqx]
    show sJR _ _ _ ((f_X11_isBelow a2 (nI 2)).bind _) _
    rw [c_isBelow, qqx]
    have no : sJR [2, 0] lvN (JP (pf T G σ (P_at T G σ)) (k + 1)) (f_X11_setAttribute_29 (A 49 0) a2 a3 (some (A 0 e)) S) (some (-1, sf σ 81 2)) := by
      unfold f_X11_setAttribute_29 f_X11_setAttribute_34
      rw [c_refA1, qqx]
      exact sJR.l rfl (w.no 2)
    rcases ix_cases a2 (n := 2) (by decide) with ⟨y, hy, rfl⟩ | hx
    · rw [if_dt (nI_inn hy (by decide)), if_dt (nI_inn hy (by decide)), r_inm a3 (n := 10) (by decide) (by decide), qqx]
      have core : sJR [2, 0] lvN (JP (pf T G σ (P_at T G σ)) (k + 1)) (f_X11_setAttribute_33 (A 49 0) (nI y) a3 (some (A 0 e)) S) (f_setAttribute_39 (nI e) (nI y) a3 0 σ) := by
        unfold f_X11_setAttribute_33 f_X11_setAttribute_34 f_setAttribute_39
        rw [c_refA0, qqx, r_holds0, qqx, if_pos rfl]
        have j0 := j.scR (scR_sf σ 0)
        have ke := j.1.2.2.1 e he
        have x0 : ex 0 e := q.1.E he (by decide)
        obtain ⟨w0, w1, w2, w3⟩ := c_feat3
        show sJR _ _ _ (if nI y = (0:Int32) then ((gI S (some (A 0 e)) 3 4).bind (fun v4 => f_X11_setAttribute_54 (A 49 0) (nI y) a3 (some (A 0 e)) v4 S)) else ((gI S (some (A 0 e)) 3 5).bind (fun v3 => f_X11_setAttribute_54 (A 49 0) (nI y) a3 (some (A 0 e)) v3 S))) _
        by_cases c0 : y = 0
        · subst c0
          have g4 : gI S (some (A 0 e)) 3 4 = some (σ.1 3 e) := by rw [hA.I 0 3 x0 rfl, ke.2.2.2.1]
          have r3 : rd (sf σ 81 0) 3 (nI e) = some (σ.1 3 e) := rd_3 (by omega)
          rw [if_pos (show nI 0 = 0 from rfl), if_pos (show nI 0 = 0 from rfl), g4, qqx, r3, qqx]
          unfold f_X11_setAttribute_54 f_setAttribute_66 f_X11_setAttribute_109 f_setAttribute_104
          rw [if_pos (show nI 0 = 0 from rfl), if_pos (show nI 0 = 0 from rfl), wr_3 (by omega), qqx]
          obtain ⟨S1, S2, e1, e2, e3, h2, q2, S3, K3, σ3, e4, e5, h3, j3, b3, s3⟩ := feat_both hw hA j0 he (b := 12) (by omega) (f := 3) (jj := 4) (Or.inr (Or.inr (Or.inl ⟨rfl, rfl⟩))) a3 (by omega)
          have g0 : gR S1 (some (A 49 0)) 11 0 = some (some (A 50 0)) := by
            have h1' : KA A ex (kwI K 0 e 4 a3) S1 := by
              obtain ⟨S9, e9, h9⟩ := hA.PI (k := 0) (i := e) (t := 3) (j := 4) x0 rfl (by decide) a3
              rw [e9] at e1; cases e1; exact h9
            exact (q.2.1.keep ((kB.rf K).I (PI := fun _ _ _ => True) (PR := F3) trivial) (fun _ _ _ z => z.elim)).trees h1'
          have ft : f_X7_feature 3 (nI 0) = some ((1 : Int32) <<< (nI 12 &&& 31)) := w0
          have e5' : f_markTest (nI e) ((4096 : Int32) <<< (nI 0 &&& 31)) (up (sf σ 81 0) 3 e a3) = some σ3 := by
            rw [show (4096 : Int32) <<< (nI 0 &&& 31) = (1 : Int32) <<< (nI 12 &&& 31) from w2]; exact e5
          rw [e1, qqx, g0, qqx, e2, qqx, e3, qqx, ft, qqx, q2.2.1.r11 h2, qqx, e4, qqx, e5', qqx]
          obtain ⟨z1, z2⟩ := w.set h3 j3 b3 s3 (P := P_at T G σ) ⟨rfl, e, a3, he, Or.inl ⟨rfl, e5⟩⟩
          exact sJR.r rfl z1 z2
        · have c1 : y = 1 := by omega
          subst c1
          have g5 : gI S (some (A 0 e)) 3 5 = some (σ.1 4 e) := by rw [hA.I 0 3 x0 rfl, ke.2.2.2.2.1]
          have r4 : rd (sf σ 81 0) 4 (nI e) = some (σ.1 4 e) := rd_4 (by omega)
          rw [if_neg (show ¬ nI 1 = 0 by decide), if_neg (show ¬ nI 1 = 0 by decide), g5, qqx, r4, qqx]
          unfold f_X11_setAttribute_54 f_setAttribute_66 f_X11_setAttribute_109 f_setAttribute_104
          obtain ⟨S1, S2, S3, S', K', σ4, σ', p1, p2, p3, p4, p5, p6, p7, p8, p9, p10, p11, p12, p13, p14, p15, p16, p17, p18⟩ := at1_both hw hA j0 he a3 (by omega)
          have ft : f_X7_feature 3 (nI 1) = some ((1 : Int32) <<< (nI 13 &&& 31)) := w1
          have p14' : f_markTest (nI e) ((4096 : Int32) <<< (nI 1 &&& 31)) σ4 = some σ' := by
            rw [show (4096 : Int32) <<< (nI 1 &&& 31) = (1 : Int32) <<< (nI 13 &&& 31) from w3]; exact p14
          rw [if_neg (show ¬ nI 1 = 0 by decide), if_neg (show ¬ nI 1 = 0 by decide), wr_4 (by omega), qqx, p11, qqx, p12, qqx, p13, qqx, p14', qqx, p1, qqx, p2, qqx, p3, qqx, p4, qqx, p5, qqx, p6, qqx, p7, qqx, p8, qqx, ft, qqx, p9, qqx, p10, qqx]
          have f81 : σ'.2 81 = 0 := (p18.2 81 (by decide)).trans rfl
          have f54 : σ'.2 54 = σ.2 54 := (p18.2 54 (by decide)).trans rfl
          exact sJR.r rfl f81 (fun n hn1 => ⟨Tat T e a3, G, L, A, ex, K', v + 1, nw9, ⟨⟨Tat_w hw, p15.mono hn1, hin.kp p17 (fun i j => by unfold xtP; omega)⟩, h49, ⟨by omega, hn, f54.trans h54⟩, p16⟩, Or.inr ⟨f81, rfl, e, a3, he, Or.inr ⟨rfl, σ4, p13, p14⟩⟩⟩)
      by_cases hm : a3 = -1
      · rw [if_pos hm, decide_eq_true hm, Bool.true_or, if_neg (by decide)]
        exact core
      · rw [if_neg hm, decide_eq_false hm, Bool.false_or]
        show sJR _ _ _ ((f_X11_isBelow a3 (nI 10)).bind _) _
        rw [c_isBelow, qqx]
        by_cases c : 0 ≤ a3 ∧ a3 < nI 10
        · rw [if_dt c, if_dt c]; exact core
        · rw [if_df c, if_df c]; exact no
    · rw [if_df hx, if_df hx]; exact no
  · rw [c_elementN hw q hA hx, qqx, if_df hx]
    exact sJR.l rfl (w.no 1)
end TR3
